/-! PURE: the machines, as the class writes them. R registers, C cells, A accesses, k how many are kept, h here, d done, e ended, x next. -/
abbrev tF : Type := Nat → Int32
def tm_set (R : tF) (r v : Int32) : tF := if r = 0 then R else upd R r.toNatClampNeg v
def tm_calc (o x y : Int32) : Int32 := if o = 2 then tm_wr (x - y) else if o = 3 then x &&& y else if o = 4 then (if x < y then 1 else 0) else if o = 6 then tm_wr (256 * y) else tm_wr (x + y)
def tm_ka (A : tF) (k : Nat) (a w v : Int32) : tF := if 40 ≤ k then A else upd (upd (upd A (3 * k) a) (3 * k + 1) w) (3 * k + 2) v
def tm_kk (k : Nat) : Nat := if 40 ≤ k then k else k + 1
/-- keeping an access of the cell a, if it is a data cell -/
def tm_da (A : tF) (k : Nat) (a w v : Int32) : tF := if 32 ≤ a then A else tm_ka A k a w v
def tm_dk (k : Nat) (a : Int32) : Nat := if 32 ≤ a then k else tm_kk k
/-- registers, cells, accesses, how many are kept, here, done, ended, next -/
abbrev tM : Type := tF × tF × tF × Nat × Int32 × Int32 × Int32 × Int32
/-- the address that LOAD and STORE name -/
def tm_adr (F : tF) (q : Nat) (R : tF) : Int32 := tm_wr (R (F (4 * q + 2)).toNatClampNeg + F (4 * q + 3))
def tm_alu (F : tF) (q : Nat) (R : tF) : tF := tm_set R (F (4 * q + 1)) (tm_calc (F (4 * q)) (R (F (4 * q + 2)).toNatClampNeg) (if 4 < F (4 * q) then F (4 * q + 3) else R (F (4 * q + 3) &&& 7).toNatClampNeg))
/-- a branch of the source: what follows the next place -/
def tm_sb (F : tF) (q : Nat) (R : tF) (x : Int32) : Int32 :=
  if F (4 * q) = 9 then (if R (F (4 * q + 1)).toNatClampNeg = R (F (4 * q + 2)).toNatClampNeg then nI (q + 1) + F (4 * q + 3) else x + 1)
  else if F (4 * q) = 10 then (if R (F (4 * q + 1)).toNatClampNeg = R (F (4 * q + 2)).toNatClampNeg then x + 1 else nI (q + 1) + F (4 * q + 3))
  else if F (4 * q) = 13 then R (F (4 * q + 1)).toNatClampNeg else F (4 * q + 3)
/-- a branch of the target: the next place -/
def tm_tb (F : tF) (q : Nat) (R : tF) : Int32 :=
  if F (4 * q) = 9 then (if R (F (4 * q + 1)).toNatClampNeg = R (F (4 * q + 2)).toNatClampNeg then F (4 * q + 3) else nI (q + 1))
  else if F (4 * q) = 10 then (if R (F (4 * q + 1)).toNatClampNeg = R (F (4 * q + 2)).toNatClampNeg then nI (q + 1) else F (4 * q + 3))
  else if F (4 * q) = 12 then (if R (F (4 * q + 1)).toNatClampNeg &&& 65535 < R (F (4 * q + 2)).toNatClampNeg &&& 65535 then nI (q + 1) else F (4 * q + 3))
  else if F (4 * q) = 13 then R (F (4 * q + 1)).toNatClampNeg else F (4 * q + 3)
/-- LOAD and STORE at a cell that is there -/
def tm_mR (F : tF) (q : Nat) (R C : tF) : tF := if F (4 * q) = 8 then R else tm_set R (F (4 * q + 1)) (C (tm_adr F q R).toNatClampNeg)
def tm_mC (F : tF) (q : Nat) (R C : tF) : tF := if F (4 * q) = 8 then upd C (tm_adr F q R).toNatClampNeg (R (F (4 * q + 1)).toNatClampNeg) else C
def tm_mA (F : tF) (q : Nat) (R C A : tF) (k : Nat) : tF := tm_da A k (tm_adr F q R) (if F (4 * q) = 8 then 1 else 0) (if F (4 * q) = 8 then R (F (4 * q + 1)).toNatClampNeg else C (tm_adr F q R).toNatClampNeg)
/-- one turn of the source at the place q -/
def tm_ss (F : tF) (q : Nat) (s : tM) : tM :=
  match s with
  | (R, C, A, k, h, d, e, x) =>
    if 13 < F (4 * q) then (R, C, A, k, h, d, 2, x)
    else if F (4 * q) = 0 then (R, C, A, k, h, d + 1, 1, x)
    else if F (4 * q) < 7 then (tm_alu F q R, C, A, k, x, d + 1, e, x + 1)
    else if F (4 * q) < 9 then
      (if tm_adr F q R < 0 ∨ nI 32 ≤ tm_adr F q R then (R, C, A, k, h, d, 2, x)
       else (tm_mR F q R C, tm_mC F q R C, tm_mA F q R C A k, tm_dk k (tm_adr F q R), x, d + 1, e, x + 1))
    else (if F (4 * q) = 12 then tm_set R 7 (nI (q + 2)) else R, C, A, k, x, d + 1, e, tm_sb F q R x)
/-- one turn of the target at the place q -/
def tm_ts (F : tF) (q : Nat) (s : tM) : tM :=
  match s with
  | (R, C, A, k, h, d, e, x) =>
    if 13 < F (4 * q) then (R, C, A, k, h, d, 2, x)
    else if F (4 * q) = 0 then (R, C, A, k, h, d + 1, if F (4 * q + 3) = 0 then 1 else 2, x)
    else if F (4 * q) < 7 then (tm_alu F q R, C, A, k, nI (q + 1), d + 1, e, x)
    else if F (4 * q) < 9 then
      (if tm_adr F q R < 0 ∨ nI 64 ≤ tm_adr F q R then (R, C, A, k, h, d, 2, x)
       else (tm_mR F q R C, tm_mC F q R C, tm_mA F q R C A k, tm_dk k (tm_adr F q R), nI (q + 1), d + 1, e, x))
    else (R, C, A, k, tm_tb F q R, d + 1, e, x)
/-- a run of at most g turns -/
def tm_run (stp : tF → Nat → tM → tM) (F : tF) (N : Nat) : Nat → tM → tM
  | 0, s => s
  | g + 1, s => if s.2.2.2.2.2.2.1 ≠ 0 then s else if tm_hs N s.2.2.2.2.1 = 0 then (s.1, s.2.1, s.2.2.1, s.2.2.2.1, s.2.2.2.2.1, s.2.2.2.2.2.1, 2, s.2.2.2.2.2.2.2) else tm_run stp F N g (stp F s.2.2.2.2.1.toNatClampNeg s)
