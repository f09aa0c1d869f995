/-! PURE: the machines, as the class writes them. R registers, C cells, A accesses, k how many are kept, h here, d done, e ended, x next. -/
abbrev tF : Type := Nat → Int32
def tm_set (R : tF) (r v : Int32) : tF := if r = 0 then R else upd R r.toNatClampNeg v
def tm_calc (o x y : Int32) : Int32 := if o = 2 then tm_wr (x - y) else if o = 3 then x &&& y else if o = 4 then (if x < y then 1 else 0) else if o = 6 then tm_wr (256 * y) else tm_wr (x + y)
def tm_ka (A : tF) (k : Nat) (a w v : Int32) : tF := if 40 ≤ k then A else upd (upd (upd A (3 * k) a) (3 * k + 1) w) (3 * k + 2) v
def tm_kk (k : Nat) : Nat := if 40 ≤ k then k else k + 1
/-- keeping an access of the cell a, if it is a data cell -/
def tm_da (A : tF) (k : Nat) (a w v : Int32) : tF := if a < 32 then tm_ka A k a w v else A
def tm_dk (k : Nat) (a : Int32) : Nat := if a < 32 then tm_kk k else k
abbrev tM : Type := tF × tF × tF × Nat × Int32 × Int32 × Int32 × Int32
/-- the address that LOAD and STORE name -/
def tm_adr (F : tF) (q : Nat) (R : tF) : Int32 := tm_wr (R (F (4 * q + 2)).toNatClampNeg + F (4 * q + 3))
def tm_alu (F : tF) (q : Nat) (R : tF) : tF := tm_set R (F (4 * q + 1)) (tm_calc (F (4 * q)) (R (F (4 * q + 2)).toNatClampNeg) (if F (4 * q) ≤ 4 then R (fmv (F (4 * q + 3)) 8).toNatClampNeg else F (4 * q + 3)))
/-- a branch of the source: what follows the next place -/
def tm_sb (F : tF) (q : Nat) (R : tF) (h x : Int32) : Int32 :=
  if F (4 * q) = 9 then (if R (F (4 * q + 1)).toNatClampNeg = R (F (4 * q + 2)).toNatClampNeg then h + 1 + F (4 * q + 3) else x + 1)
  else if F (4 * q) = 10 then (if R (F (4 * q + 1)).toNatClampNeg = R (F (4 * q + 2)).toNatClampNeg then x + 1 else h + 1 + F (4 * q + 3))
  else if F (4 * q) = 13 then R (F (4 * q + 1)).toNatClampNeg else F (4 * q + 3)
/-- a branch of the target: the next place -/
def tm_tb (F : tF) (q : Nat) (R : tF) (h : Int32) : Int32 :=
  if F (4 * q) = 9 then (if R (F (4 * q + 1)).toNatClampNeg = R (F (4 * q + 2)).toNatClampNeg then F (4 * q + 3) else h + 1)
  else if F (4 * q) = 10 then (if R (F (4 * q + 1)).toNatClampNeg = R (F (4 * q + 2)).toNatClampNeg then h + 1 else F (4 * q + 3))
  else if F (4 * q) = 12 then (if R (F (4 * q + 2)).toNatClampNeg &&& 65535 ≤ R (F (4 * q + 1)).toNatClampNeg &&& 65535 then F (4 * q + 3) else h + 1)
  else if F (4 * q) = 13 then R (F (4 * q + 1)).toNatClampNeg else F (4 * q + 3)
/-- one turn of the source at the place q -/
def tm_ss (F : tF) (q : Nat) (s : tM) : tM :=
  match s with
  | (R, C, A, k, h, d, e, x) =>
    if 13 < F (4 * q) then (R, C, A, k, h, d, 2, x)
    else if F (4 * q) = 0 then (R, C, A, k, h, d + 1, 1, x)
    else if F (4 * q) < 7 then (tm_alu F q R, C, A, k, x, d + 1, e, x + 1)
    else if F (4 * q) < 9 then
      (if tm_adr F q R < 0 ∨ 32 ≤ tm_adr F q R then (R, C, A, k, h, d, 2, x)
       else if F (4 * q) = 8 then (R, upd C (tm_adr F q R).toNatClampNeg (R (F (4 * q + 1)).toNatClampNeg), tm_ka A k (tm_adr F q R) 1 (R (F (4 * q + 1)).toNatClampNeg), tm_kk k, x, d + 1, e, x + 1)
       else (tm_set R (F (4 * q + 1)) (C (tm_adr F q R).toNatClampNeg), C, tm_ka A k (tm_adr F q R) 0 (C (tm_adr F q R).toNatClampNeg), tm_kk k, x, d + 1, e, x + 1))
    else (if F (4 * q) = 12 then tm_set R 7 (h + 2) else R, C, A, k, x, d + 1, e, tm_sb F q R h x)
/-- one turn of the target at the place q -/
def tm_ts (F : tF) (q : Nat) (s : tM) : tM :=
  match s with
  | (R, C, A, k, h, d, e, x) =>
    if 13 < F (4 * q) then (R, C, A, k, h, d, 2, x)
    else if F (4 * q) = 0 then (R, C, A, k, h, d + 1, if F (4 * q + 3) = 0 then 1 else 2, x)
    else if F (4 * q) < 7 then (tm_alu F q R, C, A, k, h + 1, d + 1, e, x)
    else if F (4 * q) < 9 then
      (if tm_adr F q R < 0 ∨ 64 ≤ tm_adr F q R then (R, C, A, k, h, d, 2, x)
       else if F (4 * q) = 8 then (R, upd C (tm_adr F q R).toNatClampNeg (R (F (4 * q + 1)).toNatClampNeg), tm_da A k (tm_adr F q R) 1 (R (F (4 * q + 1)).toNatClampNeg), tm_dk k (tm_adr F q R), h + 1, d + 1, e, x)
       else (tm_set R (F (4 * q + 1)) (C (tm_adr F q R).toNatClampNeg), C, tm_da A k (tm_adr F q R) 0 (C (tm_adr F q R).toNatClampNeg), tm_dk k (tm_adr F q R), h + 1, d + 1, e, x))
    else (R, C, A, k, tm_tb F q R h, d + 1, e, x)
/-- a run of at most g turns -/
def tm_run (stp : tF → Nat → tM → tM) (F : tF) (N : Nat) : Nat → tM → tM
  | 0, s => s
  | g + 1, s => if s.2.2.2.2.2.2.1 ≠ 0 then s else if 0 ≤ s.2.2.2.2.1 ∧ s.2.2.2.2.1 < nI N then tm_run stp F N g (stp F s.2.2.2.2.1.toNatClampNeg s) else (s.1, s.2.1, s.2.2.1, s.2.2.2.1, s.2.2.2.2.1, s.2.2.2.2.2.1, 2, s.2.2.2.2.2.2.2)
