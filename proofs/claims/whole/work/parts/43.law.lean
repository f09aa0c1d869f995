/-! THE LAW: its world (printed by wip/whole/gen/c43.py), and what its calls stand on -/
/-- the state of both sides: the parts of the one, the parts of the other, what they share -/
def lx_S : Type := (tF × tF × tF × tF × tF × tF) × (tF × tF × tF × tF × tF × tF) × (tF × tF × tF × tF × tF × tF) × (Nat × Nat × Nat × Nat) × (Int32 × Int32 × Int32 × Int32 × Int32) × (Int32 × Int32 × Int32 × Int32 × Int32)
def lx_mk (P F B sr sd Rs : tF) (Cs As Rt Ct At Po : tF) (Pa Pb Pc G O Bm : tF) (n k ks kt : Nat) (hs ds es xs ht : Int32) (dt et tl nx th : Int32) : lx_S := ((P, F, B, sr, sd, Rs), (Cs, As, Rt, Ct, At, Po), (Pa, Pb, Pc, G, O, Bm), (n, k, ks, kt), (hs, ds, es, xs, ht), (dt, et, tl, nx, th))
def lx_S.P (S : lx_S) : tF := S.1.1
def lx_S.F (S : lx_S) : tF := S.1.2.1
def lx_S.B (S : lx_S) : tF := S.1.2.2.1
def lx_S.sr (S : lx_S) : tF := S.1.2.2.2.1
def lx_S.sd (S : lx_S) : tF := S.1.2.2.2.2.1
def lx_S.Rs (S : lx_S) : tF := S.1.2.2.2.2.2
def lx_S.Cs (S : lx_S) : tF := S.2.1.1
def lx_S.As (S : lx_S) : tF := S.2.1.2.1
def lx_S.Rt (S : lx_S) : tF := S.2.1.2.2.1
def lx_S.Ct (S : lx_S) : tF := S.2.1.2.2.2.1
def lx_S.At (S : lx_S) : tF := S.2.1.2.2.2.2.1
def lx_S.Po (S : lx_S) : tF := S.2.1.2.2.2.2.2
def lx_S.Pa (S : lx_S) : tF := S.2.2.1.1
def lx_S.Pb (S : lx_S) : tF := S.2.2.1.2.1
def lx_S.Pc (S : lx_S) : tF := S.2.2.1.2.2.1
def lx_S.G (S : lx_S) : tF := S.2.2.1.2.2.2.1
def lx_S.O (S : lx_S) : tF := S.2.2.1.2.2.2.2.1
def lx_S.Bm (S : lx_S) : tF := S.2.2.1.2.2.2.2.2
def lx_S.n (S : lx_S) : Nat := S.2.2.2.1.1
def lx_S.k (S : lx_S) : Nat := S.2.2.2.1.2.1
def lx_S.ks (S : lx_S) : Nat := S.2.2.2.1.2.2.1
def lx_S.kt (S : lx_S) : Nat := S.2.2.2.1.2.2.2
def lx_S.hs (S : lx_S) : Int32 := S.2.2.2.2.1.1
def lx_S.ds (S : lx_S) : Int32 := S.2.2.2.2.1.2.1
def lx_S.es (S : lx_S) : Int32 := S.2.2.2.2.1.2.2.1
def lx_S.xs (S : lx_S) : Int32 := S.2.2.2.2.1.2.2.2.1
def lx_S.ht (S : lx_S) : Int32 := S.2.2.2.2.1.2.2.2.2
def lx_S.dt (S : lx_S) : Int32 := S.2.2.2.2.2.1
def lx_S.et (S : lx_S) : Int32 := S.2.2.2.2.2.2.1
def lx_S.tl (S : lx_S) : Int32 := S.2.2.2.2.2.2.2.1
def lx_S.nx (S : lx_S) : Int32 := S.2.2.2.2.2.2.2.2.1
def lx_S.th (S : lx_S) : Int32 := S.2.2.2.2.2.2.2.2.2
def lx_X (cI cZ cJ : ClassId) (a : Nat → Nat) (S : lx_S) : va_W := [(a 0, .inr (0, [.ref (a 1), .ref (a 3), .ref (a 7), .ref (a 8), .ref (a 9), .ref (a 13)])), (a 1, .inr (1, [.ref (a 2), .int (nI S.n)])), (a 2, .inl (cI, 96, .inl S.P)), (a 3, .inr (2, [.ref (a 1), .ref (a 4), .ref (a 6)])), (a 4, .inr (1, [.ref (a 5), .int (nI S.k)])), (a 5, .inl (cI, 868, .inl S.F)), (a 6, .inl (cI, 25, .inl S.B)), (a 7, .inl (cI, 8, .inl S.sr)), (a 8, .inl (cI, 32, .inl S.sd)), (a 9, .inr (3, [.ref (a 1), .ref (a 10), .ref (a 11), .ref (a 12), .int (nI S.ks), .int S.hs, .int S.ds, .int S.es, .int S.xs])), (a 10, .inl (cI, 8, .inl S.Rs)), (a 11, .inl (cI, 32, .inl S.Cs)), (a 12, .inl (cI, 120, .inl S.As)), (a 13, .inr (4, [.ref (a 4), .ref (a 14), .ref (a 15), .ref (a 16), .int (nI S.kt), .int S.ht, .int S.dt, .int S.et, .ref (a 3)])), (a 14, .inl (cI, 8, .inl S.Rt)), (a 15, .inl (cI, 64, .inl S.Ct)), (a 16, .inl (cI, 120, .inl S.At))]
def lx_R (cI cZ cJ : ClassId) (a : Nat → Nat) (S : lx_S) : va_W := [(a 17, .inr (5, [.int S.th, .int (nI S.n), .ref (a 18), .ref (a 19), .ref (a 20), .ref (a 21), .int S.tl, .int (nI S.k), .ref (a 22), .ref (a 23), .ref (a 24), .ref (a 25), .ref (a 26), .ref (a 27), .ref (a 28), .ref (a 29), .ref (a 30), .ref (a 31), .ref (a 32), .ref (a 33), .int S.nx])), (a 18, .inl (cI, 24, .inl S.Po)), (a 19, .inl (cI, 24, .inl S.Pa)), (a 20, .inl (cI, 24, .inl S.Pb)), (a 21, .inl (cI, 24, .inl S.Pc)), (a 22, .inl (cI, 1600, .inl S.G)), (a 23, .inl (cZ, 400, .inl S.O)), (a 24, .inl (cI, 25, .inl S.Bm)), (a 25, .inl (cI, 8, .inl S.sr)), (a 26, .inl (cI, 32, .inl S.sd)), (a 27, .inl (cI, 16, .inl (tm_jn 8 S.Rs S.Rt))), (a 28, .inl (cI, 128, .inl (tm_jn 64 S.Cs S.Ct))), (a 29, .inl (cI, 2, .inl (tm_tw S.es S.et))), (a 30, .inl (cI, 2, .inl (tm_tw S.hs S.ht))), (a 31, .inl (cI, 2, .inl (tm_tw S.ds S.dt))), (a 32, .inl (cI, 2, .inl (tm_tw (nI S.ks) (nI S.kt)))), (a 33, .inl (cI, 240, .inl (tm_jn 120 S.As S.At)))]
def lx_w (cJ : ClassId) (a : Nat → Nat) (W0 : Nat → Int64) : Nat × va_E := (a 34, .inl (cJ, 1, .inr (.inl W0)))
def lx_W (cI cZ cJ : ClassId) (a : Nat → Nat) (S T : lx_S) (W0 : Nat → Int64) : va_W := lx_X cI cZ cJ a S ++ (lx_R cI cZ cJ a T ++ [lx_w cJ a W0])
/-- what may be written: what was made since the law began -/
def lx_A (s : State) : Nat → Prop := fun q => s.heap.size ≤ q
/-- what holds of the law's own walk all along -/
def lx_C (p : Program) (l : Launch) (s : State) (m : MethodId) (args : Array Value) (c : Code) (D : va_G) (cI cZ cJ : ClassId) (b L : Nat) (xs : Nat → Int32) : Prop := (p.tables.exec = Jvm.exec) ∧ (c.code = b_La_law) ∧ (c.maxLocals = 7) ∧ (s.vm.findClass R_La = some m.cls) ∧ (∀ w ∈ gG, w.before args s = true) ∧ (xK D cls (tyL cI cZ cJ) s) ∧ (xT s) ∧ (xV s) ∧ (va_X b L xs s s.heap) ∧ (b < s.heap.size) ∧ (L ≤ 2560) ∧ (xe_L l)
theorem lx_C.hx {p : Program} {l : Launch} {s : State} {m : MethodId} {args : Array Value} {c : Code} {D : va_G} {cI cZ cJ : ClassId} {b L : Nat} {xs : Nat → Int32} (X : lx_C p l s m args c D cI cZ cJ b L xs) : p.tables.exec = Jvm.exec := X.1
theorem lx_C.hb {p : Program} {l : Launch} {s : State} {m : MethodId} {args : Array Value} {c : Code} {D : va_G} {cI cZ cJ : ClassId} {b L : Nat} {xs : Nat → Int32} (X : lx_C p l s m args c D cI cZ cJ b L xs) : c.code = b_La_law := X.2.1
theorem lx_C.hml {p : Program} {l : Launch} {s : State} {m : MethodId} {args : Array Value} {c : Code} {D : va_G} {cI cZ cJ : ClassId} {b L : Nat} {xs : Nat → Int32} (X : lx_C p l s m args c D cI cZ cJ b L xs) : c.maxLocals = 7 := X.2.2.1
theorem lx_C.hown {p : Program} {l : Launch} {s : State} {m : MethodId} {args : Array Value} {c : Code} {D : va_G} {cI cZ cJ : ClassId} {b L : Nat} {xs : Nat → Int32} (X : lx_C p l s m args c D cI cZ cJ b L xs) : s.vm.findClass R_La = some m.cls := X.2.2.2.1
theorem lx_C.hg {p : Program} {l : Launch} {s : State} {m : MethodId} {args : Array Value} {c : Code} {D : va_G} {cI cZ cJ : ClassId} {b L : Nat} {xs : Nat → Int32} (X : lx_C p l s m args c D cI cZ cJ b L xs) : ∀ w ∈ gG, w.before args s = true := X.2.2.2.2.1
theorem lx_C.hK {p : Program} {l : Launch} {s : State} {m : MethodId} {args : Array Value} {c : Code} {D : va_G} {cI cZ cJ : ClassId} {b L : Nat} {xs : Nat → Int32} (X : lx_C p l s m args c D cI cZ cJ b L xs) : xK D cls (tyL cI cZ cJ) s := X.2.2.2.2.2.1
theorem lx_C.hT {p : Program} {l : Launch} {s : State} {m : MethodId} {args : Array Value} {c : Code} {D : va_G} {cI cZ cJ : ClassId} {b L : Nat} {xs : Nat → Int32} (X : lx_C p l s m args c D cI cZ cJ b L xs) : xT s := X.2.2.2.2.2.2.1
theorem lx_C.hV {p : Program} {l : Launch} {s : State} {m : MethodId} {args : Array Value} {c : Code} {D : va_G} {cI cZ cJ : ClassId} {b L : Nat} {xs : Nat → Int32} (X : lx_C p l s m args c D cI cZ cJ b L xs) : xV s := X.2.2.2.2.2.2.2.1
theorem lx_C.hX {p : Program} {l : Launch} {s : State} {m : MethodId} {args : Array Value} {c : Code} {D : va_G} {cI cZ cJ : ClassId} {b L : Nat} {xs : Nat → Int32} (X : lx_C p l s m args c D cI cZ cJ b L xs) : va_X b L xs s s.heap := X.2.2.2.2.2.2.2.2.1
theorem lx_C.hbl {p : Program} {l : Launch} {s : State} {m : MethodId} {args : Array Value} {c : Code} {D : va_G} {cI cZ cJ : ClassId} {b L : Nat} {xs : Nat → Int32} (X : lx_C p l s m args c D cI cZ cJ b L xs) : b < s.heap.size := X.2.2.2.2.2.2.2.2.2.1
theorem lx_C.hL {p : Program} {l : Launch} {s : State} {m : MethodId} {args : Array Value} {c : Code} {D : va_G} {cI cZ cJ : ClassId} {b L : Nat} {xs : Nat → Int32} (X : lx_C p l s m args c D cI cZ cJ b L xs) : L ≤ 2560 := X.2.2.2.2.2.2.2.2.2.2.1
theorem lx_C.hLx {p : Program} {l : Launch} {s : State} {m : MethodId} {args : Array Value} {c : Code} {D : va_G} {cI cZ cJ : ClassId} {b L : Nat} {xs : Nat → Int32} (X : lx_C p l s m args c D cI cZ cJ b L xs) : xe_L l := X.2.2.2.2.2.2.2.2.2.2.2
/-- the world between two calls -/
def lx_H (D : va_G) (cI cZ cJ : ClassId) (s : State) (a : Nat → Nat) (S T : lx_S) (W0 : Nat → Int64) (H : Heap) (locs : List Loc) : Prop := (va_P D cls (lx_W cI cZ cJ a S T W0) H) ∧ (va_D (lx_A s) (lx_W cI cZ cJ a S T W0)) ∧ (va_S (lx_A s) s.heap H locs)
theorem lx_H.hP {D : va_G} {cI cZ cJ : ClassId} {s : State} {a : Nat → Nat} {S T : lx_S} {W0 : Nat → Int64} {H : Heap} {locs : List Loc} (X : lx_H D cI cZ cJ s a S T W0 H locs) : va_P D cls (lx_W cI cZ cJ a S T W0) H := X.1
theorem lx_H.hD {D : va_G} {cI cZ cJ : ClassId} {s : State} {a : Nat → Nat} {S T : lx_S} {W0 : Nat → Int64} {H : Heap} {locs : List Loc} (X : lx_H D cI cZ cJ s a S T W0 H locs) : va_D (lx_A s) (lx_W cI cZ cJ a S T W0) := X.2.1
theorem lx_H.hS {D : va_G} {cI cZ cJ : ClassId} {s : State} {a : Nat → Nat} {S T : lx_S} {W0 : Nat → Int64} {H : Heap} {locs : List Loc} (X : lx_H D cI cZ cJ s a S T W0 H locs) : va_S (lx_A s) s.heap H locs := X.2.2
theorem lx_hT {s : State} {H : Heap} {locs : List Loc} (hT : xT s) (hS : va_S (lx_A s) s.heap H locs) : ∀ U : State, U.heap = H → s.WarmedH U.vm → xT U :=
  fun U hU hW => xT_mv hT hW (fun q hq => by rw [hU]; exact hS.2.1 q hq (Nat.not_le.mpr hq))
section LX
variable {p : Program} {l : Launch} {e : Env} {s : State} {m : MethodId} {args : Array Value} {below : List Frame} {meth : Method} {c : Code} {D : va_G} {cI cZ cJ : ClassId} {b L : Nat} {xs : Nat → Int32} {Q : State → Prop} {R : Room} {H : Heap} {locs : List Loc} {cells slots : Nat} {ls : Array Slot} {rest : List Value} {pc : Nat}
/-- an int of the script -/
theorem lx_ld (C : lx_C p l s m args c D cI cZ cJ b L xs) (hS : va_S (lx_A s) s.heap H locs) {kx : Nat} {v : Int32} (hv : xs kx = v) (hk : kx < L) (hd : decode b_La_law pc = .ok (.iaload, 1))
    (k : W p l e R s m args below meth c H locs cells slots Q (F0 m (pc + 1) ls (.int v :: rest))) : W p l e R s m args below meth c H locs cells slots Q (F0 m pc ls (.int (nI kx) :: .ref b :: rest)) := by
  have hL := C.hL
  refine va_sld C.hx C.hb C.hX C.hbl (Nat.not_le.mpr C.hbl) hS (vp_in_nI hk (by omega)) hd ?_
  rw [nI_clamp (by omega), hv]; exact k
/-- two equal longs -/
theorem lx_cmp (C : lx_C p l s m args c D cI cZ cJ b L xs) {W0 : Nat → Int64} {r1 r2 : Int32} (h : r1 = r2) (hd : decode b_La_law pc = .ok (.lcmp, 1))
    (k : W p l e R s m args below meth c H locs cells slots Q (F0 m (pc + 1) ls (.int 0 :: rest))) : W p l e R s m args below meth c H locs cells slots Q (F0 m pc ls (.long r2.toInt64 :: .long (vp_updL W0 0 r1.toInt64 0) :: rest)) := by
  subst h
  refine W.lcmp C.hx C.hb hd ?_
  have e0 : vp_updL W0 0 r1.toInt64 0 = r1.toInt64 := by unfold vp_updL; exact if_pos rfl
  rw [show lg_cmp (vp_updL W0 0 r1.toInt64 0) r1.toInt64 = 0 by rw [e0]; simp [lg_cmp]]
  exact k
end LX
/-! PURE: the answers of both sides -/
theorem lx_cel0 {f g : tF} {r : Nat} (h : r < 64) : f r = tm_jn 64 f g (0 + r) := by rw [Nat.zero_add, tm_jn_lo h]
theorem lx_cel1 {f g : tF} {r : Nat} : g r = tm_jn 64 f g (64 + r) := tm_jn_hi.symm
theorem lx_acc0 {f g : tF} {q w : Nat} (h : q * 3 + w < 120) : f (q * 3 + w) = tm_jn 120 f g (0 + 3 * q + w) := by
  rw [show 0 + 3 * q + w = q * 3 + w by omega, tm_jn_lo h]
theorem lx_acc1 {f g : tF} {q w : Nat} (_ : q * 3 + w < 120) : g (q * 3 + w) = tm_jn 120 f g (120 + 3 * q + w) := by
  rw [show 120 + 3 * q + w = 120 + (q * 3 + w) by omega, tm_jn_hi]
theorem lx_res0 {Rs Rt : tF} {es et hs ht ds dt ks kt : Int32} {q : Nat} (hq : q ≤ 11) : (if tm_wi (nI q) 0 7 = 0 then tm_q4 (nI q) es hs ds ks else Rs (nI q).toNatClampNeg) = if q < 8 then tm_jn 8 Rs Rt q else if q = 8 then tm_tw es et 0 else if q = 9 then tm_tw hs ht 0 else if q = 10 then tm_tw ds dt 0 else tm_tw ks kt 0 := by
  by_cases h : q < 8
  · have e : ¬ tm_wi (nI q) 0 7 = 0 := tm_wi_y (nI_le (a := 0) (b := q) (by omega) (by omega)) (nI_le (a := q) (b := 7) (by omega) (by decide))
    rw [if_neg e, if_pos h, nI_clamp (by omega), tm_jn_lo h]
  · have e : tm_wi (nI q) 0 7 = 0 := tm_wi_0 (Or.inr (nI_lt (a := 7) (b := q) (by omega) (by omega)))
    rw [if_pos e, if_neg h]
    rcases (show q = 8 ∨ q = 9 ∨ q = 10 ∨ q = 11 by omega) with e | e | e | e <;> subst e <;> rfl
theorem lx_res1 {Rs Rt Cs Ct : tF} {es et hs ht ds dt ks kt : Int32} {q : Nat} (hq : q ≤ 11) : (if tm_wi (nI q) 0 7 = 0 then tm_q4 (nI q) et ht dt kt else (if (nI q).toNatClampNeg < 4 then Rt (nI q).toNatClampNeg else Ct (32 + (nI q).toNatClampNeg))) = if q < 8 then (if q < 4 then tm_jn 8 Rs Rt (8 + q) else tm_jn 64 Cs Ct (96 + q)) else if q = 8 then tm_tw es et 1 else if q = 9 then tm_tw hs ht 1 else if q = 10 then tm_tw ds dt 1 else tm_tw ks kt 1 := by
  by_cases h : q < 8
  · have e : ¬ tm_wi (nI q) 0 7 = 0 := tm_wi_y (nI_le (a := 0) (b := q) (by omega) (by omega)) (nI_le (a := q) (b := 7) (by omega) (by decide))
    rw [if_neg e, if_pos h, nI_clamp (by omega), tm_jn_hi, show 96 + q = 64 + (32 + q) by omega, tm_jn_hi]
  · have e : tm_wi (nI q) 0 7 = 0 := tm_wi_0 (Or.inr (nI_lt (a := 7) (b := q) (by omega) (by omega)))
    rw [if_pos e, if_neg h]
    rcases (show q = 8 ∨ q = 9 ∨ q = 10 ∨ q = 11 by omega) with e | e | e | e <;> subst e <;> rfl
theorem lx_q4 {z a b c d x : Int32} (hz : tm_wi z 0 11 = 0) : (if tm_wi z 0 7 = 0 then tm_q4 z a b c d else x) = -1 := by
  have h7 : tm_wi z 0 7 = 0 := Decidable.byContradiction (fun h => tm_wi_y (tm_wi_n h).1 (Int32.le_trans (tm_wi_n h).2 (by decide)) hz)
  have n : ∀ k : Int32, ¬ tm_wi k 0 11 = 0 → ¬ z = k := fun k hk e => hk (e ▸ hz)
  rw [if_pos h7]
  unfold tm_q4
  rw [if_neg (n 8 (by decide)), if_neg (n 9 (by decide)), if_neg (n 10 (by decide)), if_neg (n 11 (by decide))]
theorem lx_wi {z hi : Int32} {n : Nat} (hM : hi.toInt = n) (h : ¬ tm_wi z 0 hi = 0) : ∃ j : Nat, j ≤ n ∧ z = nI j := nI_of2 hM (Int32.not_lt.mpr (tm_wi_n h).1) (tm_wi_n h).2
theorem lx_im {y : Int32} (h : ¬ tm_im y = 0) : y = 0 ∨ y = 1 := by
  unfold tm_im at h
  by_cases h0 : y = 0
  · exact Or.inl h0
  · by_cases h1 : y = 1
    · exact Or.inr h1
    · rw [if_neg h0, if_neg h1] at h; exact absurd rfl h
/-- a target's run over a code that agrees -/
theorem lx_jt {G K : tF} {N : Nat} {J : tM → Prop} (h : ∀ j, j < 4 * N → G j = K j) (hJ : tm_jt K N J) : tm_jt G N J := by
  intro S hS he
  obtain ⟨q, v, a, b, w, dd, h1, hq, h2, h3, h4, h5, h6, h7, h8, h9, h10, h11, h12, h13, h14⟩ := hJ S hS he
  have g0 := h (4 * q) (by omega)
  have g1 := h (4 * q + 1) (by omega)
  have g2 := h (4 * q + 2) (by omega)
  have g3 := h (4 * q + 3) (by omega)
  have et := tm_ts_eq g0 g1 g2 g3 S
  refine ⟨q, v, a, b, w, dd, h1, hq, g0.trans h2, h3, g1.trans h4, h5, g2.trans h6, h7, fun x y => by rw [g3]; exact h8 x y, fun x y => ?_, h10, h11, h12, by rw [et]; exact h13, by rw [et]; exact h14⟩
  unfold tm_adr
  rw [g2, g3]
  exact h9 x y

