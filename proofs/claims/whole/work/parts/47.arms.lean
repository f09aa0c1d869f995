/-! THE LAW: what holds between two calls, and that each call keeps it (printed by wip/whole/gen/c47.py) -/
/-- what holds between two calls: both sides' parts are of one program and its translation -/
def lx_I (S : lx_S) : Prop := (∀ i, S.Po i = S.P (4 * i)) ∧ (∀ i, S.Pa i = S.P (4 * i + 1)) ∧ (∀ i, S.Pb i = S.P (4 * i + 2)) ∧ (∀ i, S.Pc i = S.P (4 * i + 3)) ∧ (S.n ≤ 24) ∧ (tm_in S.P S.n) ∧ (S.sr 0 = 0) ∧ (∀ i, tm_sh (S.sr i)) ∧ (∀ i, tm_sh (S.sd i)) ∧ (S.ks ≤ 40) ∧ (S.kt ≤ 40) ∧ ((S.k = 0 ∧ S.tl = 0) ∨ (¬ S.tl = 0 ∧ S.k = tm_of S.P S.n S.n + 1 ∧ tm_ok S.P S.n ∧ (∀ j, j < 4 * S.k → S.F j = tm_K S.P S.n j) ∧ (∀ j, j < 4 * S.k → S.G j = tm_K S.P S.n j) ∧ (∀ x, x ≤ S.n → S.B x = nI (tm_of S.P S.n x)) ∧ (∀ x, x ≤ S.n → S.Bm x = nI (tm_of S.P S.n x))))
theorem lx_I.hPo {S : lx_S} (X : lx_I S) : ∀ i, S.Po i = S.P (4 * i) := X.1
theorem lx_I.hPa {S : lx_S} (X : lx_I S) : ∀ i, S.Pa i = S.P (4 * i + 1) := X.2.1
theorem lx_I.hPb {S : lx_S} (X : lx_I S) : ∀ i, S.Pb i = S.P (4 * i + 2) := X.2.2.1
theorem lx_I.hPc {S : lx_S} (X : lx_I S) : ∀ i, S.Pc i = S.P (4 * i + 3) := X.2.2.2.1
theorem lx_I.hn {S : lx_S} (X : lx_I S) : S.n ≤ 24 := X.2.2.2.2.1
theorem lx_I.hin {S : lx_S} (X : lx_I S) : tm_in S.P S.n := X.2.2.2.2.2.1
theorem lx_I.s0 {S : lx_S} (X : lx_I S) : S.sr 0 = 0 := X.2.2.2.2.2.2.1
theorem lx_I.hr {S : lx_S} (X : lx_I S) : ∀ i, tm_sh (S.sr i) := X.2.2.2.2.2.2.2.1
theorem lx_I.hd {S : lx_S} (X : lx_I S) : ∀ i, tm_sh (S.sd i) := X.2.2.2.2.2.2.2.2.1
theorem lx_I.hks {S : lx_S} (X : lx_I S) : S.ks ≤ 40 := X.2.2.2.2.2.2.2.2.2.1
theorem lx_I.hkt {S : lx_S} (X : lx_I S) : S.kt ≤ 40 := X.2.2.2.2.2.2.2.2.2.2.1
theorem lx_I.hk {S : lx_S} (X : lx_I S) : (S.k = 0 ∧ S.tl = 0) ∨ (¬ S.tl = 0 ∧ S.k = tm_of S.P S.n S.n + 1 ∧ tm_ok S.P S.n ∧ (∀ j, j < 4 * S.k → S.F j = tm_K S.P S.n j) ∧ (∀ j, j < 4 * S.k → S.G j = tm_K S.P S.n j) ∧ (∀ x, x ≤ S.n → S.B x = nI (tm_of S.P S.n x)) ∧ (∀ x, x ≤ S.n → S.Bm x = nI (tm_of S.P S.n x))) := X.2.2.2.2.2.2.2.2.2.2.2
theorem lx_k217 {S : lx_S} (I : lx_I S) : S.k ≤ 217 := by
  rcases I.hk with h | h
  · rw [h.1]; exact Nat.zero_le _
  · rw [h.2.1]; exact tm_fits I.hn h.2.2.1
theorem lx_FG {S : lx_S} (I : lx_I S) {j : Nat} (h : j < 4 * S.k) : S.F j = S.G j := by
  rcases I.hk with g | g
  · rw [g.1] at h; omega
  · exact (g.2.2.2.1 j h).trans (g.2.2.2.2.1 j h).symm
theorem lx_op {P : tF} {n : Nat} (hn : n ≤ 24) (hin : tm_in P n) (hok : tm_ok P n) : ∀ x ∈ tm_all P n, tm_op n x := fun x hx => tm_fi_op ((sg_all hn hin hok).1 x hx)
theorem lx_w17 {z : Int32} (h : ¬ tm_wi z 1 7 = 0) : ∃ r : Nat, 1 ≤ r ∧ r ≤ 7 ∧ z = nI r := by
  obtain ⟨h1, h7⟩ := tm_wi_n h
  have h0 : ¬ z < 0 := Int32.not_lt.mpr (Int32.le_trans (by decide) h1)
  obtain ⟨j, hj, e⟩ := nI_of2 (M := 7) (n := 7) rfl h0 h7
  refine ⟨j, ?_, hj, e⟩
  rw [e] at h1
  exact (nI_leI (a := 1) (b := j) (by decide) (by omega)).mp h1
theorem lx_I_th {S : lx_S} {v : Int32} (I : lx_I S) : lx_I (lx_mk S.P S.F S.B S.sr S.sd S.Rs S.Cs S.As S.Rt S.Ct S.At S.Po S.Pa S.Pb S.Pc S.G S.O S.Bm S.n S.k S.ks S.kt S.hs S.ds S.es S.xs S.ht S.dt S.et S.tl S.nx v) := ⟨I.hPo, I.hPa, I.hPb, I.hPc, I.hn, I.hin, I.s0, I.hr, I.hd, I.hks, I.hkt, I.hk⟩
theorem lx_I_add {S : lx_S} {u1 u2 u3 u4 : Int32} (I : lx_I S) (hn : S.n < 24) (g1 : ¬ tm_wi u1 0 15 = 0) (g2 : ¬ tm_wi u2 0 7 = 0) (g3 : ¬ tm_wi u3 0 7 = 0) (g4 : ¬ tm_wi u4 (-128) 127 = 0) : lx_I (s1_add S u1 u2 u3 u4) := by
  obtain ⟨e0, e1, e2, e3⟩ := tm_w4_in S.P S.n u1 u2 u3 u4
  exact ⟨tm_po_add (c := 0) I.hPo (by decide) e0, tm_po_add (c := 1) I.hPa (by decide) e1, tm_po_add (c := 2) I.hPb (by decide) e2, tm_po_add (c := 3) I.hPc (by decide) e3, hn, tm_in_add I.hin g1 g2 g3 g4, I.s0, I.hr, I.hd, I.hks, I.hkt, Or.inl ⟨rfl, rfl⟩⟩
theorem lx_I_clear {S : lx_S} (I : lx_I S) : lx_I (s1_clear S) := ⟨I.hPo, I.hPa, I.hPb, I.hPc, Nat.zero_le _, fun p hp => absurd hp (Nat.not_lt_zero p), I.s0, I.hr, I.hd, I.hks, I.hkt, Or.inl ⟨rfl, rfl⟩⟩
theorem lx_I_no {S : lx_S} (I : lx_I S) : lx_I (s1_translate_no S) := ⟨I.hPo, I.hPa, I.hPb, I.hPc, I.hn, I.hin, I.s0, I.hr, I.hd, I.hks, I.hkt, Or.inl ⟨rfl, rfl⟩⟩
theorem lx_I_ok {S : lx_S} (I : lx_I S) (hok : tm_ok S.P S.n) : lx_I (s1_translate_ok S) := ⟨I.hPo, I.hPa, I.hPb, I.hPc, I.hn, I.hin, I.s0, I.hr, I.hd, I.hks, I.hkt, Or.inr ⟨show ¬ (1 : Int32) = 0 by decide, rfl, hok, tm_K_F I.hn (lx_op I.hn I.hin hok) S.B _, tm_K_G I.hn (lx_op I.hn I.hin hok) S.Bm S.O S.G, fun x hx => tm_bg_at S.P S.n _ (S.n + 1) x (Nat.lt_succ_of_le hx), fun x hx => tm_bg_at S.P S.n _ (S.n + 1) x (Nat.lt_succ_of_le hx)⟩⟩
theorem lx_sh {v : Int32} (g : ¬ tm_wi v (-32768) 32767 = 0) : tm_sh v := tm_sh_of (tm_wi_n g).1 (tm_wi_n g).2
theorem lx_I_reg {S : lx_S} {r : Nat} {v : Int32} (I : lx_I S) (h1 : 1 ≤ r) (g : ¬ tm_wi v (-32768) 32767 = 0) : lx_I (s1_register S r v) := ⟨I.hPo, I.hPa, I.hPb, I.hPc, I.hn, I.hin, by
    show upd S.sr r v 0 = 0
    unfold upd
    rw [if_neg (by omega)]; exact I.s0, fun i => by
    show tm_sh (upd S.sr r v i)
    unfold upd
    split
    · exact lx_sh g
    · exact I.hr i, I.hd, I.hks, I.hkt, I.hk⟩
theorem lx_I_dat {S : lx_S} {r : Nat} {v : Int32} (I : lx_I S) (g : ¬ tm_wi v (-32768) 32767 = 0) : lx_I (s1_data S r v) := ⟨I.hPo, I.hPa, I.hPb, I.hPc, I.hn, I.hin, I.s0, I.hr, fun i => by
    show tm_sh (upd S.sd r v i)
    unfold upd
    split
    · exact lx_sh g
    · exact I.hd i, I.hks, I.hkt, I.hk⟩
theorem lx_I_run0 {S : lx_S} (I : lx_I S) (lim : Nat) : lx_I (s1_run0 S lim) := ⟨I.hPo, I.hPa, I.hPb, I.hPc, I.hn, I.hin, I.s0, I.hr, I.hd, (tm_run_s I.hn I.hin lim _ (tm_js_0 (A := S.As) I.s0 I.hr I.hd)).2.2.2, I.hkt, I.hk⟩
theorem lx_iv {S : lx_S} (I : lx_I S) (hok : tm_ok S.P S.n) (hk1 : S.k = tm_of S.P S.n S.n + 1) (hF : ∀ j, j < 4 * S.k → S.F j = tm_K S.P S.n j) : tm_iv S.F S.k := by
  rw [hk1] at hF ⊢
  exact tm_iv_K I.hn I.hin hok hF
theorem lx_c1 {S : lx_S} {B : tF} (hB : ∀ x, x ≤ S.n → B x = nI (tm_of S.P S.n x)) : tm_c1 S.sr S.sd B S.n = tm_c1 S.sr S.sd (tm_kb S.P S.n) S.n := tm_c1_B (fun x hx => hB x (Nat.le_of_lt hx))
theorem lx_j0 {S : lx_S} (I : lx_I S) (hok : tm_ok S.P S.n) (hB : ∀ x, x ≤ S.n → S.Bm x = nI (tm_of S.P S.n x)) : tm_jtJ S.P S.n (tm_r1 S.sr, tm_c1 S.sr S.sd S.Bm S.n, S.At, 0, 0, 0, 0, 0) := by
  rw [lx_c1 hB]
  exact tm_jt_0 I.hn I.hin hok I.hr I.hd
theorem lx_rr {S : lx_S} (I : lx_I S) {lim : Nat} (hF : ∀ j, j < 4 * S.k → S.F j = tm_K S.P S.n j) (hG : ∀ j, j < 4 * S.k → S.G j = tm_K S.P S.n j) (hB : ∀ x, x ≤ S.n → S.B x = nI (tm_of S.P S.n x)) (hBm : ∀ x, x ≤ S.n → S.Bm x = nI (tm_of S.P S.n x)) : tm_run tm_ts S.G S.k lim (tm_r1 S.sr, tm_c1 S.sr S.sd S.Bm S.n, S.At, 0, 0, 0, 0, 0) = tm_run tm_ts S.F S.k lim (tm_r1 S.sr, tm_c1 S.sr S.sd S.B S.n, S.At, 0, 0, 0, 0, 0) := by
  have hk := lx_k217 I
  rw [lx_c1 hB, lx_c1 hBm]
  exact tm_run_eq (by omega) (fun j hj => (hG j hj).trans (hF j hj).symm) lim _
theorem lx_I_run1 {S : lx_S} (I : lx_I S) (lim : Nat) (hok : tm_ok S.P S.n) (hk1 : S.k = tm_of S.P S.n S.n + 1) (hF : ∀ j, j < 4 * S.k → S.F j = tm_K S.P S.n j) (hB : ∀ x, x ≤ S.n → S.B x = nI (tm_of S.P S.n x)) : lx_I (s1_run1 S lim) := by
  have hk := lx_k217 I
  have h40 : (tm_run tm_ts S.F S.k lim (tm_r1 S.sr, tm_c1 S.sr S.sd S.B S.n, S.At, 0, 0, 0, 0, 0)).2.2.2.1 ≤ 40 := by
    rw [tm_run_eq (by omega) hF, lx_c1 hB, hk1]
    exact (tm_run_t I.hn I.hin hok lim _ (tm_jt_0 (A := S.At) I.hn I.hin hok I.hr I.hd)).1.2.2.2
  exact ⟨I.hPo, I.hPa, I.hPb, I.hPc, I.hn, I.hin, I.s0, I.hr, I.hd, I.hks, h40, I.hk⟩

theorem lx_add {p : Program} {l : Launch} {e : Env} {s : State} {m : MethodId} {args : Array Value} {below : List Frame} {meth : Method} {c : Code} {D : va_G} {cI cZ cJ : ClassId} {b L : Nat} {xs : Nat → Int32} {Q : State → Prop} (C : lx_C p l s m args c D cI cZ cJ b L xs) {a : Nat → Nat} {S : lx_S} {W0 : Nat → Int64} {H : Heap} {locs : List Loc} (X : lx_H D cI cZ cJ s a S S W0 H locs) {ls : Array Slot} {i : Nat} (hi : i + 5 ≤ L) (hl : lv_has ls 7 [(4, .int (nI i)), (3, .ref (a 34)), (2, .ref (a 17)), (1, .ref (a 0)), (0, .ref b)]) {cells slots : Nat} (hce : cells + 1 ≤ room_1.cells) (hsl : slots + 6 ≤ room_1.slots) (I : lx_I S) {u1 : Int32} {u2 : Int32} {u3 : Int32} {u4 : Int32} (E1 : xs (i + 1) = u1) (E2 : xs (i + 2) = u2) (E3 : xs (i + 3) = u3) (E4 : xs (i + 4) = u4)
    (k : ∀ (S1 : lx_S) (W1 : Nat → Int64) (H1 : Heap) (locs1 : List Loc) (ls1 : Array Slot), lx_I S1 → lx_H D cI cZ cJ s a S1 S1 W1 H1 locs1 → lv_has ls1 7 [(4, .int (nI i)), (3, .ref (a 34)), (2, .ref (a 17)), (1, .ref (a 0)), (0, .ref b)] → W p l e room_1 s m args below meth c H1 locs1 (cells + 1) (slots + 6) Q (F0 m 704 ls1 [])) : W p l e room_1 s m args below meth c H locs cells slots Q (F0 m 100 ls []) := by
  have bad : ∀ h : tm_wi u1 0 15 = 0 ∨ tm_wi u2 0 7 = 0 ∨ tm_wi u3 0 7 = 0 ∨ tm_wi u4 (-128) 127 = 0, W p l e room_1 s m args below meth c H locs cells slots Q (F0 m 100 ls []) := fun h => la_add_1 C X hi hl hce hsl u1 u2 u3 u4 E1 E2 E3 E4 h (fun W1 H1 l1 z1 => k (s1_add_1 S u1 u2 u3 u4) W1 H1 l1 z1 (lx_I_th I))
  by_cases g1 : tm_wi u1 0 15 = 0
  · exact bad (Or.inl g1)
  by_cases g2 : tm_wi u2 0 7 = 0
  · exact bad (Or.inr (Or.inl g2))
  by_cases g3 : tm_wi u3 0 7 = 0
  · exact bad (Or.inr (Or.inr (Or.inl g3)))
  by_cases g4 : tm_wi u4 (-128) 127 = 0
  · exact bad (Or.inr (Or.inr (Or.inr g4)))
  have hn := I.hn
  by_cases h : S.n = 24
  · exact la_add_2 C X hi hl hce hsl u1 u2 u3 u4 E1 E2 E3 E4 g1 g2 g3 g4 h (fun W1 H1 l1 z1 => k (s1_add_2 S u1 u2 u3 u4) W1 H1 l1 z1 (lx_I_th I))
  · exact la_add C X hi hl hce hsl u1 u2 u3 u4 E1 E2 E3 E4 g1 g2 g3 g4 (by omega) (fun W1 H1 l1 z1 => k (s1_add S u1 u2 u3 u4) W1 H1 l1 z1 (lx_I_add I (by omega) g1 g2 g3 g4))

theorem lx_clear {p : Program} {l : Launch} {e : Env} {s : State} {m : MethodId} {args : Array Value} {below : List Frame} {meth : Method} {c : Code} {D : va_G} {cI cZ cJ : ClassId} {b L : Nat} {xs : Nat → Int32} {Q : State → Prop} (C : lx_C p l s m args c D cI cZ cJ b L xs) {a : Nat → Nat} {S : lx_S} {W0 : Nat → Int64} {H : Heap} {locs : List Loc} (X : lx_H D cI cZ cJ s a S S W0 H locs) {ls : Array Slot} {i : Nat} (hi : i + 5 ≤ L) (hl : lv_has ls 7 [(4, .int (nI i)), (3, .ref (a 34)), (2, .ref (a 17)), (1, .ref (a 0)), (0, .ref b)]) {cells slots : Nat} (hce : cells + 1 ≤ room_1.cells) (hsl : slots + 6 ≤ room_1.slots) (I : lx_I S)
    (k : ∀ (S1 : lx_S) (W1 : Nat → Int64) (H1 : Heap) (locs1 : List Loc) (ls1 : Array Slot), lx_I S1 → lx_H D cI cZ cJ s a S1 S1 W1 H1 locs1 → lv_has ls1 7 [(4, .int (nI i)), (3, .ref (a 34)), (2, .ref (a 17)), (1, .ref (a 0)), (0, .ref b)] → W p l e room_1 s m args below meth c H1 locs1 (cells + 1) (slots + 6) Q (F0 m 704 ls1 [])) : W p l e room_1 s m args below meth c H locs cells slots Q (F0 m 192 ls []) := by
  exact la_clear C X hi hl hce hsl (fun W1 H1 l1 z1 => k (s1_clear S) W1 H1 l1 z1 (lx_I_clear I))

theorem lx_translate {p : Program} {l : Launch} {e : Env} {s : State} {m : MethodId} {args : Array Value} {below : List Frame} {meth : Method} {c : Code} {D : va_G} {cI cZ cJ : ClassId} {b L : Nat} {xs : Nat → Int32} {Q : State → Prop} (C : lx_C p l s m args c D cI cZ cJ b L xs) {a : Nat → Nat} {S : lx_S} {W0 : Nat → Int64} {H : Heap} {locs : List Loc} (X : lx_H D cI cZ cJ s a S S W0 H locs) {ls : Array Slot} {i : Nat} (hi : i + 5 ≤ L) (hl : lv_has ls 7 [(4, .int (nI i)), (3, .ref (a 34)), (2, .ref (a 17)), (1, .ref (a 0)), (0, .ref b)]) {cells slots : Nat} (hce : cells + 1 ≤ room_1.cells) (hsl : slots + 6 ≤ room_1.slots) (I : lx_I S)
    (k : ∀ (S1 : lx_S) (W1 : Nat → Int64) (H1 : Heap) (locs1 : List Loc) (ls1 : Array Slot), lx_I S1 → lx_H D cI cZ cJ s a S1 S1 W1 H1 locs1 → lv_has ls1 7 [(4, .int (nI i)), (3, .ref (a 34)), (2, .ref (a 17)), (1, .ref (a 0)), (0, .ref b)] → W p l e room_1 s m args below meth c H1 locs1 (cells + 1) (slots + 6) Q (F0 m 704 ls1 [])) : W p l e room_1 s m args below meth c H locs cells slots Q (F0 m 205 ls []) := by
  by_cases h : tm_ref S.P S.n = 0
  · have hok := (tm_ref_0 I.hn).mp h
    exact la_translate_ok C X hi hl hce hsl I.hPo I.hPa I.hPb I.hPc I.hn I.hin hok h (tm_hop (lx_op I.hn I.hin hok) S.O S.G) (fun W1 H1 l1 z1 => k (s1_translate_ok S) W1 H1 l1 z1 (lx_I_ok I hok))
  · exact la_translate_no C X hi hl hce hsl I.hPo I.hPa I.hPb I.hPc I.hn I.hin h (fun W1 H1 l1 z1 => k (s1_translate_no S) W1 H1 l1 z1 (lx_I_no I))

theorem lx_size {p : Program} {l : Launch} {e : Env} {s : State} {m : MethodId} {args : Array Value} {below : List Frame} {meth : Method} {c : Code} {D : va_G} {cI cZ cJ : ClassId} {b L : Nat} {xs : Nat → Int32} {Q : State → Prop} (C : lx_C p l s m args c D cI cZ cJ b L xs) {a : Nat → Nat} {S : lx_S} {W0 : Nat → Int64} {H : Heap} {locs : List Loc} (X : lx_H D cI cZ cJ s a S S W0 H locs) {ls : Array Slot} {i : Nat} (hi : i + 5 ≤ L) (hl : lv_has ls 7 [(4, .int (nI i)), (3, .ref (a 34)), (2, .ref (a 17)), (1, .ref (a 0)), (0, .ref b)]) {cells slots : Nat} (hce : cells + 1 ≤ room_1.cells) (hsl : slots + 6 ≤ room_1.slots) (I : lx_I S)
    (k : ∀ (S1 : lx_S) (W1 : Nat → Int64) (H1 : Heap) (locs1 : List Loc) (ls1 : Array Slot), lx_I S1 → lx_H D cI cZ cJ s a S1 S1 W1 H1 locs1 → lv_has ls1 7 [(4, .int (nI i)), (3, .ref (a 34)), (2, .ref (a 17)), (1, .ref (a 0)), (0, .ref b)] → W p l e room_1 s m args below meth c H1 locs1 (cells + 1) (slots + 6) Q (F0 m 704 ls1 [])) : W p l e room_1 s m args below meth c H locs cells slots Q (F0 m 218 ls []) := by
  exact la_size C X hi hl hce hsl (fun W1 H1 l1 z1 => k (s1_size S) W1 H1 l1 z1 (lx_I_th I))

theorem lx_code {p : Program} {l : Launch} {e : Env} {s : State} {m : MethodId} {args : Array Value} {below : List Frame} {meth : Method} {c : Code} {D : va_G} {cI cZ cJ : ClassId} {b L : Nat} {xs : Nat → Int32} {Q : State → Prop} (C : lx_C p l s m args c D cI cZ cJ b L xs) {a : Nat → Nat} {S : lx_S} {W0 : Nat → Int64} {H : Heap} {locs : List Loc} (X : lx_H D cI cZ cJ s a S S W0 H locs) {ls : Array Slot} {i : Nat} (hi : i + 5 ≤ L) (hl : lv_has ls 7 [(4, .int (nI i)), (3, .ref (a 34)), (2, .ref (a 17)), (1, .ref (a 0)), (0, .ref b)]) {cells slots : Nat} (hce : cells + 1 ≤ room_1.cells) (hsl : slots + 6 ≤ room_1.slots) (I : lx_I S) {y : Int32} {z : Int32} (E1 : xs (i + 1) = y) (E2 : xs (i + 2) = z)
    (k : ∀ (S1 : lx_S) (W1 : Nat → Int64) (H1 : Heap) (locs1 : List Loc) (ls1 : Array Slot), lx_I S1 → lx_H D cI cZ cJ s a S1 S1 W1 H1 locs1 → lv_has ls1 7 [(4, .int (nI i)), (3, .ref (a 34)), (2, .ref (a 17)), (1, .ref (a 0)), (0, .ref b)] → W p l e room_1 s m args below meth c H1 locs1 (cells + 1) (slots + 6) Q (F0 m 704 ls1 [])) : W p l e room_1 s m args below meth c H locs cells slots Q (F0 m 231 ls []) := by
  have hk := lx_k217 I
  by_cases g1 : tm_wi z 0 3 = 0
  · exact la_code_1 C X hi hl hce hsl y z E1 E2 g1 (fun W1 H1 l1 z1 => k (s1_code_1 S y z) W1 H1 l1 z1 (lx_I_th I))
  by_cases g2 : tm_hs S.k y = 0
  · exact la_code_2 C X hi hl hce hsl y z E1 E2 g1 g2 ((xn_wh2 S.k (by omega) y).trans g2) (fun W1 H1 l1 z1 => k (s1_code_2 S y z) W1 H1 l1 z1 (lx_I_th I))
  obtain ⟨q, hq, e1⟩ := tm_hs_1 (by omega) g2
  obtain ⟨w, hw, e2⟩ := lx_wi (hi := 3) (n := 3) rfl g1
  subst e1
  subst e2
  exact la_code C X hi hl hce hsl q w E1 E2 hk hq (by omega) (lx_FG I (by omega)) (fun W1 H1 l1 z1 => k (s1_code S q w) W1 H1 l1 z1 (lx_I_th I))

theorem lx_begins {p : Program} {l : Launch} {e : Env} {s : State} {m : MethodId} {args : Array Value} {below : List Frame} {meth : Method} {c : Code} {D : va_G} {cI cZ cJ : ClassId} {b L : Nat} {xs : Nat → Int32} {Q : State → Prop} (C : lx_C p l s m args c D cI cZ cJ b L xs) {a : Nat → Nat} {S : lx_S} {W0 : Nat → Int64} {H : Heap} {locs : List Loc} (X : lx_H D cI cZ cJ s a S S W0 H locs) {ls : Array Slot} {i : Nat} (hi : i + 5 ≤ L) (hl : lv_has ls 7 [(4, .int (nI i)), (3, .ref (a 34)), (2, .ref (a 17)), (1, .ref (a 0)), (0, .ref b)]) {cells slots : Nat} (hce : cells + 1 ≤ room_1.cells) (hsl : slots + 6 ≤ room_1.slots) (I : lx_I S) {y : Int32} (E1 : xs (i + 1) = y)
    (k : ∀ (S1 : lx_S) (W1 : Nat → Int64) (H1 : Heap) (locs1 : List Loc) (ls1 : Array Slot), lx_I S1 → lx_H D cI cZ cJ s a S1 S1 W1 H1 locs1 → lv_has ls1 7 [(4, .int (nI i)), (3, .ref (a 34)), (2, .ref (a 17)), (1, .ref (a 0)), (0, .ref b)] → W p l e room_1 s m args below meth c H1 locs1 (cells + 1) (slots + 6) Q (F0 m 704 ls1 [])) : W p l e room_1 s m args below meth c H locs cells slots Q (F0 m 299 ls []) := by
  have hk := lx_k217 I
  have hn := I.hn
  by_cases g1 : tm_wi y 0 (nI S.n) = 0
  · exact la_begins_1 C X hi hl hce hsl y E1 (Or.inr g1) (Or.inr g1) (fun W1 H1 l1 z1 => k (s1_begins_1 S y) W1 H1 l1 z1 (lx_I_th I))
  rcases I.hk with h | h
  · exact la_begins_1 C X hi hl hce hsl y E1 (Or.inl h.1) (Or.inl h.2) (fun W1 H1 l1 z1 => k (s1_begins_1 S y) W1 H1 l1 z1 (lx_I_th I))
  · obtain ⟨q, hq, e1⟩ := lx_wi (hi := nI S.n) (n := S.n) (nI_toInt (by omega)) g1
    subst e1
    exact la_begins C X hi hl hce hsl q E1 hk (by rw [h.2.1]; exact Nat.succ_pos _) hn hq h.1 ((h.2.2.2.2.2.1 q hq).trans (h.2.2.2.2.2.2 q hq).symm) (fun W1 H1 l1 z1 => k (s1_begins S q) W1 H1 l1 z1 (lx_I_th I))

theorem lx_register {p : Program} {l : Launch} {e : Env} {s : State} {m : MethodId} {args : Array Value} {below : List Frame} {meth : Method} {c : Code} {D : va_G} {cI cZ cJ : ClassId} {b L : Nat} {xs : Nat → Int32} {Q : State → Prop} (C : lx_C p l s m args c D cI cZ cJ b L xs) {a : Nat → Nat} {S : lx_S} {W0 : Nat → Int64} {H : Heap} {locs : List Loc} (X : lx_H D cI cZ cJ s a S S W0 H locs) {ls : Array Slot} {i : Nat} (hi : i + 5 ≤ L) (hl : lv_has ls 7 [(4, .int (nI i)), (3, .ref (a 34)), (2, .ref (a 17)), (1, .ref (a 0)), (0, .ref b)]) {cells slots : Nat} (hce : cells + 1 ≤ room_1.cells) (hsl : slots + 6 ≤ room_1.slots) (I : lx_I S) {y : Int32} {z : Int32} (E1 : xs (i + 1) = y) (E2 : xs (i + 2) = z)
    (k : ∀ (S1 : lx_S) (W1 : Nat → Int64) (H1 : Heap) (locs1 : List Loc) (ls1 : Array Slot), lx_I S1 → lx_H D cI cZ cJ s a S1 S1 W1 H1 locs1 → lv_has ls1 7 [(4, .int (nI i)), (3, .ref (a 34)), (2, .ref (a 17)), (1, .ref (a 0)), (0, .ref b)] → W p l e room_1 s m args below meth c H1 locs1 (cells + 1) (slots + 6) Q (F0 m 704 ls1 [])) : W p l e room_1 s m args below meth c H locs cells slots Q (F0 m 355 ls []) := by
  by_cases g1 : tm_wi y 1 7 = 0
  · exact la_register_1 C X hi hl hce hsl y z E1 E2 (Or.inl g1) (fun W1 H1 l1 z1 => k (s1_register_1 S y z) W1 H1 l1 z1 (lx_I_th I))
  by_cases g2 : tm_wi z (-32768) 32767 = 0
  · exact la_register_1 C X hi hl hce hsl y z E1 E2 (Or.inr g2) (fun W1 H1 l1 z1 => k (s1_register_1 S y z) W1 H1 l1 z1 (lx_I_th I))
  obtain ⟨r, h1, h7, e1⟩ := lx_w17 g1
  subst e1
  exact la_register C X hi hl hce hsl r z E1 E2 h1 h7 g2 (fun W1 H1 l1 z1 => k (s1_register S r z) W1 H1 l1 z1 (lx_I_reg I h1 g2))

theorem lx_data {p : Program} {l : Launch} {e : Env} {s : State} {m : MethodId} {args : Array Value} {below : List Frame} {meth : Method} {c : Code} {D : va_G} {cI cZ cJ : ClassId} {b L : Nat} {xs : Nat → Int32} {Q : State → Prop} (C : lx_C p l s m args c D cI cZ cJ b L xs) {a : Nat → Nat} {S : lx_S} {W0 : Nat → Int64} {H : Heap} {locs : List Loc} (X : lx_H D cI cZ cJ s a S S W0 H locs) {ls : Array Slot} {i : Nat} (hi : i + 5 ≤ L) (hl : lv_has ls 7 [(4, .int (nI i)), (3, .ref (a 34)), (2, .ref (a 17)), (1, .ref (a 0)), (0, .ref b)]) {cells slots : Nat} (hce : cells + 1 ≤ room_1.cells) (hsl : slots + 6 ≤ room_1.slots) (I : lx_I S) {y : Int32} {z : Int32} (E1 : xs (i + 1) = y) (E2 : xs (i + 2) = z)
    (k : ∀ (S1 : lx_S) (W1 : Nat → Int64) (H1 : Heap) (locs1 : List Loc) (ls1 : Array Slot), lx_I S1 → lx_H D cI cZ cJ s a S1 S1 W1 H1 locs1 → lv_has ls1 7 [(4, .int (nI i)), (3, .ref (a 34)), (2, .ref (a 17)), (1, .ref (a 0)), (0, .ref b)] → W p l e room_1 s m args below meth c H1 locs1 (cells + 1) (slots + 6) Q (F0 m 704 ls1 [])) : W p l e room_1 s m args below meth c H locs cells slots Q (F0 m 403 ls []) := by
  by_cases g1 : tm_wi y 0 31 = 0
  · exact la_data_1 C X hi hl hce hsl y z E1 E2 (Or.inl g1) (fun W1 H1 l1 z1 => k (s1_data_1 S y z) W1 H1 l1 z1 (lx_I_th I))
  by_cases g2 : tm_wi z (-32768) 32767 = 0
  · exact la_data_1 C X hi hl hce hsl y z E1 E2 (Or.inr g2) (fun W1 H1 l1 z1 => k (s1_data_1 S y z) W1 H1 l1 z1 (lx_I_th I))
  obtain ⟨r, h1, e1⟩ := lx_wi (hi := 31) (n := 31) rfl g1
  subst e1
  exact la_data C X hi hl hce hsl r z E1 E2 (by omega) g2 (fun W1 H1 l1 z1 => k (s1_data S r z) W1 H1 l1 z1 (lx_I_dat I g2))

theorem lx_run {p : Program} {l : Launch} {e : Env} {s : State} {m : MethodId} {args : Array Value} {below : List Frame} {meth : Method} {c : Code} {D : va_G} {cI cZ cJ : ClassId} {b L : Nat} {xs : Nat → Int32} {Q : State → Prop} (C : lx_C p l s m args c D cI cZ cJ b L xs) {a : Nat → Nat} {S : lx_S} {W0 : Nat → Int64} {H : Heap} {locs : List Loc} (X : lx_H D cI cZ cJ s a S S W0 H locs) {ls : Array Slot} {i : Nat} (hi : i + 5 ≤ L) (hl : lv_has ls 7 [(4, .int (nI i)), (3, .ref (a 34)), (2, .ref (a 17)), (1, .ref (a 0)), (0, .ref b)]) {cells slots : Nat} (hce : cells + 1 ≤ room_1.cells) (hsl : slots + 6 ≤ room_1.slots) (I : lx_I S) {y : Int32} {z : Int32} (E1 : xs (i + 1) = y) (E2 : xs (i + 2) = z)
    (k : ∀ (S1 : lx_S) (W1 : Nat → Int64) (H1 : Heap) (locs1 : List Loc) (ls1 : Array Slot), lx_I S1 → lx_H D cI cZ cJ s a S1 S1 W1 H1 locs1 → lv_has ls1 7 [(4, .int (nI i)), (3, .ref (a 34)), (2, .ref (a 17)), (1, .ref (a 0)), (0, .ref b)] → W p l e room_1 s m args below meth c H1 locs1 (cells + 1) (slots + 6) Q (F0 m 704 ls1 [])) : W p l e room_1 s m args below meth c H locs cells slots Q (F0 m 451 ls []) := by
  have hk := lx_k217 I
  have hn := I.hn
  by_cases g1 : tm_im y = 0
  · exact la_run_1 C X hi hl hce hsl y z E1 E2 (Or.inl g1) (fun W1 H1 l1 z1 => k (s1_run_1 S y z) W1 H1 l1 z1 (lx_I_th I))
  by_cases g2 : tm_wi z 0 2000 = 0
  · exact la_run_1 C X hi hl hce hsl y z E1 E2 (Or.inr g2) (fun W1 H1 l1 z1 => k (s1_run_1 S y z) W1 H1 l1 z1 (lx_I_th I))
  rcases lx_im g1 with e1 | e1
  · subst e1
    obtain ⟨lim, hlim, e2⟩ := lx_wi (hi := 2000) (n := 2000) rfl g2
    subst e2
    exact la_run0 C X hi hl hce hsl lim E1 E2 I.hPo I.hPa I.hPb I.hPc hlim hn (tm_iv_of I.hin) (tm_js_of hn I.hin) (tm_js_0 I.s0 I.hr I.hd) (fun W1 H1 l1 z1 => k (s1_run0 S lim) W1 H1 l1 z1 (lx_I_run0 I lim))
  · subst e1
    rcases I.hk with h | h
    · exact la_run_2 C X hi hl hce hsl z E1 E2 g2 h.1 h.2 (fun W1 H1 l1 z1 => k (s1_run_2 S z) W1 H1 l1 z1 (lx_I_th I))
    · obtain ⟨lim, hlim, e2⟩ := lx_wi (hi := 2000) (n := 2000) rfl g2
      subst e2
      obtain ⟨htl, hk1, hok, hF, hG, hB, hBm⟩ := h
      exact la_run1 C X hi hl hce hsl lim E1 E2 (tm_jtJ S.P S.n) hlim hn hk (by rw [hk1]; exact Nat.succ_pos _) (lx_iv I hok hk1 hF) (lx_jt hG (by rw [hk1]; exact tm_jt_of hn I.hin hok)) htl I.s0 (lx_j0 I hok hBm) (lx_rr I hF hG hB hBm) (fun W1 H1 l1 z1 => k (s1_run1 S lim) W1 H1 l1 z1 (lx_I_run1 I lim hok hk1 hF hB))

theorem lx_result {p : Program} {l : Launch} {e : Env} {s : State} {m : MethodId} {args : Array Value} {below : List Frame} {meth : Method} {c : Code} {D : va_G} {cI cZ cJ : ClassId} {b L : Nat} {xs : Nat → Int32} {Q : State → Prop} (C : lx_C p l s m args c D cI cZ cJ b L xs) {a : Nat → Nat} {S : lx_S} {W0 : Nat → Int64} {H : Heap} {locs : List Loc} (X : lx_H D cI cZ cJ s a S S W0 H locs) {ls : Array Slot} {i : Nat} (hi : i + 5 ≤ L) (hl : lv_has ls 7 [(4, .int (nI i)), (3, .ref (a 34)), (2, .ref (a 17)), (1, .ref (a 0)), (0, .ref b)]) {cells slots : Nat} (hce : cells + 1 ≤ room_1.cells) (hsl : slots + 6 ≤ room_1.slots) (I : lx_I S) {y : Int32} {z : Int32} (E1 : xs (i + 1) = y) (E2 : xs (i + 2) = z)
    (k : ∀ (S1 : lx_S) (W1 : Nat → Int64) (H1 : Heap) (locs1 : List Loc) (ls1 : Array Slot), lx_I S1 → lx_H D cI cZ cJ s a S1 S1 W1 H1 locs1 → lv_has ls1 7 [(4, .int (nI i)), (3, .ref (a 34)), (2, .ref (a 17)), (1, .ref (a 0)), (0, .ref b)] → W p l e room_1 s m args below meth c H1 locs1 (cells + 1) (slots + 6) Q (F0 m 704 ls1 [])) : W p l e room_1 s m args below meth c H locs cells slots Q (F0 m 519 ls []) := by
  by_cases g1 : tm_im y = 0
  · exact la_result_no C X hi hl hce hsl y z E1 E2 g1 (fun W1 H1 l1 z1 => k (s1_result_no S y z) W1 H1 l1 z1 (lx_I_th I))
  by_cases g2 : tm_wi z 0 11 = 0
  · rcases lx_im g1 with e1 | e1 <;> subst e1
    · exact la_result0_x C X hi hl hce hsl z E1 E2 g2 (fun W1 H1 l1 z1 => k (s1_result0_x S z) W1 H1 l1 z1 (lx_I_th I))
    · exact la_result1_x C X hi hl hce hsl z E1 E2 g2 (fun W1 H1 l1 z1 => k (s1_result1_x S z) W1 H1 l1 z1 (lx_I_th I))
  obtain ⟨q, hq, e2⟩ := lx_wi (hi := 11) (n := 11) rfl g2
  subst e2
  rcases lx_im g1 with e1 | e1 <;> subst e1
  · exact la_result0 C X hi hl hce hsl q E1 E2 hq (fun W1 H1 l1 z1 => k (s1_result0 S q) W1 H1 l1 z1 (lx_I_th I))
  · exact la_result1 C X hi hl hce hsl q E1 E2 hq (fun W1 H1 l1 z1 => k (s1_result1 S q) W1 H1 l1 z1 (lx_I_th I))

theorem lx_cell {p : Program} {l : Launch} {e : Env} {s : State} {m : MethodId} {args : Array Value} {below : List Frame} {meth : Method} {c : Code} {D : va_G} {cI cZ cJ : ClassId} {b L : Nat} {xs : Nat → Int32} {Q : State → Prop} (C : lx_C p l s m args c D cI cZ cJ b L xs) {a : Nat → Nat} {S : lx_S} {W0 : Nat → Int64} {H : Heap} {locs : List Loc} (X : lx_H D cI cZ cJ s a S S W0 H locs) {ls : Array Slot} {i : Nat} (hi : i + 5 ≤ L) (hl : lv_has ls 7 [(4, .int (nI i)), (3, .ref (a 34)), (2, .ref (a 17)), (1, .ref (a 0)), (0, .ref b)]) {cells slots : Nat} (hce : cells + 1 ≤ room_1.cells) (hsl : slots + 6 ≤ room_1.slots) (I : lx_I S) {y : Int32} {z : Int32} (E1 : xs (i + 1) = y) (E2 : xs (i + 2) = z)
    (k : ∀ (S1 : lx_S) (W1 : Nat → Int64) (H1 : Heap) (locs1 : List Loc) (ls1 : Array Slot), lx_I S1 → lx_H D cI cZ cJ s a S1 S1 W1 H1 locs1 → lv_has ls1 7 [(4, .int (nI i)), (3, .ref (a 34)), (2, .ref (a 17)), (1, .ref (a 0)), (0, .ref b)] → W p l e room_1 s m args below meth c H1 locs1 (cells + 1) (slots + 6) Q (F0 m 704 ls1 [])) : W p l e room_1 s m args below meth c H locs cells slots Q (F0 m 556 ls []) := by
  by_cases g1 : tm_im y = 0
  · exact la_cell_1 C X hi hl hce hsl y z E1 E2 (Or.inl g1) (fun W1 H1 l1 z1 => k (s1_cell_1 S y z) W1 H1 l1 z1 (lx_I_th I))
  by_cases g2 : tm_wi z 0 31 = 0
  · exact la_cell_1 C X hi hl hce hsl y z E1 E2 (Or.inr g2) (fun W1 H1 l1 z1 => k (s1_cell_1 S y z) W1 H1 l1 z1 (lx_I_th I))
  obtain ⟨r, hr, e2⟩ := lx_wi (hi := 31) (n := 31) rfl g2
  subst e2
  rcases lx_im g1 with e1 | e1 <;> subst e1
  · exact la_cell0 C X hi hl hce hsl r E1 E2 (by omega) (fun W1 H1 l1 z1 => k (s1_cell0 S r) W1 H1 l1 z1 (lx_I_th I))
  · exact la_cell1 C X hi hl hce hsl r E1 E2 (by omega) (fun W1 H1 l1 z1 => k (s1_cell1 S r) W1 H1 l1 z1 (lx_I_th I))

theorem lx_access {p : Program} {l : Launch} {e : Env} {s : State} {m : MethodId} {args : Array Value} {below : List Frame} {meth : Method} {c : Code} {D : va_G} {cI cZ cJ : ClassId} {b L : Nat} {xs : Nat → Int32} {Q : State → Prop} (C : lx_C p l s m args c D cI cZ cJ b L xs) {a : Nat → Nat} {S : lx_S} {W0 : Nat → Int64} {H : Heap} {locs : List Loc} (X : lx_H D cI cZ cJ s a S S W0 H locs) {ls : Array Slot} {i : Nat} (hi : i + 5 ≤ L) (hl : lv_has ls 7 [(4, .int (nI i)), (3, .ref (a 34)), (2, .ref (a 17)), (1, .ref (a 0)), (0, .ref b)]) {cells slots : Nat} (hce : cells + 1 ≤ room_1.cells) (hsl : slots + 6 ≤ room_1.slots) (I : lx_I S) {y : Int32} {z : Int32} {w : Int32} (E1 : xs (i + 1) = y) (E2 : xs (i + 2) = z) (E3 : xs (i + 3) = w)
    (k : ∀ (S1 : lx_S) (W1 : Nat → Int64) (H1 : Heap) (locs1 : List Loc) (ls1 : Array Slot), lx_I S1 → lx_H D cI cZ cJ s a S1 S1 W1 H1 locs1 → lv_has ls1 7 [(4, .int (nI i)), (3, .ref (a 34)), (2, .ref (a 17)), (1, .ref (a 0)), (0, .ref b)] → W p l e room_1 s m args below meth c H1 locs1 (cells + 1) (slots + 6) Q (F0 m 704 ls1 [])) : W p l e room_1 s m args below meth c H locs cells slots Q (F0 m 624 ls []) := by
  have hks := I.hks
  have hkt := I.hkt
  by_cases g1 : tm_im y = 0
  · exact la_access_1 C X hi hl hce hsl y z w E1 E2 E3 (Or.inl g1) (fun W1 H1 l1 z1 => k (s1_access_1 S y z w) W1 H1 l1 z1 (lx_I_th I))
  by_cases g3 : tm_wi w 0 2 = 0
  · exact la_access_1 C X hi hl hce hsl y z w E1 E2 E3 (Or.inr g3) (fun W1 H1 l1 z1 => k (s1_access_1 S y z w) W1 H1 l1 z1 (lx_I_th I))
  rcases lx_im g1 with e1 | e1 <;> subst e1
  · by_cases g2 : tm_wi z 0 (nI S.ks - 1) = 0
    · exact la_access0_2 C X hi hl hce hsl z w E1 E2 E3 g3 g2 (fun W1 H1 l1 z1 => k (s1_access0_2 S z w) W1 H1 l1 z1 (lx_I_th I))
    · obtain ⟨q, hq, e2⟩ := tm_hs_1 (n := S.ks) (by omega) (by rw [← xn_wh2 S.ks (by omega)]; exact g2)
      obtain ⟨v, hv, e3⟩ := lx_wi (hi := 2) (n := 2) rfl g3
      subst e2
      subst e3
      exact la_access0 C X hi hl hce hsl q v E1 E2 E3 (by omega) hq (by omega) (fun W1 H1 l1 z1 => k (s1_access0 S q v) W1 H1 l1 z1 (lx_I_th I))
  · by_cases g2 : tm_wi z 0 (nI S.kt - 1) = 0
    · exact la_access1_2 C X hi hl hce hsl z w E1 E2 E3 g3 g2 (fun W1 H1 l1 z1 => k (s1_access1_2 S z w) W1 H1 l1 z1 (lx_I_th I))
    · obtain ⟨q, hq, e2⟩ := tm_hs_1 (n := S.kt) (by omega) (by rw [← xn_wh2 S.kt (by omega)]; exact g2)
      obtain ⟨v, hv, e3⟩ := lx_wi (hi := 2) (n := 2) rfl g3
      subst e2
      subst e3
      exact la_access1 C X hi hl hce hsl q v E1 E2 E3 (by omega) hq (by omega) (fun W1 H1 l1 z1 => k (s1_access1 S q v) W1 H1 l1 z1 (lx_I_th I))
