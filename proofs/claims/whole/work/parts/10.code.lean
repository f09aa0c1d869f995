/-! TRANSLATION: a place, and the whole code (printed by wip/whole/gen/c10.py) -/
theorem xn_ne {v w : Nat} (hv : v < 2 ^ 31) (hw : w < 2 ^ 31) (h : v ≠ w) : ¬ nI v = nI w := fun e => h ((nI_eq hv hw).mp e)
/-- what a place must hold so that its code can be written at k -/
def tm_gp (P : Nat → Int32) (n q k : Nat) : Prop := ∃ v : Nat, v ≤ 13 ∧ P (4 * q) = nI v ∧ (v ≤ 8 → k + 6 ≤ 217 ∧ tm_fm (P (4 * q + 3)) = P (4 * q + 3) &&& 7) ∧ (9 ≤ v → q + 1 < n ∧ k + 12 ≤ 217 ∧ tm_fm (P (4 * (q + 1) + 3)) = P (4 * (q + 1) + 3) &&& 7) ∧ (9 ≤ v → v ≤ 12 → ∃ j : Nat, j < n ∧ tm_ld P q = nI j)

set_option maxHeartbeats 4000000 in
set_option maxRecDepth 100000 in
theorem c_Tr_writePlace (l : Launch) (D : va_G) (cI cZ cJ : ClassId) (t pL pF cL cF bA : Nat) (P F B : Nat → Int32) (n k : Nat) (q : Nat) (hn : n ≤ 24) (hq : q < n) (hgp : tm_gp P n q k) : xw_Met l y_Tr_writePlace b_Tr_writePlace 2 none { frames := 4, cells := 0, slots := 0, locals := 100 } [.ref t, .int (nI q)] D cls (tyL cI cZ cJ) [(t, .inr (2, [.ref pL, .ref cL, .ref bA])), (pL, .inr (1, [.ref pF, .int (nI n)])), (pF, .inl (cI, 96, .inl P)), (cL, .inr (1, [.ref cF, .int (nI k)])), (cF, .inl (cI, 868, .inl F)), (bA, .inl (cI, 25, .inl B))] [(t, .inr (2, [.ref pL, .ref cL, .ref bA])), (pL, .inr (1, [.ref pF, .int (nI n)])), (pF, .inl (cI, 96, .inl P)), (cL, .inr (1, [.ref cF, .int (nI (k + (tm_pl P n q).length))])), (cF, .inl (cI, 868, .inl (tm_pa (tm_rs B) F k (tm_pl P n q)))), (bA, .inl (cI, 25, .inl B))] := by
  intro sz
  refine Met.ofW (cc := b_Tr_writePlace) (maxL := 2) (ret := none) (by decide) rfl ?_
  intro p e s m args below meth c s₁ B0 hml hv
  obtain ⟨rfl, hsz, hP, hK, hD0⟩ := hv
  have hx := B0.exec
  have hb := B0.bytes
  have hr := B0.returns
  have hlocks := B0.notSynchronized
  have hg : ∀ w ∈ gG, w.before _ s = true := fun w h => atoms_spec B0.pre w (List.mem_cons_of_mem _ h)
  have hown : s.vm.findClass R_Tr = some m.cls := findClass_of_methodNamed B0.named
  subst hsz
  have hD := hD0.self (sz := s.heap.size)
  generalize hAe : va_A [(t, .inr (2, [.ref pL, .ref cL, .ref bA])), (pL, .inr (1, [.ref pF, .int (nI n)])), (pF, .inl (cI, 96, .inl P)), (cL, .inr (1, [.ref cF, .int (nI k)])), (cF, .inl (cI, 868, .inl F)), (bA, .inl (cI, 25, .inl B))] s.heap.size = A at hD ⊢
  have hA : ∀ q : Nat, s.heap.size ≤ q → A q := fun q h => by rw [← hAe]; exact Or.inr h
  have hS : va_S A s.heap s.heap [] := va_S.rf
  have hP : va_P D cls [(t, .inr (2, [.ref pL, .ref cL, .ref bA])), (pL, .inr (1, [.ref pF, .int (nI n)])), (pF, .inl (cI, 96, .inl P)), (cL, .inr (1, [.ref cF, .int (nI k)])), (cF, .inl (cI, 868, .inl F)), (bA, .inl (cI, 25, .inl B))] s.heap := hP
  have hl := lv_entry ([.ref t, .int (nI q)]) (n := 2) (Nat.le_of_ble_eq_true rfl)
  rw [lg_entry_eq]
  generalize (lg_sl ([.ref t, .int (nI q)]) ++ List.replicate (2 - (lg_sl ([.ref t, .int (nI q)])).length) Slot.unset).toArray = ls at hl ⊢
  have hl : lv_has ls 2 [(0, .ref t), (1, .int (nI q))] := hl
  obtain ⟨v, hv13, hv, h8, h9, hle⟩ := hgp
  refine lv_aload_n hx hb d_Tr_writePlace_0 rfl (lv_at hl 0 rfl) ?_
  refine va_get (D := D) (ci := 2) (v := .ref pL) (C := R_Tr) (T := F_Tr) (N := 3) hx hb hg f_Tr hown hK.1 hP 0 rfl rfl 0 (by decide) (hg _ q50) (fun _ h9 => h9) rfl d_Tr_writePlace_1 ?_
  refine lv_iload_n hx hb d_Tr_writePlace_4 rfl (lv_at hl 1 rfl) ?_
  refine xr_V (C := R_Li) (As := [.int (nI q)]) (rest := []) ⟨hx, hb, hml, hown, hg⟩ (c_Li_operation l D cI cZ cJ pL pF 96 P (nI n) q (by omega) (by omega)) m_Li_operation q179 q181 ⟨rfl, rfl⟩ ⟨Nat.le_of_ble_eq_true rfl, Nat.le_of_ble_eq_true rfl⟩ hK hP [1, 2] rfl (va_recv (q0 := 1) hK.1 hP rfl rfl) rfl hl.1 rfl (Nat.le_of_ble_eq_true rfl) d_Tr_writePlace_5 ⟨Nat.zero_le _, Nat.zero_le _⟩ ?_
  have eq9 : (P (4 * q) : Int32) = nI v := hv
  refine W.eq (g2 := F0 m 8 ls [.int (nI v)]) (by rw [eq9]) ?_
  rcases (show v = 0 ∨ (1 ≤ v ∧ v ≤ 8) ∨ v = 9 ∨ v = 10 ∨ v = 11 ∨ v = 12 ∨ v = 13 by omega) with e0 | e0 | e0 | e0 | e0 | e0 | e0
  · subst e0
    have hv : P (4 * q) = 0 := hv
    refine lv_tableIn (x := nI 0) (off := 72) (tgt := 80) hx hb d_Tr_writePlace_8 (by decide) (by decide) rfl rfl ?_
    have hk6 := h8 (by omega)
    refine lv_aload_n hx hb d_Tr_writePlace_80 rfl (lv_at hl 0 rfl) ?_
    refine va_get (D := D) (ci := 2) (v := .ref cL) (C := R_Tr) (T := F_Tr) (N := 3) hx hb hg f_Tr hown hK.1 hP 0 rfl rfl 1 (by decide) (hg _ q53) (fun _ h9 => h9) rfl d_Tr_writePlace_81 ?_
    refine lv_iconst (v := 0) hx hb d_Tr_writePlace_84 (by decide) ?_
    refine lv_iconst (v := 0) hx hb d_Tr_writePlace_85 (by decide) ?_
    refine lv_iconst (v := 0) hx hb d_Tr_writePlace_86 (by decide) ?_
    refine lv_iconst (v := 0) hx hb d_Tr_writePlace_87 (by decide) ?_
    refine xw_go (w2 := [(t, .inr (2, [.ref pL, .ref cL, .ref bA])), (pL, .inr (1, [.ref pF, .int (nI n)])), (pF, .inl (cI, 96, .inl P)), (cL, .inr (1, [.ref cF, .int (nI (k + 1))])), (cF, .inl (cI, 868, .inl (tm_w4 F k 0 0 0 0))), (bA, .inl (cI, 25, .inl B))]) (wr := [(t, .inr (2, [.ref pL, .ref cL, .ref bA])), (pL, .inr (1, [.ref pF, .int (nI n)])), (pF, .inl (cI, 96, .inl P)), (bA, .inl (cI, 25, .inl B))]) (w1 := [(cL, .inr (1, [.ref cF, .int (nI (k + 1))])), (cF, .inl (cI, 868, .inl (tm_w4 F k 0 0 0 0)))]) (va_runV (As := [.int 0, .int 0, .int 0, .int 0]) (rest := []) (C := R_Li) ⟨hx, hb, hml, hown, hg⟩ (c_Li_append l D cI cZ cJ cL cF 868 F k 0 0 0 0 (by omega) (by omega) s.heap.size) ⟨xg_B hg m_Li_append.1 m_Li_append.2.2.1 m_Li_append.2.2.2.1 m_Li_append.2.2.2.2 q212 rfl rfl ⟨Nat.le_of_ble_eq_true rfl, Nat.le_of_ble_eq_true rfl⟩, hg _ m_Li_append.2.1, hg _ q214⟩ ⟨xw_blind, (va_recv (q0 := 3) hK.1 hP rfl rfl), xw_pre hK hP hD [3, 4] (by decide) rfl⟩ rfl rfl hl.1 rfl (lv_room (Nat.le_of_ble_eq_true rfl)) d_Tr_writePlace_88 ⟨Nat.zero_le _, Nat.zero_le _⟩) hP hD hS hA [3, 4] [0, 1, 2, 5] [0, 1, 2, 4, 5, 3] rfl rfl (by decide) (by decide) rfl (by decide) (fun H locs hP hD hS => ?_)
    refine lv_goto (tgt := 164) hx hb d_Tr_writePlace_91 rfl ?_
    have ew1 : nI (k + 1) = nI (k + (tm_pl P n q).length) := congrArg nI (by first | (simp [tm_pl, tm_pa, tm_pa_app, tm_rs, hv]; done) | (simp [tm_pl, tm_pa, tm_pa_app, tm_rs, hv]; omega) | omega)
    have ew2 : tm_w4 F k 0 0 0 0 = tm_pa (tm_rs B) F k (tm_pl P n q) := by first | rfl | simp [tm_pl, tm_pa, tm_pa_app, tm_rs, hv]
    have hP : va_P D cls [(t, .inr (2, [.ref pL, .ref cL, .ref bA])), (pL, .inr (1, [.ref pF, .int (nI n)])), (pF, .inl (cI, 96, .inl P)), (cL, .inr (1, [.ref cF, .int (nI (k + (tm_pl P n q).length))])), (cF, .inl (cI, 868, .inl (tm_pa (tm_rs B) F k (tm_pl P n q)))), (bA, .inl (cI, 25, .inl B))] H := by rw [← ew1, ← ew2]; exact hP
    have hD : va_D A [(t, .inr (2, [.ref pL, .ref cL, .ref bA])), (pL, .inr (1, [.ref pF, .int (nI n)])), (pF, .inl (cI, 96, .inl P)), (cL, .inr (1, [.ref cF, .int (nI (k + (tm_pl P n q).length))])), (cF, .inl (cI, 868, .inl (tm_pa (tm_rs B) F k (tm_pl P n q)))), (bA, .inl (cI, 25, .inl B))] := by rw [← ew1, ← ew2]; exact hD
    exact W.vret hx hb hr (fun t9 ht9 hW9 => ⟨⟨(), rfl, trivial, by rw [ht9]; exact hP, hD⟩, hS.F ht9⟩) hS.2.2 d_Tr_writePlace_164
  · have hti : (nI v).toInt = (v : Int) := nI_toInt (by omega)
    have ho : (#[72, 151, 151, 151, 151, 151, 151, 151, 151, 86, 86, 94, 113, 143] : Array Int)[((nI v).toInt - 0).toNat]? = some 151 := by
      rw [hti]; rcases (show v = 1 ∨ v = 2 ∨ v = 3 ∨ v = 4 ∨ v = 5 ∨ v = 6 ∨ v = 7 ∨ v = 8 by omega) with e1 | e1 | e1 | e1 | e1 | e1 | e1 | e1 <;> subst e1 <;> rfl
    have n0 : ¬ P (4 * q) = 0 := by rw [hv]; exact xn_ne (w := 0) (by omega) (by decide) (by omega)
    have n9 : ¬ P (4 * q) = 9 := by rw [hv]; exact xn_ne (w := 9) (by omega) (by decide) (by omega)
    have n10 : ¬ P (4 * q) = 10 := by rw [hv]; exact xn_ne (w := 10) (by omega) (by decide) (by omega)
    have n11 : ¬ P (4 * q) = 11 := by rw [hv]; exact xn_ne (w := 11) (by omega) (by decide) (by omega)
    have n12 : ¬ P (4 * q) = 12 := by rw [hv]; exact xn_ne (w := 12) (by omega) (by decide) (by omega)
    have n13 : ¬ P (4 * q) = 13 := by rw [hv]; exact xn_ne (w := 13) (by omega) (by decide) (by omega)
    refine lv_tableIn (x := nI v) (off := 151) (tgt := 159) hx hb d_Tr_writePlace_8 (by rw [hti]; omega) (by rw [hti]; omega) ho rfl ?_
    have hk6 := h8 (by omega)
    refine lv_aload_n hx hb d_Tr_writePlace_159 rfl (lv_at hl 0 rfl) ?_
    refine lv_iload_n hx hb d_Tr_writePlace_160 rfl (lv_at hl 1 rfl) ?_
    refine xw_go (w2 := [(t, .inr (2, [.ref pL, .ref cL, .ref bA])), (pL, .inr (1, [.ref pF, .int (nI n)])), (pF, .inl (cI, 96, .inl P)), (cL, .inr (1, [.ref cF, .int (nI (k + (tm_si P n q).length))])), (cF, .inl (cI, 868, .inl (tm_pa (tm_rs B) F k (tm_si P n q)))), (bA, .inl (cI, 25, .inl B))]) (wr := []) (w1 := [(t, .inr (2, [.ref pL, .ref cL, .ref bA])), (pL, .inr (1, [.ref pF, .int (nI n)])), (pF, .inl (cI, 96, .inl P)), (cL, .inr (1, [.ref cF, .int (nI (k + (tm_si P n q).length))])), (cF, .inl (cI, 868, .inl (tm_pa (tm_rs B) F k (tm_si P n q)))), (bA, .inl (cI, 25, .inl B))]) (va_runV (As := [.int (nI q)]) (rest := []) (C := R_Tr) ⟨hx, hb, hml, hown, hg⟩ (c_Tr_writeSimple l D cI cZ cJ t pL pF cL cF bA P F B n k q (by omega) (by omega) (hk6.1) (hk6.2) s.heap.size) ⟨xg_B hg m_Tr_writeSimple.1 m_Tr_writeSimple.2.2.1 m_Tr_writeSimple.2.2.2.1 m_Tr_writeSimple.2.2.2.2 q232 rfl rfl ⟨Nat.le_of_ble_eq_true rfl, Nat.le_of_ble_eq_true rfl⟩, hg _ m_Tr_writeSimple.2.1, hg _ sp_Tr_writeSimple⟩ ⟨xw_blind, (va_recv (q0 := 0) hK.1 hP rfl rfl), xw_pre hK hP hD [0, 1, 2, 3, 4, 5] (by decide) rfl⟩ rfl rfl hl.1 rfl (lv_room (Nat.le_of_ble_eq_true rfl)) d_Tr_writePlace_161 ⟨Nat.zero_le _, Nat.zero_le _⟩) hP hD hS hA [0, 1, 2, 3, 4, 5] [] [0, 1, 2, 3, 4, 5] rfl rfl (by decide) (by decide) rfl (by decide) (fun H locs hP hD hS => ?_)
    have ew1 : nI (k + (tm_si P n q).length) = nI (k + (tm_pl P n q).length) := congrArg nI (by first | (simp [tm_pl, tm_pa, tm_pa_app, tm_rs, n0, n9, n10, n11, n12, n13]; done) | (simp [tm_pl, tm_pa, tm_pa_app, tm_rs, n0, n9, n10, n11, n12, n13]; omega) | omega)
    have ew2 : tm_pa (tm_rs B) F k (tm_si P n q) = tm_pa (tm_rs B) F k (tm_pl P n q) := by first | rfl | simp [tm_pl, tm_pa, tm_pa_app, tm_rs, n0, n9, n10, n11, n12, n13]
    have hP : va_P D cls [(t, .inr (2, [.ref pL, .ref cL, .ref bA])), (pL, .inr (1, [.ref pF, .int (nI n)])), (pF, .inl (cI, 96, .inl P)), (cL, .inr (1, [.ref cF, .int (nI (k + (tm_pl P n q).length))])), (cF, .inl (cI, 868, .inl (tm_pa (tm_rs B) F k (tm_pl P n q)))), (bA, .inl (cI, 25, .inl B))] H := by rw [← ew1, ← ew2]; exact hP
    have hD : va_D A [(t, .inr (2, [.ref pL, .ref cL, .ref bA])), (pL, .inr (1, [.ref pF, .int (nI n)])), (pF, .inl (cI, 96, .inl P)), (cL, .inr (1, [.ref cF, .int (nI (k + (tm_pl P n q).length))])), (cF, .inl (cI, 868, .inl (tm_pa (tm_rs B) F k (tm_pl P n q)))), (bA, .inl (cI, 25, .inl B))] := by rw [← ew1, ← ew2]; exact hD
    exact W.vret hx hb hr (fun t9 ht9 hW9 => ⟨⟨(), rfl, trivial, by rw [ht9]; exact hP, hD⟩, hS.F ht9⟩) hS.2.2 d_Tr_writePlace_164
  · subst e0
    have hv : P (4 * q) = 9 := hv
    refine lv_tableIn (x := nI 9) (off := 86) (tgt := 94) hx hb d_Tr_writePlace_8 (by decide) (by decide) rfl rfl ?_
    have hk12 := h9 (by omega)
    obtain ⟨j, hj2, hj⟩ := hle (by omega) (by omega)
    have hcj : (nI j).toNatClampNeg = j := nI_clamp (by omega)
    have r4 := tm_si_len P n (q + 1)
    have r5 := tm_wt_len 0 5 7 0 (nI (q + 2))
    refine lv_aload_n hx hb d_Tr_writePlace_94 rfl (lv_at hl 0 rfl) ?_
    refine lv_iload_n hx hb d_Tr_writePlace_95 rfl (lv_at hl 1 rfl) ?_
    refine xw_go (w2 := [(t, .inr (2, [.ref pL, .ref cL, .ref bA])), (pL, .inr (1, [.ref pF, .int (nI n)])), (pF, .inl (cI, 96, .inl P)), (cL, .inr (1, [.ref cF, .int (nI (k + (tm_fk P n q).length))])), (cF, .inl (cI, 868, .inl (tm_pa (tm_rs B) F k (tm_fk P n q)))), (bA, .inl (cI, 25, .inl B))]) (wr := []) (w1 := [(t, .inr (2, [.ref pL, .ref cL, .ref bA])), (pL, .inr (1, [.ref pF, .int (nI n)])), (pF, .inl (cI, 96, .inl P)), (cL, .inr (1, [.ref cF, .int (nI (k + (tm_fk P n q).length))])), (cF, .inl (cI, 868, .inl (tm_pa (tm_rs B) F k (tm_fk P n q)))), (bA, .inl (cI, 25, .inl B))]) (va_runV (As := [.int (nI q)]) (rest := []) (C := R_Tr) ⟨hx, hb, hml, hown, hg⟩ (c_Tr_writeFork l D cI cZ cJ t pL pF cL cF bA P F B n k q j (by omega) (hk12.1) (hk12.2.1) (hk12.2.2) (hj) (hj2) s.heap.size) ⟨xg_B hg m_Tr_writeFork.1 m_Tr_writeFork.2.2.1 m_Tr_writeFork.2.2.2.1 m_Tr_writeFork.2.2.2.2 q216 rfl rfl ⟨Nat.le_of_ble_eq_true rfl, Nat.le_of_ble_eq_true rfl⟩, hg _ m_Tr_writeFork.2.1, hg _ sp_Tr_writeFork⟩ ⟨xw_blind, (va_recv (q0 := 0) hK.1 hP rfl rfl), xw_pre hK hP hD [0, 1, 2, 3, 4, 5] (by decide) rfl⟩ rfl rfl hl.1 rfl (lv_room (Nat.le_of_ble_eq_true rfl)) d_Tr_writePlace_96 ⟨Nat.zero_le _, Nat.zero_le _⟩) hP hD hS hA [0, 1, 2, 3, 4, 5] [] [0, 1, 2, 3, 4, 5] rfl rfl (by decide) (by decide) rfl (by decide) (fun H locs hP hD hS => ?_)
    refine lv_goto (tgt := 164) hx hb d_Tr_writePlace_99 rfl ?_
    have ew1 : nI (k + (tm_fk P n q).length) = nI (k + (tm_pl P n q).length) := congrArg nI (by first | (simp [tm_pl, tm_pa, tm_pa_app, tm_rs, hv, hj, hcj]; done) | (simp [tm_pl, tm_pa, tm_pa_app, tm_rs, hv, hj, hcj]; omega) | omega)
    have ew2 : tm_pa (tm_rs B) F k (tm_fk P n q) = tm_pa (tm_rs B) F k (tm_pl P n q) := by first | rfl | simp [tm_pl, tm_pa, tm_pa_app, tm_rs, hv, hj, hcj]
    have hP : va_P D cls [(t, .inr (2, [.ref pL, .ref cL, .ref bA])), (pL, .inr (1, [.ref pF, .int (nI n)])), (pF, .inl (cI, 96, .inl P)), (cL, .inr (1, [.ref cF, .int (nI (k + (tm_pl P n q).length))])), (cF, .inl (cI, 868, .inl (tm_pa (tm_rs B) F k (tm_pl P n q)))), (bA, .inl (cI, 25, .inl B))] H := by rw [← ew1, ← ew2]; exact hP
    have hD : va_D A [(t, .inr (2, [.ref pL, .ref cL, .ref bA])), (pL, .inr (1, [.ref pF, .int (nI n)])), (pF, .inl (cI, 96, .inl P)), (cL, .inr (1, [.ref cF, .int (nI (k + (tm_pl P n q).length))])), (cF, .inl (cI, 868, .inl (tm_pa (tm_rs B) F k (tm_pl P n q)))), (bA, .inl (cI, 25, .inl B))] := by rw [← ew1, ← ew2]; exact hD
    exact W.vret hx hb hr (fun t9 ht9 hW9 => ⟨⟨(), rfl, trivial, by rw [ht9]; exact hP, hD⟩, hS.F ht9⟩) hS.2.2 d_Tr_writePlace_164
  · subst e0
    have hv : P (4 * q) = 10 := hv
    refine lv_tableIn (x := nI 10) (off := 86) (tgt := 94) hx hb d_Tr_writePlace_8 (by decide) (by decide) rfl rfl ?_
    have hk12 := h9 (by omega)
    obtain ⟨j, hj2, hj⟩ := hle (by omega) (by omega)
    have hcj : (nI j).toNatClampNeg = j := nI_clamp (by omega)
    have r4 := tm_si_len P n (q + 1)
    have r5 := tm_wt_len 0 5 7 0 (nI (q + 2))
    refine lv_aload_n hx hb d_Tr_writePlace_94 rfl (lv_at hl 0 rfl) ?_
    refine lv_iload_n hx hb d_Tr_writePlace_95 rfl (lv_at hl 1 rfl) ?_
    refine xw_go (w2 := [(t, .inr (2, [.ref pL, .ref cL, .ref bA])), (pL, .inr (1, [.ref pF, .int (nI n)])), (pF, .inl (cI, 96, .inl P)), (cL, .inr (1, [.ref cF, .int (nI (k + (tm_fk P n q).length))])), (cF, .inl (cI, 868, .inl (tm_pa (tm_rs B) F k (tm_fk P n q)))), (bA, .inl (cI, 25, .inl B))]) (wr := []) (w1 := [(t, .inr (2, [.ref pL, .ref cL, .ref bA])), (pL, .inr (1, [.ref pF, .int (nI n)])), (pF, .inl (cI, 96, .inl P)), (cL, .inr (1, [.ref cF, .int (nI (k + (tm_fk P n q).length))])), (cF, .inl (cI, 868, .inl (tm_pa (tm_rs B) F k (tm_fk P n q)))), (bA, .inl (cI, 25, .inl B))]) (va_runV (As := [.int (nI q)]) (rest := []) (C := R_Tr) ⟨hx, hb, hml, hown, hg⟩ (c_Tr_writeFork l D cI cZ cJ t pL pF cL cF bA P F B n k q j (by omega) (hk12.1) (hk12.2.1) (hk12.2.2) (hj) (hj2) s.heap.size) ⟨xg_B hg m_Tr_writeFork.1 m_Tr_writeFork.2.2.1 m_Tr_writeFork.2.2.2.1 m_Tr_writeFork.2.2.2.2 q216 rfl rfl ⟨Nat.le_of_ble_eq_true rfl, Nat.le_of_ble_eq_true rfl⟩, hg _ m_Tr_writeFork.2.1, hg _ sp_Tr_writeFork⟩ ⟨xw_blind, (va_recv (q0 := 0) hK.1 hP rfl rfl), xw_pre hK hP hD [0, 1, 2, 3, 4, 5] (by decide) rfl⟩ rfl rfl hl.1 rfl (lv_room (Nat.le_of_ble_eq_true rfl)) d_Tr_writePlace_96 ⟨Nat.zero_le _, Nat.zero_le _⟩) hP hD hS hA [0, 1, 2, 3, 4, 5] [] [0, 1, 2, 3, 4, 5] rfl rfl (by decide) (by decide) rfl (by decide) (fun H locs hP hD hS => ?_)
    refine lv_goto (tgt := 164) hx hb d_Tr_writePlace_99 rfl ?_
    have ew1 : nI (k + (tm_fk P n q).length) = nI (k + (tm_pl P n q).length) := congrArg nI (by first | (simp [tm_pl, tm_pa, tm_pa_app, tm_rs, hv, hj, hcj]; done) | (simp [tm_pl, tm_pa, tm_pa_app, tm_rs, hv, hj, hcj]; omega) | omega)
    have ew2 : tm_pa (tm_rs B) F k (tm_fk P n q) = tm_pa (tm_rs B) F k (tm_pl P n q) := by first | rfl | simp [tm_pl, tm_pa, tm_pa_app, tm_rs, hv, hj, hcj]
    have hP : va_P D cls [(t, .inr (2, [.ref pL, .ref cL, .ref bA])), (pL, .inr (1, [.ref pF, .int (nI n)])), (pF, .inl (cI, 96, .inl P)), (cL, .inr (1, [.ref cF, .int (nI (k + (tm_pl P n q).length))])), (cF, .inl (cI, 868, .inl (tm_pa (tm_rs B) F k (tm_pl P n q)))), (bA, .inl (cI, 25, .inl B))] H := by rw [← ew1, ← ew2]; exact hP
    have hD : va_D A [(t, .inr (2, [.ref pL, .ref cL, .ref bA])), (pL, .inr (1, [.ref pF, .int (nI n)])), (pF, .inl (cI, 96, .inl P)), (cL, .inr (1, [.ref cF, .int (nI (k + (tm_pl P n q).length))])), (cF, .inl (cI, 868, .inl (tm_pa (tm_rs B) F k (tm_pl P n q)))), (bA, .inl (cI, 25, .inl B))] := by rw [← ew1, ← ew2]; exact hD
    exact W.vret hx hb hr (fun t9 ht9 hW9 => ⟨⟨(), rfl, trivial, by rw [ht9]; exact hP, hD⟩, hS.F ht9⟩) hS.2.2 d_Tr_writePlace_164
  · subst e0
    have hv : P (4 * q) = 11 := hv
    refine lv_tableIn (x := nI 11) (off := 94) (tgt := 102) hx hb d_Tr_writePlace_8 (by decide) (by decide) rfl rfl ?_
    have hk12 := h9 (by omega)
    obtain ⟨j, hj2, hj⟩ := hle (by omega) (by omega)
    have hcj : (nI j).toNatClampNeg = j := nI_clamp (by omega)
    have r4 := tm_si_len P n (q + 1)
    have r5 := tm_wt_len 0 5 7 0 (nI (q + 2))
    refine lv_aload_n hx hb d_Tr_writePlace_102 rfl (lv_at hl 0 rfl) ?_
    refine lv_iload_n hx hb d_Tr_writePlace_103 rfl (lv_at hl 1 rfl) ?_
    refine lv_iconst (v := 1) hx hb d_Tr_writePlace_104 (by decide) ?_
    refine lv_iadd hx hb d_Tr_writePlace_105 ?_
    have eq9 : ((nI q) + 1 : Int32) = nI (q + 1) := nI_add q 1
    refine W.eq (g2 := F0 m 106 ls [.int (nI (q + 1)), .ref t]) (by rw [eq9]) ?_
    refine xw_go (w2 := [(t, .inr (2, [.ref pL, .ref cL, .ref bA])), (pL, .inr (1, [.ref pF, .int (nI n)])), (pF, .inl (cI, 96, .inl P)), (cL, .inr (1, [.ref cF, .int (nI (k + (tm_si P n (q + 1)).length))])), (cF, .inl (cI, 868, .inl (tm_pa (tm_rs B) F k (tm_si P n (q + 1))))), (bA, .inl (cI, 25, .inl B))]) (wr := []) (w1 := [(t, .inr (2, [.ref pL, .ref cL, .ref bA])), (pL, .inr (1, [.ref pF, .int (nI n)])), (pF, .inl (cI, 96, .inl P)), (cL, .inr (1, [.ref cF, .int (nI (k + (tm_si P n (q + 1)).length))])), (cF, .inl (cI, 868, .inl (tm_pa (tm_rs B) F k (tm_si P n (q + 1))))), (bA, .inl (cI, 25, .inl B))]) (va_runV (As := [.int (nI (q + 1))]) (rest := []) (C := R_Tr) ⟨hx, hb, hml, hown, hg⟩ (c_Tr_writeSimple l D cI cZ cJ t pL pF cL cF bA P F B n k (q + 1) (by omega) (hk12.1) (by omega) (hk12.2.2) s.heap.size) ⟨xg_B hg m_Tr_writeSimple.1 m_Tr_writeSimple.2.2.1 m_Tr_writeSimple.2.2.2.1 m_Tr_writeSimple.2.2.2.2 q232 rfl rfl ⟨Nat.le_of_ble_eq_true rfl, Nat.le_of_ble_eq_true rfl⟩, hg _ m_Tr_writeSimple.2.1, hg _ sp_Tr_writeSimple⟩ ⟨xw_blind, (va_recv (q0 := 0) hK.1 hP rfl rfl), xw_pre hK hP hD [0, 1, 2, 3, 4, 5] (by decide) rfl⟩ rfl rfl hl.1 rfl (lv_room (Nat.le_of_ble_eq_true rfl)) d_Tr_writePlace_106 ⟨Nat.zero_le _, Nat.zero_le _⟩) hP hD hS hA [0, 1, 2, 3, 4, 5] [] [0, 1, 2, 3, 4, 5] rfl rfl (by decide) (by decide) rfl (by decide) (fun H locs hP hD hS => ?_)
    refine lv_aload_n hx hb d_Tr_writePlace_109 rfl (lv_at hl 0 rfl) ?_
    refine lv_aload_n hx hb d_Tr_writePlace_110 rfl (lv_at hl 0 rfl) ?_
    refine lv_iload_n hx hb d_Tr_writePlace_111 rfl (lv_at hl 1 rfl) ?_
    refine xr_V (C := R_Tr) (As := [.int (nI q)]) (rest := [.ref t]) ⟨hx, hb, hml, hown, hg⟩ (c_Tr_leadOf l D cI cZ cJ t pL pF cL cF bA P (tm_pa (tm_rs B) F k (tm_si P n (q + 1))) B n (k + (tm_si P n (q + 1)).length) q (by omega) (by omega)) m_Tr_leadOf q195 sp_Tr_leadOf ⟨rfl, rfl⟩ ⟨Nat.le_of_ble_eq_true rfl, Nat.le_of_ble_eq_true rfl⟩ hK hP [0, 1, 2, 3, 4, 5] rfl (va_recv (q0 := 0) hK.1 hP rfl rfl) rfl hl.1 rfl (Nat.le_of_ble_eq_true rfl) d_Tr_writePlace_112 ⟨Nat.zero_le _, Nat.zero_le _⟩ ?_
    have eq9 : (tm_ld P q : Int32) = nI j := hj
    refine W.eq (g2 := F0 m 115 ls [.int (nI j), .ref t]) (by rw [eq9]) ?_
    refine xw_go (w2 := [(t, .inr (2, [.ref pL, .ref cL, .ref bA])), (pL, .inr (1, [.ref pF, .int (nI n)])), (pF, .inl (cI, 96, .inl P)), (cL, .inr (1, [.ref cF, .int (nI ((k + (tm_si P n (q + 1)).length) + 1))])), (cF, .inl (cI, 868, .inl (tm_w4 (tm_pa (tm_rs B) F k (tm_si P n (q + 1))) (k + (tm_si P n (q + 1)).length) 11 0 0 (B j)))), (bA, .inl (cI, 25, .inl B))]) (wr := []) (w1 := [(t, .inr (2, [.ref pL, .ref cL, .ref bA])), (pL, .inr (1, [.ref pF, .int (nI n)])), (pF, .inl (cI, 96, .inl P)), (cL, .inr (1, [.ref cF, .int (nI ((k + (tm_si P n (q + 1)).length) + 1))])), (cF, .inl (cI, 868, .inl (tm_w4 (tm_pa (tm_rs B) F k (tm_si P n (q + 1))) (k + (tm_si P n (q + 1)).length) 11 0 0 (B j)))), (bA, .inl (cI, 25, .inl B))]) (va_runV (As := [.int (nI j)]) (rest := []) (C := R_Tr) ⟨hx, hb, hml, hown, hg⟩ (c_Tr_writeJump l D cI cZ cJ t pL pF cL cF bA P (tm_pa (tm_rs B) F k (tm_si P n (q + 1))) B n (k + (tm_si P n (q + 1)).length) j (by omega) (by omega) (by omega) H.size) ⟨xg_B hg m_Tr_writeJump.1 m_Tr_writeJump.2.2.1 m_Tr_writeJump.2.2.2.1 m_Tr_writeJump.2.2.2.2 q251 rfl rfl ⟨Nat.le_of_ble_eq_true rfl, Nat.le_of_ble_eq_true rfl⟩, hg _ m_Tr_writeJump.2.1, hg _ sp_Tr_writeJump⟩ ⟨xw_blind, (va_recv (q0 := 0) hK.1 hP rfl rfl), xw_pre hK hP hD [0, 1, 2, 3, 4, 5] (by decide) rfl⟩ rfl rfl hl.1 rfl (lv_room (Nat.le_of_ble_eq_true rfl)) d_Tr_writePlace_115 ⟨Nat.zero_le _, Nat.zero_le _⟩) hP hD hS hA [0, 1, 2, 3, 4, 5] [] [0, 1, 2, 3, 4, 5] rfl rfl (by decide) (by decide) rfl (by decide) (fun H locs hP hD hS => ?_)
    refine lv_goto (tgt := 164) hx hb d_Tr_writePlace_118 rfl ?_
    have ew1 : nI ((k + (tm_si P n (q + 1)).length) + 1) = nI (k + (tm_pl P n q).length) := congrArg nI (by first | (simp [tm_pl, tm_pa, tm_pa_app, tm_rs, hv, hj, hcj]; done) | (simp [tm_pl, tm_pa, tm_pa_app, tm_rs, hv, hj, hcj]; omega) | omega)
    have ew2 : tm_w4 (tm_pa (tm_rs B) F k (tm_si P n (q + 1))) (k + (tm_si P n (q + 1)).length) 11 0 0 (B j) = tm_pa (tm_rs B) F k (tm_pl P n q) := by first | rfl | simp [tm_pl, tm_pa, tm_pa_app, tm_rs, hv, hj, hcj]
    have hP : va_P D cls [(t, .inr (2, [.ref pL, .ref cL, .ref bA])), (pL, .inr (1, [.ref pF, .int (nI n)])), (pF, .inl (cI, 96, .inl P)), (cL, .inr (1, [.ref cF, .int (nI (k + (tm_pl P n q).length))])), (cF, .inl (cI, 868, .inl (tm_pa (tm_rs B) F k (tm_pl P n q)))), (bA, .inl (cI, 25, .inl B))] H := by rw [← ew1, ← ew2]; exact hP
    have hD : va_D A [(t, .inr (2, [.ref pL, .ref cL, .ref bA])), (pL, .inr (1, [.ref pF, .int (nI n)])), (pF, .inl (cI, 96, .inl P)), (cL, .inr (1, [.ref cF, .int (nI (k + (tm_pl P n q).length))])), (cF, .inl (cI, 868, .inl (tm_pa (tm_rs B) F k (tm_pl P n q)))), (bA, .inl (cI, 25, .inl B))] := by rw [← ew1, ← ew2]; exact hD
    exact W.vret hx hb hr (fun t9 ht9 hW9 => ⟨⟨(), rfl, trivial, by rw [ht9]; exact hP, hD⟩, hS.F ht9⟩) hS.2.2 d_Tr_writePlace_164
  · subst e0
    have hv : P (4 * q) = 12 := hv
    refine lv_tableIn (x := nI 12) (off := 113) (tgt := 121) hx hb d_Tr_writePlace_8 (by decide) (by decide) rfl rfl ?_
    have hk12 := h9 (by omega)
    obtain ⟨j, hj2, hj⟩ := hle (by omega) (by omega)
    have hcj : (nI j).toNatClampNeg = j := nI_clamp (by omega)
    have r4 := tm_si_len P n (q + 1)
    have r5 := tm_wt_len 0 5 7 0 (nI (q + 2))
    refine lv_aload_n hx hb d_Tr_writePlace_121 rfl (lv_at hl 0 rfl) ?_
    refine lv_bipush (v := 7) hx hb d_Tr_writePlace_122 (by decide) ?_
    refine lv_iconst (v := 5) hx hb d_Tr_writePlace_124 (by decide) ?_
    refine lv_iconst (v := 0) hx hb d_Tr_writePlace_125 (by decide) ?_
    refine lv_iload_n hx hb d_Tr_writePlace_126 rfl (lv_at hl 1 rfl) ?_
    refine lv_iconst (v := 2) hx hb d_Tr_writePlace_127 (by decide) ?_
    refine lv_iadd hx hb d_Tr_writePlace_128 ?_
    have eq9 : ((nI q) + 2 : Int32) = nI (q + 2) := nI_add q 2
    refine W.eq (g2 := F0 m 129 ls [.int (nI (q + 2)), .int 0, .int 5, .int 7, .ref t]) (by rw [eq9]) ?_
    refine xw_go (w2 := [(t, .inr (2, [.ref pL, .ref cL, .ref bA])), (pL, .inr (1, [.ref pF, .int (nI n)])), (pF, .inl (cI, 96, .inl P)), (cL, .inr (1, [.ref cF, .int (nI (k + (tm_wt 0 5 7 0 (nI (q + 2))).length))])), (cF, .inl (cI, 868, .inl (tm_pa (tm_rs B) F k (tm_wt 0 5 7 0 (nI (q + 2)))))), (bA, .inl (cI, 25, .inl B))]) (wr := []) (w1 := [(t, .inr (2, [.ref pL, .ref cL, .ref bA])), (pL, .inr (1, [.ref pF, .int (nI n)])), (pF, .inl (cI, 96, .inl P)), (cL, .inr (1, [.ref cF, .int (nI (k + (tm_wt 0 5 7 0 (nI (q + 2))).length))])), (cF, .inl (cI, 868, .inl (tm_pa (tm_rs B) F k (tm_wt 0 5 7 0 (nI (q + 2)))))), (bA, .inl (cI, 25, .inl B))]) (va_runV (As := [.int 7, .int 5, .int 0, .int (nI (q + 2))]) (rest := []) (C := R_Tr) ⟨hx, hb, hml, hown, hg⟩ (c_Tr_writeInto l D cI cZ cJ t pL pF cL cF bA P F B n k 0 7 5 0 (nI (q + 2)) (by omega) s.heap.size) ⟨xg_B hg m_Tr_writeInto.1 m_Tr_writeInto.2.2.1 m_Tr_writeInto.2.2.2.1 m_Tr_writeInto.2.2.2.2 q236 rfl rfl ⟨Nat.le_of_ble_eq_true rfl, Nat.le_of_ble_eq_true rfl⟩, hg _ m_Tr_writeInto.2.1, hg _ sp_Tr_writeInto⟩ ⟨xw_blind, (va_recv (q0 := 0) hK.1 hP rfl rfl), xw_pre hK hP hD [0, 1, 2, 3, 4, 5] (by decide) rfl⟩ rfl rfl hl.1 rfl (lv_room (Nat.le_of_ble_eq_true rfl)) d_Tr_writePlace_129 ⟨Nat.zero_le _, Nat.zero_le _⟩) hP hD hS hA [0, 1, 2, 3, 4, 5] [] [0, 1, 2, 3, 4, 5] rfl rfl (by decide) (by decide) rfl (by decide) (fun H locs hP hD hS => ?_)
    refine lv_aload_n hx hb d_Tr_writePlace_132 rfl (lv_at hl 0 rfl) ?_
    refine lv_iload_n hx hb d_Tr_writePlace_133 rfl (lv_at hl 1 rfl) ?_
    refine lv_iconst (v := 1) hx hb d_Tr_writePlace_134 (by decide) ?_
    refine lv_iadd hx hb d_Tr_writePlace_135 ?_
    have eq9 : ((nI q) + 1 : Int32) = nI (q + 1) := nI_add q 1
    refine W.eq (g2 := F0 m 136 ls [.int (nI (q + 1)), .ref t]) (by rw [eq9]) ?_
    refine xw_go (w2 := [(t, .inr (2, [.ref pL, .ref cL, .ref bA])), (pL, .inr (1, [.ref pF, .int (nI n)])), (pF, .inl (cI, 96, .inl P)), (cL, .inr (1, [.ref cF, .int (nI ((k + (tm_wt 0 5 7 0 (nI (q + 2))).length) + (tm_si P n (q + 1)).length))])), (cF, .inl (cI, 868, .inl (tm_pa (tm_rs B) (tm_pa (tm_rs B) F k (tm_wt 0 5 7 0 (nI (q + 2)))) (k + (tm_wt 0 5 7 0 (nI (q + 2))).length) (tm_si P n (q + 1))))), (bA, .inl (cI, 25, .inl B))]) (wr := []) (w1 := [(t, .inr (2, [.ref pL, .ref cL, .ref bA])), (pL, .inr (1, [.ref pF, .int (nI n)])), (pF, .inl (cI, 96, .inl P)), (cL, .inr (1, [.ref cF, .int (nI ((k + (tm_wt 0 5 7 0 (nI (q + 2))).length) + (tm_si P n (q + 1)).length))])), (cF, .inl (cI, 868, .inl (tm_pa (tm_rs B) (tm_pa (tm_rs B) F k (tm_wt 0 5 7 0 (nI (q + 2)))) (k + (tm_wt 0 5 7 0 (nI (q + 2))).length) (tm_si P n (q + 1))))), (bA, .inl (cI, 25, .inl B))]) (va_runV (As := [.int (nI (q + 1))]) (rest := []) (C := R_Tr) ⟨hx, hb, hml, hown, hg⟩ (c_Tr_writeSimple l D cI cZ cJ t pL pF cL cF bA P (tm_pa (tm_rs B) F k (tm_wt 0 5 7 0 (nI (q + 2)))) B n (k + (tm_wt 0 5 7 0 (nI (q + 2))).length) (q + 1) (by omega) (hk12.1) (by omega) (hk12.2.2) H.size) ⟨xg_B hg m_Tr_writeSimple.1 m_Tr_writeSimple.2.2.1 m_Tr_writeSimple.2.2.2.1 m_Tr_writeSimple.2.2.2.2 q232 rfl rfl ⟨Nat.le_of_ble_eq_true rfl, Nat.le_of_ble_eq_true rfl⟩, hg _ m_Tr_writeSimple.2.1, hg _ sp_Tr_writeSimple⟩ ⟨xw_blind, (va_recv (q0 := 0) hK.1 hP rfl rfl), xw_pre hK hP hD [0, 1, 2, 3, 4, 5] (by decide) rfl⟩ rfl rfl hl.1 rfl (lv_room (Nat.le_of_ble_eq_true rfl)) d_Tr_writePlace_136 ⟨Nat.zero_le _, Nat.zero_le _⟩) hP hD hS hA [0, 1, 2, 3, 4, 5] [] [0, 1, 2, 3, 4, 5] rfl rfl (by decide) (by decide) rfl (by decide) (fun H locs hP hD hS => ?_)
    refine lv_aload_n hx hb d_Tr_writePlace_139 rfl (lv_at hl 0 rfl) ?_
    refine lv_aload_n hx hb d_Tr_writePlace_140 rfl (lv_at hl 0 rfl) ?_
    refine lv_iload_n hx hb d_Tr_writePlace_141 rfl (lv_at hl 1 rfl) ?_
    refine xr_V (C := R_Tr) (As := [.int (nI q)]) (rest := [.ref t]) ⟨hx, hb, hml, hown, hg⟩ (c_Tr_leadOf l D cI cZ cJ t pL pF cL cF bA P (tm_pa (tm_rs B) (tm_pa (tm_rs B) F k (tm_wt 0 5 7 0 (nI (q + 2)))) (k + (tm_wt 0 5 7 0 (nI (q + 2))).length) (tm_si P n (q + 1))) B n ((k + (tm_wt 0 5 7 0 (nI (q + 2))).length) + (tm_si P n (q + 1)).length) q (by omega) (by omega)) m_Tr_leadOf q195 sp_Tr_leadOf ⟨rfl, rfl⟩ ⟨Nat.le_of_ble_eq_true rfl, Nat.le_of_ble_eq_true rfl⟩ hK hP [0, 1, 2, 3, 4, 5] rfl (va_recv (q0 := 0) hK.1 hP rfl rfl) rfl hl.1 rfl (Nat.le_of_ble_eq_true rfl) d_Tr_writePlace_142 ⟨Nat.zero_le _, Nat.zero_le _⟩ ?_
    have eq9 : (tm_ld P q : Int32) = nI j := hj
    refine W.eq (g2 := F0 m 145 ls [.int (nI j), .ref t]) (by rw [eq9]) ?_
    refine xw_go (w2 := [(t, .inr (2, [.ref pL, .ref cL, .ref bA])), (pL, .inr (1, [.ref pF, .int (nI n)])), (pF, .inl (cI, 96, .inl P)), (cL, .inr (1, [.ref cF, .int (nI (((k + (tm_wt 0 5 7 0 (nI (q + 2))).length) + (tm_si P n (q + 1)).length) + 1))])), (cF, .inl (cI, 868, .inl (tm_w4 (tm_pa (tm_rs B) (tm_pa (tm_rs B) F k (tm_wt 0 5 7 0 (nI (q + 2)))) (k + (tm_wt 0 5 7 0 (nI (q + 2))).length) (tm_si P n (q + 1))) ((k + (tm_wt 0 5 7 0 (nI (q + 2))).length) + (tm_si P n (q + 1)).length) 11 0 0 (B j)))), (bA, .inl (cI, 25, .inl B))]) (wr := []) (w1 := [(t, .inr (2, [.ref pL, .ref cL, .ref bA])), (pL, .inr (1, [.ref pF, .int (nI n)])), (pF, .inl (cI, 96, .inl P)), (cL, .inr (1, [.ref cF, .int (nI (((k + (tm_wt 0 5 7 0 (nI (q + 2))).length) + (tm_si P n (q + 1)).length) + 1))])), (cF, .inl (cI, 868, .inl (tm_w4 (tm_pa (tm_rs B) (tm_pa (tm_rs B) F k (tm_wt 0 5 7 0 (nI (q + 2)))) (k + (tm_wt 0 5 7 0 (nI (q + 2))).length) (tm_si P n (q + 1))) ((k + (tm_wt 0 5 7 0 (nI (q + 2))).length) + (tm_si P n (q + 1)).length) 11 0 0 (B j)))), (bA, .inl (cI, 25, .inl B))]) (va_runV (As := [.int (nI j)]) (rest := []) (C := R_Tr) ⟨hx, hb, hml, hown, hg⟩ (c_Tr_writeJump l D cI cZ cJ t pL pF cL cF bA P (tm_pa (tm_rs B) (tm_pa (tm_rs B) F k (tm_wt 0 5 7 0 (nI (q + 2)))) (k + (tm_wt 0 5 7 0 (nI (q + 2))).length) (tm_si P n (q + 1))) B n ((k + (tm_wt 0 5 7 0 (nI (q + 2))).length) + (tm_si P n (q + 1)).length) j (by omega) (by omega) (by omega) H.size) ⟨xg_B hg m_Tr_writeJump.1 m_Tr_writeJump.2.2.1 m_Tr_writeJump.2.2.2.1 m_Tr_writeJump.2.2.2.2 q251 rfl rfl ⟨Nat.le_of_ble_eq_true rfl, Nat.le_of_ble_eq_true rfl⟩, hg _ m_Tr_writeJump.2.1, hg _ sp_Tr_writeJump⟩ ⟨xw_blind, (va_recv (q0 := 0) hK.1 hP rfl rfl), xw_pre hK hP hD [0, 1, 2, 3, 4, 5] (by decide) rfl⟩ rfl rfl hl.1 rfl (lv_room (Nat.le_of_ble_eq_true rfl)) d_Tr_writePlace_145 ⟨Nat.zero_le _, Nat.zero_le _⟩) hP hD hS hA [0, 1, 2, 3, 4, 5] [] [0, 1, 2, 3, 4, 5] rfl rfl (by decide) (by decide) rfl (by decide) (fun H locs hP hD hS => ?_)
    refine lv_goto (tgt := 164) hx hb d_Tr_writePlace_148 rfl ?_
    have ew1 : nI (((k + (tm_wt 0 5 7 0 (nI (q + 2))).length) + (tm_si P n (q + 1)).length) + 1) = nI (k + (tm_pl P n q).length) := congrArg nI (by first | (simp [tm_pl, tm_pa, tm_pa_app, tm_rs, hv, hj, hcj]; done) | (simp [tm_pl, tm_pa, tm_pa_app, tm_rs, hv, hj, hcj]; omega) | omega)
    have ew2 : tm_w4 (tm_pa (tm_rs B) (tm_pa (tm_rs B) F k (tm_wt 0 5 7 0 (nI (q + 2)))) (k + (tm_wt 0 5 7 0 (nI (q + 2))).length) (tm_si P n (q + 1))) ((k + (tm_wt 0 5 7 0 (nI (q + 2))).length) + (tm_si P n (q + 1)).length) 11 0 0 (B j) = tm_pa (tm_rs B) F k (tm_pl P n q) := by first | rfl | simp [tm_pl, tm_pa, tm_pa_app, tm_rs, hv, hj, hcj]
    have hP : va_P D cls [(t, .inr (2, [.ref pL, .ref cL, .ref bA])), (pL, .inr (1, [.ref pF, .int (nI n)])), (pF, .inl (cI, 96, .inl P)), (cL, .inr (1, [.ref cF, .int (nI (k + (tm_pl P n q).length))])), (cF, .inl (cI, 868, .inl (tm_pa (tm_rs B) F k (tm_pl P n q)))), (bA, .inl (cI, 25, .inl B))] H := by rw [← ew1, ← ew2]; exact hP
    have hD : va_D A [(t, .inr (2, [.ref pL, .ref cL, .ref bA])), (pL, .inr (1, [.ref pF, .int (nI n)])), (pF, .inl (cI, 96, .inl P)), (cL, .inr (1, [.ref cF, .int (nI (k + (tm_pl P n q).length))])), (cF, .inl (cI, 868, .inl (tm_pa (tm_rs B) F k (tm_pl P n q)))), (bA, .inl (cI, 25, .inl B))] := by rw [← ew1, ← ew2]; exact hD
    exact W.vret hx hb hr (fun t9 ht9 hW9 => ⟨⟨(), rfl, trivial, by rw [ht9]; exact hP, hD⟩, hS.F ht9⟩) hS.2.2 d_Tr_writePlace_164
  · subst e0
    have hv : P (4 * q) = 13 := hv
    refine lv_tableIn (x := nI 13) (off := 143) (tgt := 151) hx hb d_Tr_writePlace_8 (by decide) (by decide) rfl rfl ?_
    have hk12 := h9 (by omega)
    have r4 := tm_si_len P n (q + 1)
    have r5 := tm_wt_len 0 5 7 0 (nI (q + 2))
    refine lv_aload_n hx hb d_Tr_writePlace_151 rfl (lv_at hl 0 rfl) ?_
    refine lv_iload_n hx hb d_Tr_writePlace_152 rfl (lv_at hl 1 rfl) ?_
    refine xw_go (w2 := [(t, .inr (2, [.ref pL, .ref cL, .ref bA])), (pL, .inr (1, [.ref pF, .int (nI n)])), (pF, .inl (cI, 96, .inl P)), (cL, .inr (1, [.ref cF, .int (nI (k + (tm_to P n q).length))])), (cF, .inl (cI, 868, .inl (tm_pa (tm_rs B) F k (tm_to P n q)))), (bA, .inl (cI, 25, .inl B))]) (wr := []) (w1 := [(t, .inr (2, [.ref pL, .ref cL, .ref bA])), (pL, .inr (1, [.ref pF, .int (nI n)])), (pF, .inl (cI, 96, .inl P)), (cL, .inr (1, [.ref cF, .int (nI (k + (tm_to P n q).length))])), (cF, .inl (cI, 868, .inl (tm_pa (tm_rs B) F k (tm_to P n q)))), (bA, .inl (cI, 25, .inl B))]) (va_runV (As := [.int (nI q)]) (rest := []) (C := R_Tr) ⟨hx, hb, hml, hown, hg⟩ (c_Tr_writeTo l D cI cZ cJ t pL pF cL cF bA P F B n k q (by omega) (hk12.1) (hk12.2.1) (hk12.2.2) s.heap.size) ⟨xg_B hg m_Tr_writeTo.1 m_Tr_writeTo.2.2.1 m_Tr_writeTo.2.2.2.1 m_Tr_writeTo.2.2.2.2 q255 rfl rfl ⟨Nat.le_of_ble_eq_true rfl, Nat.le_of_ble_eq_true rfl⟩, hg _ m_Tr_writeTo.2.1, hg _ sp_Tr_writeTo⟩ ⟨xw_blind, (va_recv (q0 := 0) hK.1 hP rfl rfl), xw_pre hK hP hD [0, 1, 2, 3, 4, 5] (by decide) rfl⟩ rfl rfl hl.1 rfl (lv_room (Nat.le_of_ble_eq_true rfl)) d_Tr_writePlace_153 ⟨Nat.zero_le _, Nat.zero_le _⟩) hP hD hS hA [0, 1, 2, 3, 4, 5] [] [0, 1, 2, 3, 4, 5] rfl rfl (by decide) (by decide) rfl (by decide) (fun H locs hP hD hS => ?_)
    refine lv_goto (tgt := 164) hx hb d_Tr_writePlace_156 rfl ?_
    have ew1 : nI (k + (tm_to P n q).length) = nI (k + (tm_pl P n q).length) := congrArg nI (by first | (simp [tm_pl, tm_pa, tm_pa_app, tm_rs, hv]; done) | (simp [tm_pl, tm_pa, tm_pa_app, tm_rs, hv]; omega) | omega)
    have ew2 : tm_pa (tm_rs B) F k (tm_to P n q) = tm_pa (tm_rs B) F k (tm_pl P n q) := by first | rfl | simp [tm_pl, tm_pa, tm_pa_app, tm_rs, hv]
    have hP : va_P D cls [(t, .inr (2, [.ref pL, .ref cL, .ref bA])), (pL, .inr (1, [.ref pF, .int (nI n)])), (pF, .inl (cI, 96, .inl P)), (cL, .inr (1, [.ref cF, .int (nI (k + (tm_pl P n q).length))])), (cF, .inl (cI, 868, .inl (tm_pa (tm_rs B) F k (tm_pl P n q)))), (bA, .inl (cI, 25, .inl B))] H := by rw [← ew1, ← ew2]; exact hP
    have hD : va_D A [(t, .inr (2, [.ref pL, .ref cL, .ref bA])), (pL, .inr (1, [.ref pF, .int (nI n)])), (pF, .inl (cI, 96, .inl P)), (cL, .inr (1, [.ref cF, .int (nI (k + (tm_pl P n q).length))])), (cF, .inl (cI, 868, .inl (tm_pa (tm_rs B) F k (tm_pl P n q)))), (bA, .inl (cI, 25, .inl B))] := by rw [← ew1, ← ew2]; exact hD
    exact W.vret hx hb hr (fun t9 ht9 hW9 => ⟨⟨(), rfl, trivial, by rw [ht9]; exact hP, hD⟩, hS.F ht9⟩) hS.2.2 d_Tr_writePlace_164
