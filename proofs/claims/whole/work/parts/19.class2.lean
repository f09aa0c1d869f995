/-! THE CLASS: code, begins, register, data, cell, access, result, run (printed by wip/whole/gen/c19.py) -/
set_option maxHeartbeats 4000000 in
set_option maxRecDepth 100000 in
theorem c_TM_code (l : Launch) (D : va_G) (cI cZ cJ : ClassId) (x0 pL pF t cL cF bA sR sD so soR soC soA ta taR taC taA : Nat) (P F B sr sd Rs Cs As Rt Ct At : Nat → Int32) (n k ks kt : Nat) (hs ds es xs ht dt et : Int32) (q w : Nat) (hk : k ≤ 217) (hq : q < k) (hw : w < 4) : xr_Met l y_TM_code b_TM_code 3 (some .int) { frames := 1, cells := 0, slots := 0, locals := 22 } [.ref x0, .int (nI q), .int (nI w)] (xb D cls [(x0, .inr (0, [.ref pL, .ref t, .ref sR, .ref sD, .ref so, .ref ta])), (pL, .inr (1, [.ref pF, .int (nI n)])), (pF, .inl (cI, 96, .inl P)), (t, .inr (2, [.ref pL, .ref cL, .ref bA])), (cL, .inr (1, [.ref cF, .int (nI k)])), (cF, .inl (cI, 868, .inl F)), (bA, .inl (cI, 25, .inl B)), (sR, .inl (cI, 8, .inl sr)), (sD, .inl (cI, 32, .inl sd)), (so, .inr (3, [.ref pL, .ref soR, .ref soC, .ref soA, .int (nI ks), .int hs, .int ds, .int es, .int xs])), (soR, .inl (cI, 8, .inl Rs)), (soC, .inl (cI, 32, .inl Cs)), (soA, .inl (cI, 120, .inl As)), (ta, .inr (4, [.ref cL, .ref taR, .ref taC, .ref taA, .int (nI kt), .int ht, .int dt, .int et, .ref t])), (taR, .inl (cI, 8, .inl Rt)), (taC, .inl (cI, 64, .inl Ct)), (taA, .inl (cI, 120, .inl At))] (tyL cI cZ cJ)) (F (4 * q + w)) := by
  refine Met.ofW (cc := b_TM_code) (maxL := 3) (ret := (some .int)) (by decide) rfl ?_
  intro p e s m args below meth c s₁ B0 hml hv
  obtain ⟨rfl, hP, hK⟩ := hv
  have hx := B0.exec
  have hb := B0.bytes
  have hr := B0.returns
  have hlocks := B0.notSynchronized
  have hg : ∀ w ∈ gG, w.before _ s = true := fun w h => atoms_spec B0.pre w (List.mem_cons_of_mem _ h)
  have hown : s.vm.findClass R_TM = some m.cls := findClass_of_methodNamed B0.named
  have hP : va_P D cls [(x0, .inr (0, [.ref pL, .ref t, .ref sR, .ref sD, .ref so, .ref ta])), (pL, .inr (1, [.ref pF, .int (nI n)])), (pF, .inl (cI, 96, .inl P)), (t, .inr (2, [.ref pL, .ref cL, .ref bA])), (cL, .inr (1, [.ref cF, .int (nI k)])), (cF, .inl (cI, 868, .inl F)), (bA, .inl (cI, 25, .inl B)), (sR, .inl (cI, 8, .inl sr)), (sD, .inl (cI, 32, .inl sd)), (so, .inr (3, [.ref pL, .ref soR, .ref soC, .ref soA, .int (nI ks), .int hs, .int ds, .int es, .int xs])), (soR, .inl (cI, 8, .inl Rs)), (soC, .inl (cI, 32, .inl Cs)), (soA, .inl (cI, 120, .inl As)), (ta, .inr (4, [.ref cL, .ref taR, .ref taC, .ref taA, .int (nI kt), .int ht, .int dt, .int et, .ref t])), (taR, .inl (cI, 8, .inl Rt)), (taC, .inl (cI, 64, .inl Ct)), (taA, .inl (cI, 120, .inl At))] s.heap := hP
  have hl := lv_entry ([.ref x0, .int (nI q), .int (nI w)]) (n := 3) (Nat.le_of_ble_eq_true rfl)
  rw [lg_entry_eq]
  generalize (lg_sl ([.ref x0, .int (nI q), .int (nI w)]) ++ List.replicate (3 - (lg_sl ([.ref x0, .int (nI q), .int (nI w)])).length) Slot.unset).toArray = ls at hl ⊢
  have hl : lv_has ls 3 [(0, .ref x0), (1, .int (nI q)), (2, .int (nI w))] := hl
  refine lv_iload_n hx hb d_TM_code_0 rfl (lv_at hl 2 rfl) ?_
  refine lv_iconst (v := 0) hx hb d_TM_code_1 (by decide) ?_
  refine lv_iconst (v := 3) hx hb d_TM_code_2 (by decide) ?_
  refine xr_S (As := [.int (nI w), .int 0, .int 3]) (rest := []) ⟨hx, hb, hml, hown, hg⟩ (c_TM_isWithin l D cI cZ cJ (nI w) 0 3) m_TM_isWithin q274 ⟨rfl, rfl⟩ ⟨Nat.le_of_ble_eq_true rfl, Nat.le_of_ble_eq_true rfl⟩ hK hP [] rfl rfl hl.1 rfl (Nat.le_of_ble_eq_true rfl) d_TM_code_3 ⟨Nat.zero_le _, Nat.zero_le _⟩ ?_
  refine lv_if_ne (tgt := 17) hx hb d_TM_code_6 rfl (fun _ => ?_) (fun hz9 => absurd hz9 (tm_wi_y (nI_le (a := 0) (b := w) (by omega) (by omega)) (nI_le (a := w) (b := 3) (by omega) (by omega))))
  refine lv_aload_n hx hb d_TM_code_17 rfl (lv_at hl 0 rfl) ?_
  refine va_get (D := D) (ci := 0) (v := .ref t) (C := R_TM) (T := F_TM) (N := 6) hx hb hg f_TM hown hK.1 hP 0 rfl rfl 1 (by decide) (hg _ q141) (fun _ h9 => h9) rfl d_TM_code_18 ?_
  refine va_get (D := D) (ci := 2) (v := .ref cL) (C := R_Tr) (T := F_Tr) (N := 3) hx hb hg f_Tr hown hK.1 hP 3 rfl rfl 1 (by decide) (hg _ q54) (fun _ h9 => h9) rfl d_TM_code_21 ?_
  refine lv_iload_n hx hb d_TM_code_24 rfl (lv_at hl 1 rfl) ?_
  refine xr_V (C := R_Li) (As := [.int (nI q)]) (rest := []) ⟨hx, hb, hml, hown, hg⟩ (c_Li_hasN l D cI cZ cJ cL cF 868 F k q (by omega) (by omega)) m_Li_has q382 q193 ⟨rfl, rfl⟩ ⟨Nat.le_of_ble_eq_true rfl, Nat.le_of_ble_eq_true rfl⟩ hK hP [4, 5] rfl (va_recv (q0 := 4) hK.1 hP rfl rfl) rfl hl.1 rfl (Nat.le_of_ble_eq_true rfl) d_TM_code_25 ⟨Nat.zero_le _, Nat.zero_le _⟩ ?_
  refine lv_if_ne (tgt := 39) hx hb d_TM_code_28 rfl (fun _ => ?_) (fun hz9 => absurd hz9 (by rw [if_pos hq]; decide))
  refine lv_aload_n hx hb d_TM_code_39 rfl (lv_at hl 0 rfl) ?_
  refine va_get (D := D) (ci := 0) (v := .ref t) (C := R_TM) (T := F_TM) (N := 6) hx hb hg f_TM hown hK.1 hP 0 rfl rfl 1 (by decide) (hg _ q141) (fun _ h9 => h9) rfl d_TM_code_40 ?_
  refine va_get (D := D) (ci := 2) (v := .ref cL) (C := R_Tr) (T := F_Tr) (N := 3) hx hb hg f_Tr hown hK.1 hP 3 rfl rfl 1 (by decide) (hg _ q54) (fun _ h9 => h9) rfl d_TM_code_43 ?_
  refine lv_iload_n hx hb d_TM_code_46 rfl (lv_at hl 1 rfl) ?_
  refine lv_iload_n hx hb d_TM_code_47 rfl (lv_at hl 2 rfl) ?_
  refine xr_V (C := R_Li) (As := [.int (nI q), .int (nI w)]) (rest := []) ⟨hx, hb, hml, hown, hg⟩ (c_Li_field l D cI cZ cJ cL cF 868 F (nI k) q w (by omega) (by omega)) m_Li_field q398 q185 ⟨rfl, rfl⟩ ⟨Nat.le_of_ble_eq_true rfl, Nat.le_of_ble_eq_true rfl⟩ hK hP [4, 5] rfl (va_recv (q0 := 4) hK.1 hP rfl rfl) rfl hl.1 rfl (Nat.le_of_ble_eq_true rfl) d_TM_code_48 ⟨Nat.zero_le _, Nat.zero_le _⟩ ?_
  exact W.iret (v := F (4 * q + w)) hx hb hr (fun t9 ht9 hW9 => ⟨F (4 * q + w), rfl, rfl, ht9⟩) (fun _ h => by cases h) d_TM_code_51

set_option maxHeartbeats 4000000 in
set_option maxRecDepth 100000 in
theorem c_TM_code_1 (l : Launch) (hL : xe_L l) (D : va_G) (cI cZ cJ : ClassId) (x0 pL pF t cL cF bA sR sD so soR soC soA ta taR taC taA : Nat) (P F B sr sd Rs Cs As Rt Ct At : Nat → Int32) (n k ks kt : Nat) (hs ds es xs ht dt et : Int32) (y z : Int32) (hbad : tm_wi z 0 3 = 0) : xt_Met l y_TM_code b_TM_code 3 (some .int) { frames := 6, cells := 1, slots := 6, locals := 81 } [.ref x0, .int y, .int z] (xtb D cls [(x0, .inr (0, [.ref pL, .ref t, .ref sR, .ref sD, .ref so, .ref ta])), (pL, .inr (1, [.ref pF, .int (nI n)])), (pF, .inl (cI, 96, .inl P)), (t, .inr (2, [.ref pL, .ref cL, .ref bA])), (cL, .inr (1, [.ref cF, .int (nI k)])), (cF, .inl (cI, 868, .inl F)), (bA, .inl (cI, 25, .inl B)), (sR, .inl (cI, 8, .inl sr)), (sD, .inl (cI, 32, .inl sd)), (so, .inr (3, [.ref pL, .ref soR, .ref soC, .ref soA, .int (nI ks), .int hs, .int ds, .int es, .int xs])), (soR, .inl (cI, 8, .inl Rs)), (soC, .inl (cI, 32, .inl Cs)), (soA, .inl (cI, 120, .inl As)), (ta, .inr (4, [.ref cL, .ref taR, .ref taC, .ref taA, .int (nI kt), .int ht, .int dt, .int et, .ref t])), (taR, .inl (cI, 8, .inl Rt)), (taC, .inl (cI, 64, .inl Ct)), (taA, .inl (cI, 120, .inl At))] (tyL cI cZ cJ)) "java/lang/IllegalArgumentException" := by
  refine xe_ofW (cc := b_TM_code) (maxL := 3) (ret := (some .int)) (by decide) rfl ?_
  intro p e s m args below meth c s₁ B0 hadm hnone hml hv
  obtain ⟨rfl, ⟨hP, hK⟩, hT⟩ := hv
  have hx := B0.exec
  have hb := B0.bytes
  have hr := B0.returns
  have hlocks := B0.notSynchronized
  have hg : ∀ w ∈ gG, w.before _ s = true := fun w h => atoms_spec B0.pre w (List.mem_cons_of_mem _ h)
  have hown : s.vm.findClass R_TM = some m.cls := findClass_of_methodNamed B0.named
  have hP : va_P D cls [(x0, .inr (0, [.ref pL, .ref t, .ref sR, .ref sD, .ref so, .ref ta])), (pL, .inr (1, [.ref pF, .int (nI n)])), (pF, .inl (cI, 96, .inl P)), (t, .inr (2, [.ref pL, .ref cL, .ref bA])), (cL, .inr (1, [.ref cF, .int (nI k)])), (cF, .inl (cI, 868, .inl F)), (bA, .inl (cI, 25, .inl B)), (sR, .inl (cI, 8, .inl sr)), (sD, .inl (cI, 32, .inl sd)), (so, .inr (3, [.ref pL, .ref soR, .ref soC, .ref soA, .int (nI ks), .int hs, .int ds, .int es, .int xs])), (soR, .inl (cI, 8, .inl Rs)), (soC, .inl (cI, 32, .inl Cs)), (soA, .inl (cI, 120, .inl As)), (ta, .inr (4, [.ref cL, .ref taR, .ref taC, .ref taA, .int (nI kt), .int ht, .int dt, .int et, .ref t])), (taR, .inl (cI, 8, .inl Rt)), (taC, .inl (cI, 64, .inl Ct)), (taA, .inl (cI, 120, .inl At))] s.heap := hP
  have hl := lv_entry ([.ref x0, .int y, .int z]) (n := 3) (Nat.le_of_ble_eq_true rfl)
  rw [lg_entry_eq]
  generalize (lg_sl ([.ref x0, .int y, .int z]) ++ List.replicate (3 - (lg_sl ([.ref x0, .int y, .int z])).length) Slot.unset).toArray = ls at hl ⊢
  have hl : lv_has ls 3 [(0, .ref x0), (1, .int y), (2, .int z)] := hl
  refine lv_iload_n hx hb d_TM_code_0 rfl (lv_at hl 2 rfl) ?_
  refine lv_iconst (v := 0) hx hb d_TM_code_1 (by decide) ?_
  refine lv_iconst (v := 3) hx hb d_TM_code_2 (by decide) ?_
  refine xr_S (As := [.int z, .int 0, .int 3]) (rest := []) ⟨hx, hb, hml, hown, hg⟩ (c_TM_isWithin l D cI cZ cJ z 0 3) m_TM_isWithin q274 ⟨rfl, rfl⟩ ⟨Nat.le_of_ble_eq_true rfl, Nat.le_of_ble_eq_true rfl⟩ hK hP [] rfl rfl hl.1 rfl (Nat.le_of_ble_eq_true rfl) d_TM_code_3 ⟨Nat.zero_le _, Nat.zero_le _⟩ ?_
  refine lv_if_ne (tgt := 17) hx hb d_TM_code_6 rfl (fun hz9 => absurd (hbad) hz9) (fun _ => ?_)
  exact xe_new (names := ["java/lang/RuntimeException", "java/lang/Exception"]) hx hb (hL e hadm) hnone hlocks hml hl.1 hown (hg _ q295) (hg _ q11) (by decide) (by decide) (xt_iae hg hT) d_TM_code_9 d_TM_code_12 d_TM_code_13 d_TM_code_16 (Nat.le_of_ble_eq_true rfl) (Nat.le_of_ble_eq_true rfl) (Nat.le_of_ble_eq_true rfl) (Nat.le_of_ble_eq_true rfl)

set_option maxHeartbeats 4000000 in
set_option maxRecDepth 100000 in
theorem c_TM_code_2 (l : Launch) (hL : xe_L l) (D : va_G) (cI cZ cJ : ClassId) (x0 pL pF t cL cF bA sR sD so soR soC soA ta taR taC taA : Nat) (P F B sr sd Rs Cs As Rt Ct At : Nat → Int32) (n k ks kt : Nat) (hs ds es xs ht dt et : Int32) (y z : Int32) (g1 : ¬ tm_wi z 0 3 = 0) (g2 : tm_hs k y = 0) : xt_Met l y_TM_code b_TM_code 3 (some .int) { frames := 6, cells := 1, slots := 6, locals := 81 } [.ref x0, .int y, .int z] (xtb D cls [(x0, .inr (0, [.ref pL, .ref t, .ref sR, .ref sD, .ref so, .ref ta])), (pL, .inr (1, [.ref pF, .int (nI n)])), (pF, .inl (cI, 96, .inl P)), (t, .inr (2, [.ref pL, .ref cL, .ref bA])), (cL, .inr (1, [.ref cF, .int (nI k)])), (cF, .inl (cI, 868, .inl F)), (bA, .inl (cI, 25, .inl B)), (sR, .inl (cI, 8, .inl sr)), (sD, .inl (cI, 32, .inl sd)), (so, .inr (3, [.ref pL, .ref soR, .ref soC, .ref soA, .int (nI ks), .int hs, .int ds, .int es, .int xs])), (soR, .inl (cI, 8, .inl Rs)), (soC, .inl (cI, 32, .inl Cs)), (soA, .inl (cI, 120, .inl As)), (ta, .inr (4, [.ref cL, .ref taR, .ref taC, .ref taA, .int (nI kt), .int ht, .int dt, .int et, .ref t])), (taR, .inl (cI, 8, .inl Rt)), (taC, .inl (cI, 64, .inl Ct)), (taA, .inl (cI, 120, .inl At))] (tyL cI cZ cJ)) "java/util/NoSuchElementException" := by
  refine xe_ofW (cc := b_TM_code) (maxL := 3) (ret := (some .int)) (by decide) rfl ?_
  intro p e s m args below meth c s₁ B0 hadm hnone hml hv
  obtain ⟨rfl, ⟨hP, hK⟩, hT⟩ := hv
  have hx := B0.exec
  have hb := B0.bytes
  have hr := B0.returns
  have hlocks := B0.notSynchronized
  have hg : ∀ w ∈ gG, w.before _ s = true := fun w h => atoms_spec B0.pre w (List.mem_cons_of_mem _ h)
  have hown : s.vm.findClass R_TM = some m.cls := findClass_of_methodNamed B0.named
  have hP : va_P D cls [(x0, .inr (0, [.ref pL, .ref t, .ref sR, .ref sD, .ref so, .ref ta])), (pL, .inr (1, [.ref pF, .int (nI n)])), (pF, .inl (cI, 96, .inl P)), (t, .inr (2, [.ref pL, .ref cL, .ref bA])), (cL, .inr (1, [.ref cF, .int (nI k)])), (cF, .inl (cI, 868, .inl F)), (bA, .inl (cI, 25, .inl B)), (sR, .inl (cI, 8, .inl sr)), (sD, .inl (cI, 32, .inl sd)), (so, .inr (3, [.ref pL, .ref soR, .ref soC, .ref soA, .int (nI ks), .int hs, .int ds, .int es, .int xs])), (soR, .inl (cI, 8, .inl Rs)), (soC, .inl (cI, 32, .inl Cs)), (soA, .inl (cI, 120, .inl As)), (ta, .inr (4, [.ref cL, .ref taR, .ref taC, .ref taA, .int (nI kt), .int ht, .int dt, .int et, .ref t])), (taR, .inl (cI, 8, .inl Rt)), (taC, .inl (cI, 64, .inl Ct)), (taA, .inl (cI, 120, .inl At))] s.heap := hP
  have hl := lv_entry ([.ref x0, .int y, .int z]) (n := 3) (Nat.le_of_ble_eq_true rfl)
  rw [lg_entry_eq]
  generalize (lg_sl ([.ref x0, .int y, .int z]) ++ List.replicate (3 - (lg_sl ([.ref x0, .int y, .int z])).length) Slot.unset).toArray = ls at hl ⊢
  have hl : lv_has ls 3 [(0, .ref x0), (1, .int y), (2, .int z)] := hl
  refine lv_iload_n hx hb d_TM_code_0 rfl (lv_at hl 2 rfl) ?_
  refine lv_iconst (v := 0) hx hb d_TM_code_1 (by decide) ?_
  refine lv_iconst (v := 3) hx hb d_TM_code_2 (by decide) ?_
  refine xr_S (As := [.int z, .int 0, .int 3]) (rest := []) ⟨hx, hb, hml, hown, hg⟩ (c_TM_isWithin l D cI cZ cJ z 0 3) m_TM_isWithin q274 ⟨rfl, rfl⟩ ⟨Nat.le_of_ble_eq_true rfl, Nat.le_of_ble_eq_true rfl⟩ hK hP [] rfl rfl hl.1 rfl (Nat.le_of_ble_eq_true rfl) d_TM_code_3 ⟨Nat.zero_le _, Nat.zero_le _⟩ ?_
  refine lv_if_ne (tgt := 17) hx hb d_TM_code_6 rfl (fun _ => ?_) (fun hz9 => absurd hz9 (g1))
  refine lv_aload_n hx hb d_TM_code_17 rfl (lv_at hl 0 rfl) ?_
  refine va_get (D := D) (ci := 0) (v := .ref t) (C := R_TM) (T := F_TM) (N := 6) hx hb hg f_TM hown hK.1 hP 0 rfl rfl 1 (by decide) (hg _ q141) (fun _ h9 => h9) rfl d_TM_code_18 ?_
  refine va_get (D := D) (ci := 2) (v := .ref cL) (C := R_Tr) (T := F_Tr) (N := 3) hx hb hg f_Tr hown hK.1 hP 3 rfl rfl 1 (by decide) (hg _ q54) (fun _ h9 => h9) rfl d_TM_code_21 ?_
  refine lv_iload_n hx hb d_TM_code_24 rfl (lv_at hl 1 rfl) ?_
  refine xr_V (C := R_Li) (As := [.int y]) (rest := []) ⟨hx, hb, hml, hown, hg⟩ (c_Li_has l D cI cZ cJ cL cF 868 F k y) m_Li_has q382 q193 ⟨rfl, rfl⟩ ⟨Nat.le_of_ble_eq_true rfl, Nat.le_of_ble_eq_true rfl⟩ hK hP [4, 5] rfl (va_recv (q0 := 4) hK.1 hP rfl rfl) rfl hl.1 rfl (Nat.le_of_ble_eq_true rfl) d_TM_code_25 ⟨Nat.zero_le _, Nat.zero_le _⟩ ?_
  refine lv_if_ne (tgt := 39) hx hb d_TM_code_28 rfl (fun hz9 => absurd (g2) hz9) (fun _ => ?_)
  exact xe_new (names := ["java/lang/RuntimeException", "java/lang/Exception"]) hx hb (hL e hadm) hnone hlocks hml hl.1 hown (hg _ q383) (hg _ q14) (by decide) (by decide) (xt_nse hg hT) d_TM_code_31 d_TM_code_34 d_TM_code_35 d_TM_code_38 (Nat.le_of_ble_eq_true rfl) (Nat.le_of_ble_eq_true rfl) (Nat.le_of_ble_eq_true rfl) (Nat.le_of_ble_eq_true rfl)

set_option maxHeartbeats 4000000 in
set_option maxRecDepth 100000 in
theorem c_TM_begins (l : Launch) (D : va_G) (cI cZ cJ : ClassId) (x0 pL pF t cL cF bA sR sD so soR soC soA ta taR taC taA : Nat) (P F B sr sd Rs Cs As Rt Ct At : Nat → Int32) (n k ks kt : Nat) (hs ds es xs ht dt et : Int32) (q : Nat) (hk : k ≤ 217) (hk0 : 0 < k) (hn : n ≤ 24) (hq : q ≤ n) : xr_Met l y_TM_begins b_TM_begins 2 (some .int) { frames := 1, cells := 0, slots := 0, locals := 22 } [.ref x0, .int (nI q)] (xb D cls [(x0, .inr (0, [.ref pL, .ref t, .ref sR, .ref sD, .ref so, .ref ta])), (pL, .inr (1, [.ref pF, .int (nI n)])), (pF, .inl (cI, 96, .inl P)), (t, .inr (2, [.ref pL, .ref cL, .ref bA])), (cL, .inr (1, [.ref cF, .int (nI k)])), (cF, .inl (cI, 868, .inl F)), (bA, .inl (cI, 25, .inl B)), (sR, .inl (cI, 8, .inl sr)), (sD, .inl (cI, 32, .inl sd)), (so, .inr (3, [.ref pL, .ref soR, .ref soC, .ref soA, .int (nI ks), .int hs, .int ds, .int es, .int xs])), (soR, .inl (cI, 8, .inl Rs)), (soC, .inl (cI, 32, .inl Cs)), (soA, .inl (cI, 120, .inl As)), (ta, .inr (4, [.ref cL, .ref taR, .ref taC, .ref taA, .int (nI kt), .int ht, .int dt, .int et, .ref t])), (taR, .inl (cI, 8, .inl Rt)), (taC, .inl (cI, 64, .inl Ct)), (taA, .inl (cI, 120, .inl At))] (tyL cI cZ cJ)) (B q) := by
  refine Met.ofW (cc := b_TM_begins) (maxL := 2) (ret := (some .int)) (by decide) rfl ?_
  intro p e s m args below meth c s₁ B0 hml hv
  obtain ⟨rfl, hP, hK⟩ := hv
  have hx := B0.exec
  have hb := B0.bytes
  have hr := B0.returns
  have hlocks := B0.notSynchronized
  have hg : ∀ w ∈ gG, w.before _ s = true := fun w h => atoms_spec B0.pre w (List.mem_cons_of_mem _ h)
  have hown : s.vm.findClass R_TM = some m.cls := findClass_of_methodNamed B0.named
  have hP : va_P D cls [(x0, .inr (0, [.ref pL, .ref t, .ref sR, .ref sD, .ref so, .ref ta])), (pL, .inr (1, [.ref pF, .int (nI n)])), (pF, .inl (cI, 96, .inl P)), (t, .inr (2, [.ref pL, .ref cL, .ref bA])), (cL, .inr (1, [.ref cF, .int (nI k)])), (cF, .inl (cI, 868, .inl F)), (bA, .inl (cI, 25, .inl B)), (sR, .inl (cI, 8, .inl sr)), (sD, .inl (cI, 32, .inl sd)), (so, .inr (3, [.ref pL, .ref soR, .ref soC, .ref soA, .int (nI ks), .int hs, .int ds, .int es, .int xs])), (soR, .inl (cI, 8, .inl Rs)), (soC, .inl (cI, 32, .inl Cs)), (soA, .inl (cI, 120, .inl As)), (ta, .inr (4, [.ref cL, .ref taR, .ref taC, .ref taA, .int (nI kt), .int ht, .int dt, .int et, .ref t])), (taR, .inl (cI, 8, .inl Rt)), (taC, .inl (cI, 64, .inl Ct)), (taA, .inl (cI, 120, .inl At))] s.heap := hP
  have hl := lv_entry ([.ref x0, .int (nI q)]) (n := 2) (Nat.le_of_ble_eq_true rfl)
  rw [lg_entry_eq]
  generalize (lg_sl ([.ref x0, .int (nI q)]) ++ List.replicate (2 - (lg_sl ([.ref x0, .int (nI q)])).length) Slot.unset).toArray = ls at hl ⊢
  have hl : lv_has ls 2 [(0, .ref x0), (1, .int (nI q))] := hl
  refine lv_aload_n hx hb d_TM_begins_0 rfl (lv_at hl 0 rfl) ?_
  refine va_get (D := D) (ci := 0) (v := .ref t) (C := R_TM) (T := F_TM) (N := 6) hx hb hg f_TM hown hK.1 hP 0 rfl rfl 1 (by decide) (hg _ q141) (fun _ h9 => h9) rfl d_TM_begins_1 ?_
  refine xr_V (C := R_Tr) (As := []) (rest := []) ⟨hx, hb, hml, hown, hg⟩ (c_Tr_isThere l D cI cZ cJ t pL pF cL cF bA P F B n k) m_Tr_isThere q406 q408 ⟨rfl, rfl⟩ ⟨Nat.le_of_ble_eq_true rfl, Nat.le_of_ble_eq_true rfl⟩ hK hP [3, 1, 2, 4, 5, 6] rfl (va_recv (q0 := 3) hK.1 hP rfl rfl) rfl hl.1 rfl (Nat.le_of_ble_eq_true rfl) d_TM_begins_4 ⟨Nat.zero_le _, Nat.zero_le _⟩ ?_
  refine lv_if_eq (tgt := 25) hx hb d_TM_begins_7 rfl (fun hz9 => absurd hz9 (by rw [if_neg (nI_nle (by omega) (by omega))]; decide)) (fun _ => ?_)
  refine lv_iload_n hx hb d_TM_begins_10 rfl (lv_at hl 1 rfl) ?_
  refine lv_iconst (v := 0) hx hb d_TM_begins_11 (by decide) ?_
  refine lv_aload_n hx hb d_TM_begins_12 rfl (lv_at hl 0 rfl) ?_
  refine va_get (D := D) (ci := 0) (v := .ref pL) (C := R_TM) (T := F_TM) (N := 6) hx hb hg f_TM hown hK.1 hP 0 rfl rfl 0 (by decide) (hg _ q140) (fun _ h9 => h9) rfl d_TM_begins_13 ?_
  refine va_get (D := D) (ci := 1) (v := .int (nI n)) (C := R_Li) (T := F_Li) (N := 2) hx hb hg f_Li hown hK.1 hP 1 rfl rfl 1 (by decide) (hg _ q34) (fun _ h9 => h9) rfl d_TM_begins_16 ?_
  refine xr_S (As := [.int (nI q), .int 0, .int (nI n)]) (rest := []) ⟨hx, hb, hml, hown, hg⟩ (c_TM_isWithin l D cI cZ cJ (nI q) 0 (nI n)) m_TM_isWithin q274 ⟨rfl, rfl⟩ ⟨Nat.le_of_ble_eq_true rfl, Nat.le_of_ble_eq_true rfl⟩ hK hP [] rfl rfl hl.1 rfl (Nat.le_of_ble_eq_true rfl) d_TM_begins_19 ⟨Nat.zero_le _, Nat.zero_le _⟩ ?_
  refine lv_if_ne (tgt := 33) hx hb d_TM_begins_22 rfl (fun _ => ?_) (fun hz9 => absurd hz9 (tm_wi_y (nI_le (a := 0) (b := q) (by omega) (by omega)) (nI_le (a := q) (b := n) (by omega) (by omega))))
  refine lv_aload_n hx hb d_TM_begins_33 rfl (lv_at hl 0 rfl) ?_
  refine va_get (D := D) (ci := 0) (v := .ref t) (C := R_TM) (T := F_TM) (N := 6) hx hb hg f_TM hown hK.1 hP 0 rfl rfl 1 (by decide) (hg _ q141) (fun _ h9 => h9) rfl d_TM_begins_34 ?_
  refine va_get (D := D) (ci := 2) (v := .ref bA) (C := R_Tr) (T := F_Tr) (N := 3) hx hb hg f_Tr hown hK.1 hP 3 rfl rfl 2 (by decide) (hg _ q57) (fun _ h9 => h9) rfl d_TM_begins_37 ?_
  refine lv_iload_n hx hb d_TM_begins_40 rfl (lv_at hl 1 rfl) ?_
  refine xa_ld hx hb hK hP 6 0 rfl rfl (kx := q) (rfl) (by omega) (by decide) d_TM_begins_41 ?_
  exact W.iret (v := B q) hx hb hr (fun t9 ht9 hW9 => ⟨B q, rfl, rfl, ht9⟩) (fun _ h => by cases h) d_TM_begins_42

set_option maxHeartbeats 4000000 in
set_option maxRecDepth 100000 in
theorem c_TM_begins_1 (l : Launch) (hL : xe_L l) (D : va_G) (cI cZ cJ : ClassId) (x0 pL pF t cL cF bA sR sD so soR soC soA ta taR taC taA : Nat) (P F B sr sd Rs Cs As Rt Ct At : Nat → Int32) (n k ks kt : Nat) (hs ds es xs ht dt et : Int32) (y : Int32) (hbad : k = 0 ∨ tm_wi y 0 (nI n) = 0) : xt_Met l y_TM_begins b_TM_begins 2 (some .int) { frames := 6, cells := 1, slots := 6, locals := 81 } [.ref x0, .int y] (xtb D cls [(x0, .inr (0, [.ref pL, .ref t, .ref sR, .ref sD, .ref so, .ref ta])), (pL, .inr (1, [.ref pF, .int (nI n)])), (pF, .inl (cI, 96, .inl P)), (t, .inr (2, [.ref pL, .ref cL, .ref bA])), (cL, .inr (1, [.ref cF, .int (nI k)])), (cF, .inl (cI, 868, .inl F)), (bA, .inl (cI, 25, .inl B)), (sR, .inl (cI, 8, .inl sr)), (sD, .inl (cI, 32, .inl sd)), (so, .inr (3, [.ref pL, .ref soR, .ref soC, .ref soA, .int (nI ks), .int hs, .int ds, .int es, .int xs])), (soR, .inl (cI, 8, .inl Rs)), (soC, .inl (cI, 32, .inl Cs)), (soA, .inl (cI, 120, .inl As)), (ta, .inr (4, [.ref cL, .ref taR, .ref taC, .ref taA, .int (nI kt), .int ht, .int dt, .int et, .ref t])), (taR, .inl (cI, 8, .inl Rt)), (taC, .inl (cI, 64, .inl Ct)), (taA, .inl (cI, 120, .inl At))] (tyL cI cZ cJ)) "java/util/NoSuchElementException" := by
  refine xe_ofW (cc := b_TM_begins) (maxL := 2) (ret := (some .int)) (by decide) rfl ?_
  intro p e s m args below meth c s₁ B0 hadm hnone hml hv
  obtain ⟨rfl, ⟨hP, hK⟩, hT⟩ := hv
  have hx := B0.exec
  have hb := B0.bytes
  have hr := B0.returns
  have hlocks := B0.notSynchronized
  have hg : ∀ w ∈ gG, w.before _ s = true := fun w h => atoms_spec B0.pre w (List.mem_cons_of_mem _ h)
  have hown : s.vm.findClass R_TM = some m.cls := findClass_of_methodNamed B0.named
  have hP : va_P D cls [(x0, .inr (0, [.ref pL, .ref t, .ref sR, .ref sD, .ref so, .ref ta])), (pL, .inr (1, [.ref pF, .int (nI n)])), (pF, .inl (cI, 96, .inl P)), (t, .inr (2, [.ref pL, .ref cL, .ref bA])), (cL, .inr (1, [.ref cF, .int (nI k)])), (cF, .inl (cI, 868, .inl F)), (bA, .inl (cI, 25, .inl B)), (sR, .inl (cI, 8, .inl sr)), (sD, .inl (cI, 32, .inl sd)), (so, .inr (3, [.ref pL, .ref soR, .ref soC, .ref soA, .int (nI ks), .int hs, .int ds, .int es, .int xs])), (soR, .inl (cI, 8, .inl Rs)), (soC, .inl (cI, 32, .inl Cs)), (soA, .inl (cI, 120, .inl As)), (ta, .inr (4, [.ref cL, .ref taR, .ref taC, .ref taA, .int (nI kt), .int ht, .int dt, .int et, .ref t])), (taR, .inl (cI, 8, .inl Rt)), (taC, .inl (cI, 64, .inl Ct)), (taA, .inl (cI, 120, .inl At))] s.heap := hP
  have hl := lv_entry ([.ref x0, .int y]) (n := 2) (Nat.le_of_ble_eq_true rfl)
  rw [lg_entry_eq]
  generalize (lg_sl ([.ref x0, .int y]) ++ List.replicate (2 - (lg_sl ([.ref x0, .int y])).length) Slot.unset).toArray = ls at hl ⊢
  have hl : lv_has ls 2 [(0, .ref x0), (1, .int y)] := hl
  refine lv_aload_n hx hb d_TM_begins_0 rfl (lv_at hl 0 rfl) ?_
  refine va_get (D := D) (ci := 0) (v := .ref t) (C := R_TM) (T := F_TM) (N := 6) hx hb hg f_TM hown hK.1 hP 0 rfl rfl 1 (by decide) (hg _ q141) (fun _ h9 => h9) rfl d_TM_begins_1 ?_
  refine xr_V (C := R_Tr) (As := []) (rest := []) ⟨hx, hb, hml, hown, hg⟩ (c_Tr_isThere l D cI cZ cJ t pL pF cL cF bA P F B n k) m_Tr_isThere q406 q408 ⟨rfl, rfl⟩ ⟨Nat.le_of_ble_eq_true rfl, Nat.le_of_ble_eq_true rfl⟩ hK hP [3, 1, 2, 4, 5, 6] rfl (va_recv (q0 := 3) hK.1 hP rfl rfl) rfl hl.1 rfl (Nat.le_of_ble_eq_true rfl) d_TM_begins_4 ⟨Nat.zero_le _, Nat.zero_le _⟩ ?_
  refine lv_if_eq (tgt := 25) hx hb d_TM_begins_7 rfl (fun g1 => ?_) (fun g1 => ?_)
  · exact xe_new (names := ["java/lang/RuntimeException", "java/lang/Exception"]) hx hb (hL e hadm) hnone hlocks hml hl.1 hown (hg _ q383) (hg _ q14) (by decide) (by decide) (xt_nse hg hT) d_TM_begins_25 d_TM_begins_28 d_TM_begins_29 d_TM_begins_32 (Nat.le_of_ble_eq_true rfl) (Nat.le_of_ble_eq_true rfl) (Nat.le_of_ble_eq_true rfl) (Nat.le_of_ble_eq_true rfl)
  · refine lv_iload_n hx hb d_TM_begins_10 rfl (lv_at hl 1 rfl) ?_
    refine lv_iconst (v := 0) hx hb d_TM_begins_11 (by decide) ?_
    refine lv_aload_n hx hb d_TM_begins_12 rfl (lv_at hl 0 rfl) ?_
    refine va_get (D := D) (ci := 0) (v := .ref pL) (C := R_TM) (T := F_TM) (N := 6) hx hb hg f_TM hown hK.1 hP 0 rfl rfl 0 (by decide) (hg _ q140) (fun _ h9 => h9) rfl d_TM_begins_13 ?_
    refine va_get (D := D) (ci := 1) (v := .int (nI n)) (C := R_Li) (T := F_Li) (N := 2) hx hb hg f_Li hown hK.1 hP 1 rfl rfl 1 (by decide) (hg _ q34) (fun _ h9 => h9) rfl d_TM_begins_16 ?_
    refine xr_S (As := [.int y, .int 0, .int (nI n)]) (rest := []) ⟨hx, hb, hml, hown, hg⟩ (c_TM_isWithin l D cI cZ cJ y 0 (nI n)) m_TM_isWithin q274 ⟨rfl, rfl⟩ ⟨Nat.le_of_ble_eq_true rfl, Nat.le_of_ble_eq_true rfl⟩ hK hP [] rfl rfl hl.1 rfl (Nat.le_of_ble_eq_true rfl) d_TM_begins_19 ⟨Nat.zero_le _, Nat.zero_le _⟩ ?_
    refine lv_if_ne (tgt := 33) hx hb d_TM_begins_22 rfl (fun g2 => ?_) (fun g2 => ?_)
    · exact absurd hbad (not_or.mpr ⟨fun z => g1 (by rw [z]; rfl), g2⟩)
    · exact xe_new (names := ["java/lang/RuntimeException", "java/lang/Exception"]) hx hb (hL e hadm) hnone hlocks hml hl.1 hown (hg _ q383) (hg _ q14) (by decide) (by decide) (xt_nse hg hT) d_TM_begins_25 d_TM_begins_28 d_TM_begins_29 d_TM_begins_32 (Nat.le_of_ble_eq_true rfl) (Nat.le_of_ble_eq_true rfl) (Nat.le_of_ble_eq_true rfl) (Nat.le_of_ble_eq_true rfl)

set_option maxHeartbeats 4000000 in
set_option maxRecDepth 100000 in
theorem c_TM_register (l : Launch) (D : va_G) (cI cZ cJ : ClassId) (x0 pL pF t cL cF bA sR sD so soR soC soA ta taR taC taA : Nat) (P F B sr sd Rs Cs As Rt Ct At : Nat → Int32) (n k ks kt : Nat) (hs ds es xs ht dt et : Int32) (a : Nat) (v : Int32) (ha1 : 1 ≤ a) (ha7 : a ≤ 7) (gv : ¬ tm_wi v (-32768) 32767 = 0) : xw_Met l y_TM_register b_TM_register 3 none { frames := 2, cells := 0, slots := 0, locals := 42 } [.ref x0, .int (nI a), .int v] D cls (tyL cI cZ cJ) [(x0, .inr (0, [.ref pL, .ref t, .ref sR, .ref sD, .ref so, .ref ta])), (pL, .inr (1, [.ref pF, .int (nI n)])), (pF, .inl (cI, 96, .inl P)), (t, .inr (2, [.ref pL, .ref cL, .ref bA])), (cL, .inr (1, [.ref cF, .int (nI k)])), (cF, .inl (cI, 868, .inl F)), (bA, .inl (cI, 25, .inl B)), (sR, .inl (cI, 8, .inl sr)), (sD, .inl (cI, 32, .inl sd)), (so, .inr (3, [.ref pL, .ref soR, .ref soC, .ref soA, .int (nI ks), .int hs, .int ds, .int es, .int xs])), (soR, .inl (cI, 8, .inl Rs)), (soC, .inl (cI, 32, .inl Cs)), (soA, .inl (cI, 120, .inl As)), (ta, .inr (4, [.ref cL, .ref taR, .ref taC, .ref taA, .int (nI kt), .int ht, .int dt, .int et, .ref t])), (taR, .inl (cI, 8, .inl Rt)), (taC, .inl (cI, 64, .inl Ct)), (taA, .inl (cI, 120, .inl At))] [(x0, .inr (0, [.ref pL, .ref t, .ref sR, .ref sD, .ref so, .ref ta])), (pL, .inr (1, [.ref pF, .int (nI n)])), (pF, .inl (cI, 96, .inl P)), (t, .inr (2, [.ref pL, .ref cL, .ref bA])), (cL, .inr (1, [.ref cF, .int (nI k)])), (cF, .inl (cI, 868, .inl F)), (bA, .inl (cI, 25, .inl B)), (sR, .inl (cI, 8, .inl (upd sr a v))), (sD, .inl (cI, 32, .inl sd)), (so, .inr (3, [.ref pL, .ref soR, .ref soC, .ref soA, .int (nI ks), .int hs, .int ds, .int es, .int xs])), (soR, .inl (cI, 8, .inl Rs)), (soC, .inl (cI, 32, .inl Cs)), (soA, .inl (cI, 120, .inl As)), (ta, .inr (4, [.ref cL, .ref taR, .ref taC, .ref taA, .int (nI kt), .int ht, .int dt, .int et, .ref t])), (taR, .inl (cI, 8, .inl Rt)), (taC, .inl (cI, 64, .inl Ct)), (taA, .inl (cI, 120, .inl At))] := by
  intro sz
  refine Met.ofW (cc := b_TM_register) (maxL := 3) (ret := none) (by decide) rfl ?_
  intro p e s m args below meth c s₁ B0 hml hv
  obtain ⟨rfl, hsz, hP, hK, hD0⟩ := hv
  have hx := B0.exec
  have hb := B0.bytes
  have hr := B0.returns
  have hlocks := B0.notSynchronized
  have hg : ∀ w ∈ gG, w.before _ s = true := fun w h => atoms_spec B0.pre w (List.mem_cons_of_mem _ h)
  have hown : s.vm.findClass R_TM = some m.cls := findClass_of_methodNamed B0.named
  subst hsz
  have hD := hD0.self (sz := s.heap.size)
  generalize hAe : va_A [(x0, .inr (0, [.ref pL, .ref t, .ref sR, .ref sD, .ref so, .ref ta])), (pL, .inr (1, [.ref pF, .int (nI n)])), (pF, .inl (cI, 96, .inl P)), (t, .inr (2, [.ref pL, .ref cL, .ref bA])), (cL, .inr (1, [.ref cF, .int (nI k)])), (cF, .inl (cI, 868, .inl F)), (bA, .inl (cI, 25, .inl B)), (sR, .inl (cI, 8, .inl sr)), (sD, .inl (cI, 32, .inl sd)), (so, .inr (3, [.ref pL, .ref soR, .ref soC, .ref soA, .int (nI ks), .int hs, .int ds, .int es, .int xs])), (soR, .inl (cI, 8, .inl Rs)), (soC, .inl (cI, 32, .inl Cs)), (soA, .inl (cI, 120, .inl As)), (ta, .inr (4, [.ref cL, .ref taR, .ref taC, .ref taA, .int (nI kt), .int ht, .int dt, .int et, .ref t])), (taR, .inl (cI, 8, .inl Rt)), (taC, .inl (cI, 64, .inl Ct)), (taA, .inl (cI, 120, .inl At))] s.heap.size = A at hD ⊢
  have hA : ∀ q : Nat, s.heap.size ≤ q → A q := fun q h => by rw [← hAe]; exact Or.inr h
  have hS : va_S A s.heap s.heap [] := va_S.rf
  have hP : va_P D cls [(x0, .inr (0, [.ref pL, .ref t, .ref sR, .ref sD, .ref so, .ref ta])), (pL, .inr (1, [.ref pF, .int (nI n)])), (pF, .inl (cI, 96, .inl P)), (t, .inr (2, [.ref pL, .ref cL, .ref bA])), (cL, .inr (1, [.ref cF, .int (nI k)])), (cF, .inl (cI, 868, .inl F)), (bA, .inl (cI, 25, .inl B)), (sR, .inl (cI, 8, .inl sr)), (sD, .inl (cI, 32, .inl sd)), (so, .inr (3, [.ref pL, .ref soR, .ref soC, .ref soA, .int (nI ks), .int hs, .int ds, .int es, .int xs])), (soR, .inl (cI, 8, .inl Rs)), (soC, .inl (cI, 32, .inl Cs)), (soA, .inl (cI, 120, .inl As)), (ta, .inr (4, [.ref cL, .ref taR, .ref taC, .ref taA, .int (nI kt), .int ht, .int dt, .int et, .ref t])), (taR, .inl (cI, 8, .inl Rt)), (taC, .inl (cI, 64, .inl Ct)), (taA, .inl (cI, 120, .inl At))] s.heap := hP
  have hl := lv_entry ([.ref x0, .int (nI a), .int v]) (n := 3) (Nat.le_of_ble_eq_true rfl)
  rw [lg_entry_eq]
  generalize (lg_sl ([.ref x0, .int (nI a), .int v]) ++ List.replicate (3 - (lg_sl ([.ref x0, .int (nI a), .int v])).length) Slot.unset).toArray = ls at hl ⊢
  have hl : lv_has ls 3 [(0, .ref x0), (1, .int (nI a)), (2, .int v)] := hl
  refine lv_iload_n hx hb d_TM_register_0 rfl (lv_at hl 1 rfl) ?_
  refine lv_iconst (v := 1) hx hb d_TM_register_1 (by decide) ?_
  refine lv_bipush (v := 7) hx hb d_TM_register_2 (by decide) ?_
  refine xr_S (As := [.int (nI a), .int 1, .int 7]) (rest := []) ⟨hx, hb, hml, hown, hg⟩ (c_TM_isWithin l D cI cZ cJ (nI a) 1 7) m_TM_isWithin q274 ⟨rfl, rfl⟩ ⟨Nat.le_of_ble_eq_true rfl, Nat.le_of_ble_eq_true rfl⟩ hK hP [] rfl rfl hl.1 rfl (Nat.le_of_ble_eq_true rfl) d_TM_register_4 ⟨Nat.zero_le _, Nat.zero_le _⟩ ?_
  refine lv_if_eq (tgt := 17) hx hb d_TM_register_7 rfl (fun hz9 => absurd hz9 (tm_wi_y (nI_le (a := 1) (b := a) (by omega) (by omega)) (nI_le (a := a) (b := 7) (by omega) (by omega)))) (fun _ => ?_)
  refine lv_iload_n hx hb d_TM_register_10 rfl (lv_at hl 2 rfl) ?_
  refine xr_S (As := [.int v]) (rest := []) ⟨hx, hb, hml, hown, hg⟩ (c_TM_isNumber l D cI cZ cJ v) m_TM_isNumber q417 ⟨rfl, rfl⟩ ⟨Nat.le_of_ble_eq_true rfl, Nat.le_of_ble_eq_true rfl⟩ hK hP [] rfl rfl hl.1 rfl (Nat.le_of_ble_eq_true rfl) d_TM_register_11 ⟨Nat.zero_le _, Nat.zero_le _⟩ ?_
  refine lv_if_ne (tgt := 25) hx hb d_TM_register_14 rfl (fun _ => ?_) (fun hz9 => absurd hz9 (gv))
  refine lv_aload_n hx hb d_TM_register_25 rfl (lv_at hl 0 rfl) ?_
  refine va_get (D := D) (ci := 0) (v := .ref sR) (C := R_TM) (T := F_TM) (N := 6) hx hb hg f_TM hown hK.1 hP 0 rfl rfl 2 (by decide) (hg _ q142) (fun _ h9 => h9) rfl d_TM_register_26 ?_
  refine lv_iload_n hx hb d_TM_register_29 rfl (lv_at hl 1 rfl) ?_
  refine lv_iload_n hx hb d_TM_register_30 rfl (lv_at hl 2 rfl) ?_
  refine xa_st hx hb hK hP hD hS 7 0 rfl rfl (kx := a) (rfl) (by omega) (by decide) d_TM_register_31 (fun H locs hP hD hS => ?_)
  have hP : va_P D cls [(x0, .inr (0, [.ref pL, .ref t, .ref sR, .ref sD, .ref so, .ref ta])), (pL, .inr (1, [.ref pF, .int (nI n)])), (pF, .inl (cI, 96, .inl P)), (t, .inr (2, [.ref pL, .ref cL, .ref bA])), (cL, .inr (1, [.ref cF, .int (nI k)])), (cF, .inl (cI, 868, .inl F)), (bA, .inl (cI, 25, .inl B)), (sR, .inl (cI, 8, .inl (upd sr a v))), (sD, .inl (cI, 32, .inl sd)), (so, .inr (3, [.ref pL, .ref soR, .ref soC, .ref soA, .int (nI ks), .int hs, .int ds, .int es, .int xs])), (soR, .inl (cI, 8, .inl Rs)), (soC, .inl (cI, 32, .inl Cs)), (soA, .inl (cI, 120, .inl As)), (ta, .inr (4, [.ref cL, .ref taR, .ref taC, .ref taA, .int (nI kt), .int ht, .int dt, .int et, .ref t])), (taR, .inl (cI, 8, .inl Rt)), (taC, .inl (cI, 64, .inl Ct)), (taA, .inl (cI, 120, .inl At))] H := hP
  have hD : va_D A [(x0, .inr (0, [.ref pL, .ref t, .ref sR, .ref sD, .ref so, .ref ta])), (pL, .inr (1, [.ref pF, .int (nI n)])), (pF, .inl (cI, 96, .inl P)), (t, .inr (2, [.ref pL, .ref cL, .ref bA])), (cL, .inr (1, [.ref cF, .int (nI k)])), (cF, .inl (cI, 868, .inl F)), (bA, .inl (cI, 25, .inl B)), (sR, .inl (cI, 8, .inl (upd sr a v))), (sD, .inl (cI, 32, .inl sd)), (so, .inr (3, [.ref pL, .ref soR, .ref soC, .ref soA, .int (nI ks), .int hs, .int ds, .int es, .int xs])), (soR, .inl (cI, 8, .inl Rs)), (soC, .inl (cI, 32, .inl Cs)), (soA, .inl (cI, 120, .inl As)), (ta, .inr (4, [.ref cL, .ref taR, .ref taC, .ref taA, .int (nI kt), .int ht, .int dt, .int et, .ref t])), (taR, .inl (cI, 8, .inl Rt)), (taC, .inl (cI, 64, .inl Ct)), (taA, .inl (cI, 120, .inl At))] := hD
  have hP : va_P D cls [(x0, .inr (0, [.ref pL, .ref t, .ref sR, .ref sD, .ref so, .ref ta])), (pL, .inr (1, [.ref pF, .int (nI n)])), (pF, .inl (cI, 96, .inl P)), (t, .inr (2, [.ref pL, .ref cL, .ref bA])), (cL, .inr (1, [.ref cF, .int (nI k)])), (cF, .inl (cI, 868, .inl F)), (bA, .inl (cI, 25, .inl B)), (sR, .inl (cI, 8, .inl (upd sr a v))), (sD, .inl (cI, 32, .inl sd)), (so, .inr (3, [.ref pL, .ref soR, .ref soC, .ref soA, .int (nI ks), .int hs, .int ds, .int es, .int xs])), (soR, .inl (cI, 8, .inl Rs)), (soC, .inl (cI, 32, .inl Cs)), (soA, .inl (cI, 120, .inl As)), (ta, .inr (4, [.ref cL, .ref taR, .ref taC, .ref taA, .int (nI kt), .int ht, .int dt, .int et, .ref t])), (taR, .inl (cI, 8, .inl Rt)), (taC, .inl (cI, 64, .inl Ct)), (taA, .inl (cI, 120, .inl At))] H := by exact hP
  have hD : va_D A [(x0, .inr (0, [.ref pL, .ref t, .ref sR, .ref sD, .ref so, .ref ta])), (pL, .inr (1, [.ref pF, .int (nI n)])), (pF, .inl (cI, 96, .inl P)), (t, .inr (2, [.ref pL, .ref cL, .ref bA])), (cL, .inr (1, [.ref cF, .int (nI k)])), (cF, .inl (cI, 868, .inl F)), (bA, .inl (cI, 25, .inl B)), (sR, .inl (cI, 8, .inl (upd sr a v))), (sD, .inl (cI, 32, .inl sd)), (so, .inr (3, [.ref pL, .ref soR, .ref soC, .ref soA, .int (nI ks), .int hs, .int ds, .int es, .int xs])), (soR, .inl (cI, 8, .inl Rs)), (soC, .inl (cI, 32, .inl Cs)), (soA, .inl (cI, 120, .inl As)), (ta, .inr (4, [.ref cL, .ref taR, .ref taC, .ref taA, .int (nI kt), .int ht, .int dt, .int et, .ref t])), (taR, .inl (cI, 8, .inl Rt)), (taC, .inl (cI, 64, .inl Ct)), (taA, .inl (cI, 120, .inl At))] := by exact hD
  exact W.vret hx hb hr (fun t9 ht9 hW9 => ⟨⟨(), rfl, trivial, by rw [ht9]; exact hP, hD⟩, hS.F ht9⟩) hS.2.2 d_TM_register_32

set_option maxHeartbeats 4000000 in
set_option maxRecDepth 100000 in
theorem c_TM_data (l : Launch) (D : va_G) (cI cZ cJ : ClassId) (x0 pL pF t cL cF bA sR sD so soR soC soA ta taR taC taA : Nat) (P F B sr sd Rs Cs As Rt Ct At : Nat → Int32) (n k ks kt : Nat) (hs ds es xs ht dt et : Int32) (a : Nat) (v : Int32) (ha : a < 32) (gv : ¬ tm_wi v (-32768) 32767 = 0) : xw_Met l y_TM_data b_TM_data 3 none { frames := 2, cells := 0, slots := 0, locals := 42 } [.ref x0, .int (nI a), .int v] D cls (tyL cI cZ cJ) [(x0, .inr (0, [.ref pL, .ref t, .ref sR, .ref sD, .ref so, .ref ta])), (pL, .inr (1, [.ref pF, .int (nI n)])), (pF, .inl (cI, 96, .inl P)), (t, .inr (2, [.ref pL, .ref cL, .ref bA])), (cL, .inr (1, [.ref cF, .int (nI k)])), (cF, .inl (cI, 868, .inl F)), (bA, .inl (cI, 25, .inl B)), (sR, .inl (cI, 8, .inl sr)), (sD, .inl (cI, 32, .inl sd)), (so, .inr (3, [.ref pL, .ref soR, .ref soC, .ref soA, .int (nI ks), .int hs, .int ds, .int es, .int xs])), (soR, .inl (cI, 8, .inl Rs)), (soC, .inl (cI, 32, .inl Cs)), (soA, .inl (cI, 120, .inl As)), (ta, .inr (4, [.ref cL, .ref taR, .ref taC, .ref taA, .int (nI kt), .int ht, .int dt, .int et, .ref t])), (taR, .inl (cI, 8, .inl Rt)), (taC, .inl (cI, 64, .inl Ct)), (taA, .inl (cI, 120, .inl At))] [(x0, .inr (0, [.ref pL, .ref t, .ref sR, .ref sD, .ref so, .ref ta])), (pL, .inr (1, [.ref pF, .int (nI n)])), (pF, .inl (cI, 96, .inl P)), (t, .inr (2, [.ref pL, .ref cL, .ref bA])), (cL, .inr (1, [.ref cF, .int (nI k)])), (cF, .inl (cI, 868, .inl F)), (bA, .inl (cI, 25, .inl B)), (sR, .inl (cI, 8, .inl sr)), (sD, .inl (cI, 32, .inl (upd sd a v))), (so, .inr (3, [.ref pL, .ref soR, .ref soC, .ref soA, .int (nI ks), .int hs, .int ds, .int es, .int xs])), (soR, .inl (cI, 8, .inl Rs)), (soC, .inl (cI, 32, .inl Cs)), (soA, .inl (cI, 120, .inl As)), (ta, .inr (4, [.ref cL, .ref taR, .ref taC, .ref taA, .int (nI kt), .int ht, .int dt, .int et, .ref t])), (taR, .inl (cI, 8, .inl Rt)), (taC, .inl (cI, 64, .inl Ct)), (taA, .inl (cI, 120, .inl At))] := by
  intro sz
  refine Met.ofW (cc := b_TM_data) (maxL := 3) (ret := none) (by decide) rfl ?_
  intro p e s m args below meth c s₁ B0 hml hv
  obtain ⟨rfl, hsz, hP, hK, hD0⟩ := hv
  have hx := B0.exec
  have hb := B0.bytes
  have hr := B0.returns
  have hlocks := B0.notSynchronized
  have hg : ∀ w ∈ gG, w.before _ s = true := fun w h => atoms_spec B0.pre w (List.mem_cons_of_mem _ h)
  have hown : s.vm.findClass R_TM = some m.cls := findClass_of_methodNamed B0.named
  subst hsz
  have hD := hD0.self (sz := s.heap.size)
  generalize hAe : va_A [(x0, .inr (0, [.ref pL, .ref t, .ref sR, .ref sD, .ref so, .ref ta])), (pL, .inr (1, [.ref pF, .int (nI n)])), (pF, .inl (cI, 96, .inl P)), (t, .inr (2, [.ref pL, .ref cL, .ref bA])), (cL, .inr (1, [.ref cF, .int (nI k)])), (cF, .inl (cI, 868, .inl F)), (bA, .inl (cI, 25, .inl B)), (sR, .inl (cI, 8, .inl sr)), (sD, .inl (cI, 32, .inl sd)), (so, .inr (3, [.ref pL, .ref soR, .ref soC, .ref soA, .int (nI ks), .int hs, .int ds, .int es, .int xs])), (soR, .inl (cI, 8, .inl Rs)), (soC, .inl (cI, 32, .inl Cs)), (soA, .inl (cI, 120, .inl As)), (ta, .inr (4, [.ref cL, .ref taR, .ref taC, .ref taA, .int (nI kt), .int ht, .int dt, .int et, .ref t])), (taR, .inl (cI, 8, .inl Rt)), (taC, .inl (cI, 64, .inl Ct)), (taA, .inl (cI, 120, .inl At))] s.heap.size = A at hD ⊢
  have hA : ∀ q : Nat, s.heap.size ≤ q → A q := fun q h => by rw [← hAe]; exact Or.inr h
  have hS : va_S A s.heap s.heap [] := va_S.rf
  have hP : va_P D cls [(x0, .inr (0, [.ref pL, .ref t, .ref sR, .ref sD, .ref so, .ref ta])), (pL, .inr (1, [.ref pF, .int (nI n)])), (pF, .inl (cI, 96, .inl P)), (t, .inr (2, [.ref pL, .ref cL, .ref bA])), (cL, .inr (1, [.ref cF, .int (nI k)])), (cF, .inl (cI, 868, .inl F)), (bA, .inl (cI, 25, .inl B)), (sR, .inl (cI, 8, .inl sr)), (sD, .inl (cI, 32, .inl sd)), (so, .inr (3, [.ref pL, .ref soR, .ref soC, .ref soA, .int (nI ks), .int hs, .int ds, .int es, .int xs])), (soR, .inl (cI, 8, .inl Rs)), (soC, .inl (cI, 32, .inl Cs)), (soA, .inl (cI, 120, .inl As)), (ta, .inr (4, [.ref cL, .ref taR, .ref taC, .ref taA, .int (nI kt), .int ht, .int dt, .int et, .ref t])), (taR, .inl (cI, 8, .inl Rt)), (taC, .inl (cI, 64, .inl Ct)), (taA, .inl (cI, 120, .inl At))] s.heap := hP
  have hl := lv_entry ([.ref x0, .int (nI a), .int v]) (n := 3) (Nat.le_of_ble_eq_true rfl)
  rw [lg_entry_eq]
  generalize (lg_sl ([.ref x0, .int (nI a), .int v]) ++ List.replicate (3 - (lg_sl ([.ref x0, .int (nI a), .int v])).length) Slot.unset).toArray = ls at hl ⊢
  have hl : lv_has ls 3 [(0, .ref x0), (1, .int (nI a)), (2, .int v)] := hl
  refine lv_iload_n hx hb d_TM_data_0 rfl (lv_at hl 1 rfl) ?_
  refine xr_S (As := [.int (nI a)]) (rest := []) ⟨hx, hb, hml, hown, hg⟩ (c_TM_isDataCell l D cI cZ cJ (nI a)) m_TM_isDataCell q427 ⟨rfl, rfl⟩ ⟨Nat.le_of_ble_eq_true rfl, Nat.le_of_ble_eq_true rfl⟩ hK hP [] rfl rfl hl.1 rfl (Nat.le_of_ble_eq_true rfl) d_TM_data_1 ⟨Nat.zero_le _, Nat.zero_le _⟩ ?_
  refine lv_if_eq (tgt := 14) hx hb d_TM_data_4 rfl (fun hz9 => absurd hz9 (tm_wi_y (nI_le (a := 0) (b := a) (by omega) (by omega)) (nI_le (a := a) (b := 31) (by omega) (by omega)))) (fun _ => ?_)
  refine lv_iload_n hx hb d_TM_data_7 rfl (lv_at hl 2 rfl) ?_
  refine xr_S (As := [.int v]) (rest := []) ⟨hx, hb, hml, hown, hg⟩ (c_TM_isNumber l D cI cZ cJ v) m_TM_isNumber q417 ⟨rfl, rfl⟩ ⟨Nat.le_of_ble_eq_true rfl, Nat.le_of_ble_eq_true rfl⟩ hK hP [] rfl rfl hl.1 rfl (Nat.le_of_ble_eq_true rfl) d_TM_data_8 ⟨Nat.zero_le _, Nat.zero_le _⟩ ?_
  refine lv_if_ne (tgt := 22) hx hb d_TM_data_11 rfl (fun _ => ?_) (fun hz9 => absurd hz9 (gv))
  refine lv_aload_n hx hb d_TM_data_22 rfl (lv_at hl 0 rfl) ?_
  refine va_get (D := D) (ci := 0) (v := .ref sD) (C := R_TM) (T := F_TM) (N := 6) hx hb hg f_TM hown hK.1 hP 0 rfl rfl 3 (by decide) (hg _ q143) (fun _ h9 => h9) rfl d_TM_data_23 ?_
  refine lv_iload_n hx hb d_TM_data_26 rfl (lv_at hl 1 rfl) ?_
  refine lv_iload_n hx hb d_TM_data_27 rfl (lv_at hl 2 rfl) ?_
  refine xa_st hx hb hK hP hD hS 8 0 rfl rfl (kx := a) (rfl) (by omega) (by decide) d_TM_data_28 (fun H locs hP hD hS => ?_)
  have hP : va_P D cls [(x0, .inr (0, [.ref pL, .ref t, .ref sR, .ref sD, .ref so, .ref ta])), (pL, .inr (1, [.ref pF, .int (nI n)])), (pF, .inl (cI, 96, .inl P)), (t, .inr (2, [.ref pL, .ref cL, .ref bA])), (cL, .inr (1, [.ref cF, .int (nI k)])), (cF, .inl (cI, 868, .inl F)), (bA, .inl (cI, 25, .inl B)), (sR, .inl (cI, 8, .inl sr)), (sD, .inl (cI, 32, .inl (upd sd a v))), (so, .inr (3, [.ref pL, .ref soR, .ref soC, .ref soA, .int (nI ks), .int hs, .int ds, .int es, .int xs])), (soR, .inl (cI, 8, .inl Rs)), (soC, .inl (cI, 32, .inl Cs)), (soA, .inl (cI, 120, .inl As)), (ta, .inr (4, [.ref cL, .ref taR, .ref taC, .ref taA, .int (nI kt), .int ht, .int dt, .int et, .ref t])), (taR, .inl (cI, 8, .inl Rt)), (taC, .inl (cI, 64, .inl Ct)), (taA, .inl (cI, 120, .inl At))] H := hP
  have hD : va_D A [(x0, .inr (0, [.ref pL, .ref t, .ref sR, .ref sD, .ref so, .ref ta])), (pL, .inr (1, [.ref pF, .int (nI n)])), (pF, .inl (cI, 96, .inl P)), (t, .inr (2, [.ref pL, .ref cL, .ref bA])), (cL, .inr (1, [.ref cF, .int (nI k)])), (cF, .inl (cI, 868, .inl F)), (bA, .inl (cI, 25, .inl B)), (sR, .inl (cI, 8, .inl sr)), (sD, .inl (cI, 32, .inl (upd sd a v))), (so, .inr (3, [.ref pL, .ref soR, .ref soC, .ref soA, .int (nI ks), .int hs, .int ds, .int es, .int xs])), (soR, .inl (cI, 8, .inl Rs)), (soC, .inl (cI, 32, .inl Cs)), (soA, .inl (cI, 120, .inl As)), (ta, .inr (4, [.ref cL, .ref taR, .ref taC, .ref taA, .int (nI kt), .int ht, .int dt, .int et, .ref t])), (taR, .inl (cI, 8, .inl Rt)), (taC, .inl (cI, 64, .inl Ct)), (taA, .inl (cI, 120, .inl At))] := hD
  have hP : va_P D cls [(x0, .inr (0, [.ref pL, .ref t, .ref sR, .ref sD, .ref so, .ref ta])), (pL, .inr (1, [.ref pF, .int (nI n)])), (pF, .inl (cI, 96, .inl P)), (t, .inr (2, [.ref pL, .ref cL, .ref bA])), (cL, .inr (1, [.ref cF, .int (nI k)])), (cF, .inl (cI, 868, .inl F)), (bA, .inl (cI, 25, .inl B)), (sR, .inl (cI, 8, .inl sr)), (sD, .inl (cI, 32, .inl (upd sd a v))), (so, .inr (3, [.ref pL, .ref soR, .ref soC, .ref soA, .int (nI ks), .int hs, .int ds, .int es, .int xs])), (soR, .inl (cI, 8, .inl Rs)), (soC, .inl (cI, 32, .inl Cs)), (soA, .inl (cI, 120, .inl As)), (ta, .inr (4, [.ref cL, .ref taR, .ref taC, .ref taA, .int (nI kt), .int ht, .int dt, .int et, .ref t])), (taR, .inl (cI, 8, .inl Rt)), (taC, .inl (cI, 64, .inl Ct)), (taA, .inl (cI, 120, .inl At))] H := by exact hP
  have hD : va_D A [(x0, .inr (0, [.ref pL, .ref t, .ref sR, .ref sD, .ref so, .ref ta])), (pL, .inr (1, [.ref pF, .int (nI n)])), (pF, .inl (cI, 96, .inl P)), (t, .inr (2, [.ref pL, .ref cL, .ref bA])), (cL, .inr (1, [.ref cF, .int (nI k)])), (cF, .inl (cI, 868, .inl F)), (bA, .inl (cI, 25, .inl B)), (sR, .inl (cI, 8, .inl sr)), (sD, .inl (cI, 32, .inl (upd sd a v))), (so, .inr (3, [.ref pL, .ref soR, .ref soC, .ref soA, .int (nI ks), .int hs, .int ds, .int es, .int xs])), (soR, .inl (cI, 8, .inl Rs)), (soC, .inl (cI, 32, .inl Cs)), (soA, .inl (cI, 120, .inl As)), (ta, .inr (4, [.ref cL, .ref taR, .ref taC, .ref taA, .int (nI kt), .int ht, .int dt, .int et, .ref t])), (taR, .inl (cI, 8, .inl Rt)), (taC, .inl (cI, 64, .inl Ct)), (taA, .inl (cI, 120, .inl At))] := by exact hD
  exact W.vret hx hb hr (fun t9 ht9 hW9 => ⟨⟨(), rfl, trivial, by rw [ht9]; exact hP, hD⟩, hS.F ht9⟩) hS.2.2 d_TM_data_29

set_option maxHeartbeats 4000000 in
set_option maxRecDepth 100000 in
theorem c_TM_register_1 (l : Launch) (hL : xe_L l) (D : va_G) (cI cZ cJ : ClassId) (x0 pL pF t cL cF bA sR sD so soR soC soA ta taR taC taA : Nat) (P F B sr sd Rs Cs As Rt Ct At : Nat → Int32) (n k ks kt : Nat) (hs ds es xs ht dt et : Int32) (y z : Int32) (hbad : tm_wi y 1 7 = 0 ∨ tm_wi z (-32768) 32767 = 0) : xt_Met l y_TM_register b_TM_register 3 none { frames := 6, cells := 1, slots := 6, locals := 81 } [.ref x0, .int y, .int z] (xtb D cls [(x0, .inr (0, [.ref pL, .ref t, .ref sR, .ref sD, .ref so, .ref ta])), (pL, .inr (1, [.ref pF, .int (nI n)])), (pF, .inl (cI, 96, .inl P)), (t, .inr (2, [.ref pL, .ref cL, .ref bA])), (cL, .inr (1, [.ref cF, .int (nI k)])), (cF, .inl (cI, 868, .inl F)), (bA, .inl (cI, 25, .inl B)), (sR, .inl (cI, 8, .inl sr)), (sD, .inl (cI, 32, .inl sd)), (so, .inr (3, [.ref pL, .ref soR, .ref soC, .ref soA, .int (nI ks), .int hs, .int ds, .int es, .int xs])), (soR, .inl (cI, 8, .inl Rs)), (soC, .inl (cI, 32, .inl Cs)), (soA, .inl (cI, 120, .inl As)), (ta, .inr (4, [.ref cL, .ref taR, .ref taC, .ref taA, .int (nI kt), .int ht, .int dt, .int et, .ref t])), (taR, .inl (cI, 8, .inl Rt)), (taC, .inl (cI, 64, .inl Ct)), (taA, .inl (cI, 120, .inl At))] (tyL cI cZ cJ)) "java/lang/IllegalArgumentException" := by
  refine xe_ofW (cc := b_TM_register) (maxL := 3) (ret := none) (by decide) rfl ?_
  intro p e s m args below meth c s₁ B0 hadm hnone hml hv
  obtain ⟨rfl, ⟨hP, hK⟩, hT⟩ := hv
  have hx := B0.exec
  have hb := B0.bytes
  have hr := B0.returns
  have hlocks := B0.notSynchronized
  have hg : ∀ w ∈ gG, w.before _ s = true := fun w h => atoms_spec B0.pre w (List.mem_cons_of_mem _ h)
  have hown : s.vm.findClass R_TM = some m.cls := findClass_of_methodNamed B0.named
  have hP : va_P D cls [(x0, .inr (0, [.ref pL, .ref t, .ref sR, .ref sD, .ref so, .ref ta])), (pL, .inr (1, [.ref pF, .int (nI n)])), (pF, .inl (cI, 96, .inl P)), (t, .inr (2, [.ref pL, .ref cL, .ref bA])), (cL, .inr (1, [.ref cF, .int (nI k)])), (cF, .inl (cI, 868, .inl F)), (bA, .inl (cI, 25, .inl B)), (sR, .inl (cI, 8, .inl sr)), (sD, .inl (cI, 32, .inl sd)), (so, .inr (3, [.ref pL, .ref soR, .ref soC, .ref soA, .int (nI ks), .int hs, .int ds, .int es, .int xs])), (soR, .inl (cI, 8, .inl Rs)), (soC, .inl (cI, 32, .inl Cs)), (soA, .inl (cI, 120, .inl As)), (ta, .inr (4, [.ref cL, .ref taR, .ref taC, .ref taA, .int (nI kt), .int ht, .int dt, .int et, .ref t])), (taR, .inl (cI, 8, .inl Rt)), (taC, .inl (cI, 64, .inl Ct)), (taA, .inl (cI, 120, .inl At))] s.heap := hP
  have hl := lv_entry ([.ref x0, .int y, .int z]) (n := 3) (Nat.le_of_ble_eq_true rfl)
  rw [lg_entry_eq]
  generalize (lg_sl ([.ref x0, .int y, .int z]) ++ List.replicate (3 - (lg_sl ([.ref x0, .int y, .int z])).length) Slot.unset).toArray = ls at hl ⊢
  have hl : lv_has ls 3 [(0, .ref x0), (1, .int y), (2, .int z)] := hl
  refine lv_iload_n hx hb d_TM_register_0 rfl (lv_at hl 1 rfl) ?_
  refine lv_iconst (v := 1) hx hb d_TM_register_1 (by decide) ?_
  refine lv_bipush (v := 7) hx hb d_TM_register_2 (by decide) ?_
  refine xr_S (As := [.int y, .int 1, .int 7]) (rest := []) ⟨hx, hb, hml, hown, hg⟩ (c_TM_isWithin l D cI cZ cJ y 1 7) m_TM_isWithin q274 ⟨rfl, rfl⟩ ⟨Nat.le_of_ble_eq_true rfl, Nat.le_of_ble_eq_true rfl⟩ hK hP [] rfl rfl hl.1 rfl (Nat.le_of_ble_eq_true rfl) d_TM_register_4 ⟨Nat.zero_le _, Nat.zero_le _⟩ ?_
  refine lv_if_eq (tgt := 17) hx hb d_TM_register_7 rfl (fun g1 => ?_) (fun g1 => ?_)
  · exact xe_new (names := ["java/lang/RuntimeException", "java/lang/Exception"]) hx hb (hL e hadm) hnone hlocks hml hl.1 hown (hg _ q295) (hg _ q11) (by decide) (by decide) (xt_iae hg hT) d_TM_register_17 d_TM_register_20 d_TM_register_21 d_TM_register_24 (Nat.le_of_ble_eq_true rfl) (Nat.le_of_ble_eq_true rfl) (Nat.le_of_ble_eq_true rfl) (Nat.le_of_ble_eq_true rfl)
  · refine lv_iload_n hx hb d_TM_register_10 rfl (lv_at hl 2 rfl) ?_
    refine xr_S (As := [.int z]) (rest := []) ⟨hx, hb, hml, hown, hg⟩ (c_TM_isNumber l D cI cZ cJ z) m_TM_isNumber q417 ⟨rfl, rfl⟩ ⟨Nat.le_of_ble_eq_true rfl, Nat.le_of_ble_eq_true rfl⟩ hK hP [] rfl rfl hl.1 rfl (Nat.le_of_ble_eq_true rfl) d_TM_register_11 ⟨Nat.zero_le _, Nat.zero_le _⟩ ?_
    refine lv_if_ne (tgt := 25) hx hb d_TM_register_14 rfl (fun g2 => ?_) (fun g2 => ?_)
    · exact absurd hbad (not_or.mpr ⟨g1, g2⟩)
    · exact xe_new (names := ["java/lang/RuntimeException", "java/lang/Exception"]) hx hb (hL e hadm) hnone hlocks hml hl.1 hown (hg _ q295) (hg _ q11) (by decide) (by decide) (xt_iae hg hT) d_TM_register_17 d_TM_register_20 d_TM_register_21 d_TM_register_24 (Nat.le_of_ble_eq_true rfl) (Nat.le_of_ble_eq_true rfl) (Nat.le_of_ble_eq_true rfl) (Nat.le_of_ble_eq_true rfl)

set_option maxHeartbeats 4000000 in
set_option maxRecDepth 100000 in
theorem c_TM_data_1 (l : Launch) (hL : xe_L l) (D : va_G) (cI cZ cJ : ClassId) (x0 pL pF t cL cF bA sR sD so soR soC soA ta taR taC taA : Nat) (P F B sr sd Rs Cs As Rt Ct At : Nat → Int32) (n k ks kt : Nat) (hs ds es xs ht dt et : Int32) (y z : Int32) (hbad : tm_wi y 0 31 = 0 ∨ tm_wi z (-32768) 32767 = 0) : xt_Met l y_TM_data b_TM_data 3 none { frames := 6, cells := 1, slots := 6, locals := 81 } [.ref x0, .int y, .int z] (xtb D cls [(x0, .inr (0, [.ref pL, .ref t, .ref sR, .ref sD, .ref so, .ref ta])), (pL, .inr (1, [.ref pF, .int (nI n)])), (pF, .inl (cI, 96, .inl P)), (t, .inr (2, [.ref pL, .ref cL, .ref bA])), (cL, .inr (1, [.ref cF, .int (nI k)])), (cF, .inl (cI, 868, .inl F)), (bA, .inl (cI, 25, .inl B)), (sR, .inl (cI, 8, .inl sr)), (sD, .inl (cI, 32, .inl sd)), (so, .inr (3, [.ref pL, .ref soR, .ref soC, .ref soA, .int (nI ks), .int hs, .int ds, .int es, .int xs])), (soR, .inl (cI, 8, .inl Rs)), (soC, .inl (cI, 32, .inl Cs)), (soA, .inl (cI, 120, .inl As)), (ta, .inr (4, [.ref cL, .ref taR, .ref taC, .ref taA, .int (nI kt), .int ht, .int dt, .int et, .ref t])), (taR, .inl (cI, 8, .inl Rt)), (taC, .inl (cI, 64, .inl Ct)), (taA, .inl (cI, 120, .inl At))] (tyL cI cZ cJ)) "java/lang/IllegalArgumentException" := by
  refine xe_ofW (cc := b_TM_data) (maxL := 3) (ret := none) (by decide) rfl ?_
  intro p e s m args below meth c s₁ B0 hadm hnone hml hv
  obtain ⟨rfl, ⟨hP, hK⟩, hT⟩ := hv
  have hx := B0.exec
  have hb := B0.bytes
  have hr := B0.returns
  have hlocks := B0.notSynchronized
  have hg : ∀ w ∈ gG, w.before _ s = true := fun w h => atoms_spec B0.pre w (List.mem_cons_of_mem _ h)
  have hown : s.vm.findClass R_TM = some m.cls := findClass_of_methodNamed B0.named
  have hP : va_P D cls [(x0, .inr (0, [.ref pL, .ref t, .ref sR, .ref sD, .ref so, .ref ta])), (pL, .inr (1, [.ref pF, .int (nI n)])), (pF, .inl (cI, 96, .inl P)), (t, .inr (2, [.ref pL, .ref cL, .ref bA])), (cL, .inr (1, [.ref cF, .int (nI k)])), (cF, .inl (cI, 868, .inl F)), (bA, .inl (cI, 25, .inl B)), (sR, .inl (cI, 8, .inl sr)), (sD, .inl (cI, 32, .inl sd)), (so, .inr (3, [.ref pL, .ref soR, .ref soC, .ref soA, .int (nI ks), .int hs, .int ds, .int es, .int xs])), (soR, .inl (cI, 8, .inl Rs)), (soC, .inl (cI, 32, .inl Cs)), (soA, .inl (cI, 120, .inl As)), (ta, .inr (4, [.ref cL, .ref taR, .ref taC, .ref taA, .int (nI kt), .int ht, .int dt, .int et, .ref t])), (taR, .inl (cI, 8, .inl Rt)), (taC, .inl (cI, 64, .inl Ct)), (taA, .inl (cI, 120, .inl At))] s.heap := hP
  have hl := lv_entry ([.ref x0, .int y, .int z]) (n := 3) (Nat.le_of_ble_eq_true rfl)
  rw [lg_entry_eq]
  generalize (lg_sl ([.ref x0, .int y, .int z]) ++ List.replicate (3 - (lg_sl ([.ref x0, .int y, .int z])).length) Slot.unset).toArray = ls at hl ⊢
  have hl : lv_has ls 3 [(0, .ref x0), (1, .int y), (2, .int z)] := hl
  refine lv_iload_n hx hb d_TM_data_0 rfl (lv_at hl 1 rfl) ?_
  refine xr_S (As := [.int y]) (rest := []) ⟨hx, hb, hml, hown, hg⟩ (c_TM_isDataCell l D cI cZ cJ y) m_TM_isDataCell q427 ⟨rfl, rfl⟩ ⟨Nat.le_of_ble_eq_true rfl, Nat.le_of_ble_eq_true rfl⟩ hK hP [] rfl rfl hl.1 rfl (Nat.le_of_ble_eq_true rfl) d_TM_data_1 ⟨Nat.zero_le _, Nat.zero_le _⟩ ?_
  refine lv_if_eq (tgt := 14) hx hb d_TM_data_4 rfl (fun g1 => ?_) (fun g1 => ?_)
  · exact xe_new (names := ["java/lang/RuntimeException", "java/lang/Exception"]) hx hb (hL e hadm) hnone hlocks hml hl.1 hown (hg _ q295) (hg _ q11) (by decide) (by decide) (xt_iae hg hT) d_TM_data_14 d_TM_data_17 d_TM_data_18 d_TM_data_21 (Nat.le_of_ble_eq_true rfl) (Nat.le_of_ble_eq_true rfl) (Nat.le_of_ble_eq_true rfl) (Nat.le_of_ble_eq_true rfl)
  · refine lv_iload_n hx hb d_TM_data_7 rfl (lv_at hl 2 rfl) ?_
    refine xr_S (As := [.int z]) (rest := []) ⟨hx, hb, hml, hown, hg⟩ (c_TM_isNumber l D cI cZ cJ z) m_TM_isNumber q417 ⟨rfl, rfl⟩ ⟨Nat.le_of_ble_eq_true rfl, Nat.le_of_ble_eq_true rfl⟩ hK hP [] rfl rfl hl.1 rfl (Nat.le_of_ble_eq_true rfl) d_TM_data_8 ⟨Nat.zero_le _, Nat.zero_le _⟩ ?_
    refine lv_if_ne (tgt := 22) hx hb d_TM_data_11 rfl (fun g2 => ?_) (fun g2 => ?_)
    · exact absurd hbad (not_or.mpr ⟨g1, g2⟩)
    · exact xe_new (names := ["java/lang/RuntimeException", "java/lang/Exception"]) hx hb (hL e hadm) hnone hlocks hml hl.1 hown (hg _ q295) (hg _ q11) (by decide) (by decide) (xt_iae hg hT) d_TM_data_14 d_TM_data_17 d_TM_data_18 d_TM_data_21 (Nat.le_of_ble_eq_true rfl) (Nat.le_of_ble_eq_true rfl) (Nat.le_of_ble_eq_true rfl) (Nat.le_of_ble_eq_true rfl)

set_option maxHeartbeats 4000000 in
set_option maxRecDepth 100000 in
theorem c_TM_cell_1 (l : Launch) (hL : xe_L l) (D : va_G) (cI cZ cJ : ClassId) (x0 pL pF t cL cF bA sR sD so soR soC soA ta taR taC taA : Nat) (P F B sr sd Rs Cs As Rt Ct At : Nat → Int32) (n k ks kt : Nat) (hs ds es xs ht dt et : Int32) (y z : Int32) (hbad : tm_im y = 0 ∨ tm_wi z 0 31 = 0) : xt_Met l y_TM_cell b_TM_cell 3 (some .int) { frames := 6, cells := 1, slots := 6, locals := 81 } [.ref x0, .int y, .int z] (xtb D cls [(x0, .inr (0, [.ref pL, .ref t, .ref sR, .ref sD, .ref so, .ref ta])), (pL, .inr (1, [.ref pF, .int (nI n)])), (pF, .inl (cI, 96, .inl P)), (t, .inr (2, [.ref pL, .ref cL, .ref bA])), (cL, .inr (1, [.ref cF, .int (nI k)])), (cF, .inl (cI, 868, .inl F)), (bA, .inl (cI, 25, .inl B)), (sR, .inl (cI, 8, .inl sr)), (sD, .inl (cI, 32, .inl sd)), (so, .inr (3, [.ref pL, .ref soR, .ref soC, .ref soA, .int (nI ks), .int hs, .int ds, .int es, .int xs])), (soR, .inl (cI, 8, .inl Rs)), (soC, .inl (cI, 32, .inl Cs)), (soA, .inl (cI, 120, .inl As)), (ta, .inr (4, [.ref cL, .ref taR, .ref taC, .ref taA, .int (nI kt), .int ht, .int dt, .int et, .ref t])), (taR, .inl (cI, 8, .inl Rt)), (taC, .inl (cI, 64, .inl Ct)), (taA, .inl (cI, 120, .inl At))] (tyL cI cZ cJ)) "java/lang/IllegalArgumentException" := by
  refine xe_ofW (cc := b_TM_cell) (maxL := 3) (ret := (some .int)) (by decide) rfl ?_
  intro p e s m args below meth c s₁ B0 hadm hnone hml hv
  obtain ⟨rfl, ⟨hP, hK⟩, hT⟩ := hv
  have hx := B0.exec
  have hb := B0.bytes
  have hr := B0.returns
  have hlocks := B0.notSynchronized
  have hg : ∀ w ∈ gG, w.before _ s = true := fun w h => atoms_spec B0.pre w (List.mem_cons_of_mem _ h)
  have hown : s.vm.findClass R_TM = some m.cls := findClass_of_methodNamed B0.named
  have hP : va_P D cls [(x0, .inr (0, [.ref pL, .ref t, .ref sR, .ref sD, .ref so, .ref ta])), (pL, .inr (1, [.ref pF, .int (nI n)])), (pF, .inl (cI, 96, .inl P)), (t, .inr (2, [.ref pL, .ref cL, .ref bA])), (cL, .inr (1, [.ref cF, .int (nI k)])), (cF, .inl (cI, 868, .inl F)), (bA, .inl (cI, 25, .inl B)), (sR, .inl (cI, 8, .inl sr)), (sD, .inl (cI, 32, .inl sd)), (so, .inr (3, [.ref pL, .ref soR, .ref soC, .ref soA, .int (nI ks), .int hs, .int ds, .int es, .int xs])), (soR, .inl (cI, 8, .inl Rs)), (soC, .inl (cI, 32, .inl Cs)), (soA, .inl (cI, 120, .inl As)), (ta, .inr (4, [.ref cL, .ref taR, .ref taC, .ref taA, .int (nI kt), .int ht, .int dt, .int et, .ref t])), (taR, .inl (cI, 8, .inl Rt)), (taC, .inl (cI, 64, .inl Ct)), (taA, .inl (cI, 120, .inl At))] s.heap := hP
  have hl := lv_entry ([.ref x0, .int y, .int z]) (n := 3) (Nat.le_of_ble_eq_true rfl)
  rw [lg_entry_eq]
  generalize (lg_sl ([.ref x0, .int y, .int z]) ++ List.replicate (3 - (lg_sl ([.ref x0, .int y, .int z])).length) Slot.unset).toArray = ls at hl ⊢
  have hl : lv_has ls 3 [(0, .ref x0), (1, .int y), (2, .int z)] := hl
  refine lv_iload_n hx hb d_TM_cell_0 rfl (lv_at hl 1 rfl) ?_
  refine xr_S (As := [.int y]) (rest := []) ⟨hx, hb, hml, hown, hg⟩ (c_TM_isMachine l D cI cZ cJ y) m_TM_isMachine q267 ⟨rfl, rfl⟩ ⟨Nat.le_of_ble_eq_true rfl, Nat.le_of_ble_eq_true rfl⟩ hK hP [] rfl rfl hl.1 rfl (Nat.le_of_ble_eq_true rfl) d_TM_cell_1 ⟨Nat.zero_le _, Nat.zero_le _⟩ ?_
  refine lv_if_eq (tgt := 14) hx hb d_TM_cell_4 rfl (fun g1 => ?_) (fun g1 => ?_)
  · exact xe_new (names := ["java/lang/RuntimeException", "java/lang/Exception"]) hx hb (hL e hadm) hnone hlocks hml hl.1 hown (hg _ q295) (hg _ q11) (by decide) (by decide) (xt_iae hg hT) d_TM_cell_14 d_TM_cell_17 d_TM_cell_18 d_TM_cell_21 (Nat.le_of_ble_eq_true rfl) (Nat.le_of_ble_eq_true rfl) (Nat.le_of_ble_eq_true rfl) (Nat.le_of_ble_eq_true rfl)
  · refine lv_iload_n hx hb d_TM_cell_7 rfl (lv_at hl 2 rfl) ?_
    refine xr_S (As := [.int z]) (rest := []) ⟨hx, hb, hml, hown, hg⟩ (c_TM_isDataCell l D cI cZ cJ z) m_TM_isDataCell q427 ⟨rfl, rfl⟩ ⟨Nat.le_of_ble_eq_true rfl, Nat.le_of_ble_eq_true rfl⟩ hK hP [] rfl rfl hl.1 rfl (Nat.le_of_ble_eq_true rfl) d_TM_cell_8 ⟨Nat.zero_le _, Nat.zero_le _⟩ ?_
    refine lv_if_ne (tgt := 22) hx hb d_TM_cell_11 rfl (fun g2 => ?_) (fun g2 => ?_)
    · exact absurd hbad (not_or.mpr ⟨g1, g2⟩)
    · exact xe_new (names := ["java/lang/RuntimeException", "java/lang/Exception"]) hx hb (hL e hadm) hnone hlocks hml hl.1 hown (hg _ q295) (hg _ q11) (by decide) (by decide) (xt_iae hg hT) d_TM_cell_14 d_TM_cell_17 d_TM_cell_18 d_TM_cell_21 (Nat.le_of_ble_eq_true rfl) (Nat.le_of_ble_eq_true rfl) (Nat.le_of_ble_eq_true rfl) (Nat.le_of_ble_eq_true rfl)

set_option maxHeartbeats 4000000 in
set_option maxRecDepth 100000 in
theorem c_TM_access_1 (l : Launch) (hL : xe_L l) (D : va_G) (cI cZ cJ : ClassId) (x0 pL pF t cL cF bA sR sD so soR soC soA ta taR taC taA : Nat) (P F B sr sd Rs Cs As Rt Ct At : Nat → Int32) (n k ks kt : Nat) (hs ds es xs ht dt et : Int32) (y z w : Int32) (hbad : tm_im y = 0 ∨ tm_wi w 0 2 = 0) : xt_Met l y_TM_access b_TM_access 5 (some .int) { frames := 6, cells := 1, slots := 6, locals := 81 } [.ref x0, .int y, .int z, .int w] (xtb D cls [(x0, .inr (0, [.ref pL, .ref t, .ref sR, .ref sD, .ref so, .ref ta])), (pL, .inr (1, [.ref pF, .int (nI n)])), (pF, .inl (cI, 96, .inl P)), (t, .inr (2, [.ref pL, .ref cL, .ref bA])), (cL, .inr (1, [.ref cF, .int (nI k)])), (cF, .inl (cI, 868, .inl F)), (bA, .inl (cI, 25, .inl B)), (sR, .inl (cI, 8, .inl sr)), (sD, .inl (cI, 32, .inl sd)), (so, .inr (3, [.ref pL, .ref soR, .ref soC, .ref soA, .int (nI ks), .int hs, .int ds, .int es, .int xs])), (soR, .inl (cI, 8, .inl Rs)), (soC, .inl (cI, 32, .inl Cs)), (soA, .inl (cI, 120, .inl As)), (ta, .inr (4, [.ref cL, .ref taR, .ref taC, .ref taA, .int (nI kt), .int ht, .int dt, .int et, .ref t])), (taR, .inl (cI, 8, .inl Rt)), (taC, .inl (cI, 64, .inl Ct)), (taA, .inl (cI, 120, .inl At))] (tyL cI cZ cJ)) "java/lang/IllegalArgumentException" := by
  refine xe_ofW (cc := b_TM_access) (maxL := 5) (ret := (some .int)) (by decide) rfl ?_
  intro p e s m args below meth c s₁ B0 hadm hnone hml hv
  obtain ⟨rfl, ⟨hP, hK⟩, hT⟩ := hv
  have hx := B0.exec
  have hb := B0.bytes
  have hr := B0.returns
  have hlocks := B0.notSynchronized
  have hg : ∀ w ∈ gG, w.before _ s = true := fun w h => atoms_spec B0.pre w (List.mem_cons_of_mem _ h)
  have hown : s.vm.findClass R_TM = some m.cls := findClass_of_methodNamed B0.named
  have hP : va_P D cls [(x0, .inr (0, [.ref pL, .ref t, .ref sR, .ref sD, .ref so, .ref ta])), (pL, .inr (1, [.ref pF, .int (nI n)])), (pF, .inl (cI, 96, .inl P)), (t, .inr (2, [.ref pL, .ref cL, .ref bA])), (cL, .inr (1, [.ref cF, .int (nI k)])), (cF, .inl (cI, 868, .inl F)), (bA, .inl (cI, 25, .inl B)), (sR, .inl (cI, 8, .inl sr)), (sD, .inl (cI, 32, .inl sd)), (so, .inr (3, [.ref pL, .ref soR, .ref soC, .ref soA, .int (nI ks), .int hs, .int ds, .int es, .int xs])), (soR, .inl (cI, 8, .inl Rs)), (soC, .inl (cI, 32, .inl Cs)), (soA, .inl (cI, 120, .inl As)), (ta, .inr (4, [.ref cL, .ref taR, .ref taC, .ref taA, .int (nI kt), .int ht, .int dt, .int et, .ref t])), (taR, .inl (cI, 8, .inl Rt)), (taC, .inl (cI, 64, .inl Ct)), (taA, .inl (cI, 120, .inl At))] s.heap := hP
  have hl := lv_entry ([.ref x0, .int y, .int z, .int w]) (n := 5) (Nat.le_of_ble_eq_true rfl)
  rw [lg_entry_eq]
  generalize (lg_sl ([.ref x0, .int y, .int z, .int w]) ++ List.replicate (5 - (lg_sl ([.ref x0, .int y, .int z, .int w])).length) Slot.unset).toArray = ls at hl ⊢
  have hl : lv_has ls 5 [(0, .ref x0), (1, .int y), (2, .int z), (3, .int w)] := hl
  refine lv_iload_n hx hb d_TM_access_0 rfl (lv_at hl 1 rfl) ?_
  refine xr_S (As := [.int y]) (rest := []) ⟨hx, hb, hml, hown, hg⟩ (c_TM_isMachine l D cI cZ cJ y) m_TM_isMachine q267 ⟨rfl, rfl⟩ ⟨Nat.le_of_ble_eq_true rfl, Nat.le_of_ble_eq_true rfl⟩ hK hP [] rfl rfl hl.1 rfl (Nat.le_of_ble_eq_true rfl) d_TM_access_1 ⟨Nat.zero_le _, Nat.zero_le _⟩ ?_
  refine lv_if_eq (tgt := 16) hx hb d_TM_access_4 rfl (fun g1 => ?_) (fun g1 => ?_)
  · exact xe_new (names := ["java/lang/RuntimeException", "java/lang/Exception"]) hx hb (hL e hadm) hnone hlocks hml hl.1 hown (hg _ q295) (hg _ q11) (by decide) (by decide) (xt_iae hg hT) d_TM_access_16 d_TM_access_19 d_TM_access_20 d_TM_access_23 (Nat.le_of_ble_eq_true rfl) (Nat.le_of_ble_eq_true rfl) (Nat.le_of_ble_eq_true rfl) (Nat.le_of_ble_eq_true rfl)
  · refine lv_iload_n hx hb d_TM_access_7 rfl (lv_at hl 3 rfl) ?_
    refine lv_iconst (v := 0) hx hb d_TM_access_8 (by decide) ?_
    refine lv_iconst (v := 2) hx hb d_TM_access_9 (by decide) ?_
    refine xr_S (As := [.int w, .int 0, .int 2]) (rest := []) ⟨hx, hb, hml, hown, hg⟩ (c_TM_isWithin l D cI cZ cJ w 0 2) m_TM_isWithin q274 ⟨rfl, rfl⟩ ⟨Nat.le_of_ble_eq_true rfl, Nat.le_of_ble_eq_true rfl⟩ hK hP [] rfl rfl hl.1 rfl (Nat.le_of_ble_eq_true rfl) d_TM_access_10 ⟨Nat.zero_le _, Nat.zero_le _⟩ ?_
    refine lv_if_ne (tgt := 24) hx hb d_TM_access_13 rfl (fun g2 => ?_) (fun g2 => ?_)
    · exact absurd hbad (not_or.mpr ⟨g1, g2⟩)
    · exact xe_new (names := ["java/lang/RuntimeException", "java/lang/Exception"]) hx hb (hL e hadm) hnone hlocks hml hl.1 hown (hg _ q295) (hg _ q11) (by decide) (by decide) (xt_iae hg hT) d_TM_access_16 d_TM_access_19 d_TM_access_20 d_TM_access_23 (Nat.le_of_ble_eq_true rfl) (Nat.le_of_ble_eq_true rfl) (Nat.le_of_ble_eq_true rfl) (Nat.le_of_ble_eq_true rfl)

set_option maxHeartbeats 4000000 in
set_option maxRecDepth 100000 in
theorem c_TM_cell0 (l : Launch) (D : va_G) (cI cZ cJ : ClassId) (x0 pL pF t cL cF bA sR sD so soR soC soA ta taR taC taA : Nat) (P F B sr sd Rs Cs As Rt Ct At : Nat → Int32) (n k ks kt : Nat) (hs ds es xs ht dt et : Int32) (a : Nat) (ha : a < 32) : xr_Met l y_TM_cell b_TM_cell 3 (some .int) { frames := 2, cells := 0, slots := 0, locals := 42 } [.ref x0, .int 0, .int (nI a)] (xb D cls [(x0, .inr (0, [.ref pL, .ref t, .ref sR, .ref sD, .ref so, .ref ta])), (pL, .inr (1, [.ref pF, .int (nI n)])), (pF, .inl (cI, 96, .inl P)), (t, .inr (2, [.ref pL, .ref cL, .ref bA])), (cL, .inr (1, [.ref cF, .int (nI k)])), (cF, .inl (cI, 868, .inl F)), (bA, .inl (cI, 25, .inl B)), (sR, .inl (cI, 8, .inl sr)), (sD, .inl (cI, 32, .inl sd)), (so, .inr (3, [.ref pL, .ref soR, .ref soC, .ref soA, .int (nI ks), .int hs, .int ds, .int es, .int xs])), (soR, .inl (cI, 8, .inl Rs)), (soC, .inl (cI, 32, .inl Cs)), (soA, .inl (cI, 120, .inl As)), (ta, .inr (4, [.ref cL, .ref taR, .ref taC, .ref taA, .int (nI kt), .int ht, .int dt, .int et, .ref t])), (taR, .inl (cI, 8, .inl Rt)), (taC, .inl (cI, 64, .inl Ct)), (taA, .inl (cI, 120, .inl At))] (tyL cI cZ cJ)) (Cs a) := by
  refine Met.ofW (cc := b_TM_cell) (maxL := 3) (ret := (some .int)) (by decide) rfl ?_
  intro p e s m args below meth c s₁ B0 hml hv
  obtain ⟨rfl, hP, hK⟩ := hv
  have hx := B0.exec
  have hb := B0.bytes
  have hr := B0.returns
  have hlocks := B0.notSynchronized
  have hg : ∀ w ∈ gG, w.before _ s = true := fun w h => atoms_spec B0.pre w (List.mem_cons_of_mem _ h)
  have hown : s.vm.findClass R_TM = some m.cls := findClass_of_methodNamed B0.named
  have hP : va_P D cls [(x0, .inr (0, [.ref pL, .ref t, .ref sR, .ref sD, .ref so, .ref ta])), (pL, .inr (1, [.ref pF, .int (nI n)])), (pF, .inl (cI, 96, .inl P)), (t, .inr (2, [.ref pL, .ref cL, .ref bA])), (cL, .inr (1, [.ref cF, .int (nI k)])), (cF, .inl (cI, 868, .inl F)), (bA, .inl (cI, 25, .inl B)), (sR, .inl (cI, 8, .inl sr)), (sD, .inl (cI, 32, .inl sd)), (so, .inr (3, [.ref pL, .ref soR, .ref soC, .ref soA, .int (nI ks), .int hs, .int ds, .int es, .int xs])), (soR, .inl (cI, 8, .inl Rs)), (soC, .inl (cI, 32, .inl Cs)), (soA, .inl (cI, 120, .inl As)), (ta, .inr (4, [.ref cL, .ref taR, .ref taC, .ref taA, .int (nI kt), .int ht, .int dt, .int et, .ref t])), (taR, .inl (cI, 8, .inl Rt)), (taC, .inl (cI, 64, .inl Ct)), (taA, .inl (cI, 120, .inl At))] s.heap := hP
  have hl := lv_entry ([.ref x0, .int 0, .int (nI a)]) (n := 3) (Nat.le_of_ble_eq_true rfl)
  rw [lg_entry_eq]
  generalize (lg_sl ([.ref x0, .int 0, .int (nI a)]) ++ List.replicate (3 - (lg_sl ([.ref x0, .int 0, .int (nI a)])).length) Slot.unset).toArray = ls at hl ⊢
  have hl : lv_has ls 3 [(0, .ref x0), (1, .int 0), (2, .int (nI a))] := hl
  refine lv_iload_n hx hb d_TM_cell_0 rfl (lv_at hl 1 rfl) ?_
  refine xr_S (As := [.int 0]) (rest := []) ⟨hx, hb, hml, hown, hg⟩ (c_TM_isMachine l D cI cZ cJ 0) m_TM_isMachine q267 ⟨rfl, rfl⟩ ⟨Nat.le_of_ble_eq_true rfl, Nat.le_of_ble_eq_true rfl⟩ hK hP [] rfl rfl hl.1 rfl (Nat.le_of_ble_eq_true rfl) d_TM_cell_1 ⟨Nat.zero_le _, Nat.zero_le _⟩ ?_
  refine lv_if_eq (tgt := 14) hx hb d_TM_cell_4 rfl (fun hz9 => absurd hz9 (by decide)) (fun _ => ?_)
  refine lv_iload_n hx hb d_TM_cell_7 rfl (lv_at hl 2 rfl) ?_
  refine xr_S (As := [.int (nI a)]) (rest := []) ⟨hx, hb, hml, hown, hg⟩ (c_TM_isDataCell l D cI cZ cJ (nI a)) m_TM_isDataCell q427 ⟨rfl, rfl⟩ ⟨Nat.le_of_ble_eq_true rfl, Nat.le_of_ble_eq_true rfl⟩ hK hP [] rfl rfl hl.1 rfl (Nat.le_of_ble_eq_true rfl) d_TM_cell_8 ⟨Nat.zero_le _, Nat.zero_le _⟩ ?_
  refine lv_if_ne (tgt := 22) hx hb d_TM_cell_11 rfl (fun _ => ?_) (fun hz9 => absurd hz9 (tm_wi_y (nI_le (a := 0) (b := a) (by omega) (by omega)) (nI_le (a := a) (b := 31) (by omega) (by omega))))
  refine lv_aload_n hx hb d_TM_cell_22 rfl (lv_at hl 0 rfl) ?_
  refine lv_iload_n hx hb d_TM_cell_23 rfl (lv_at hl 1 rfl) ?_
  refine xq_V (C := R_TM) (As := [.int 0]) (rest := []) ⟨hx, hb, hml, hown, hg⟩ (c_TM_machineOf0 l D cI cZ cJ x0 pL pF t cL cF bA sR sD so soR soC soA ta taR taC taA P F B sr sd Rs Cs As Rt Ct At n k ks kt hs ds es xs ht dt et) m_TM_machineOf q270 sp_TM_machineOf ⟨rfl, rfl⟩ ⟨Nat.le_of_ble_eq_true rfl, Nat.le_of_ble_eq_true rfl⟩ hK hP [0, 1, 2, 3, 4, 5, 6, 7, 8, 9, 10, 11, 12, 13, 14, 15, 16] rfl (va_recv (q0 := 0) hK.1 hP rfl rfl) rfl hl.1 rfl (Nat.le_of_ble_eq_true rfl) d_TM_cell_24 ⟨Nat.zero_le _, Nat.zero_le _⟩ ?_
  refine va_get (D := D) (ci := 3) (v := .ref soC) (C := R_So) (T := F_So) (N := 9) hx hb hg f_So hown hK.1 hP 9 rfl rfl 2 (by decide) (hg _ q88) (fun _ h9 => h9) rfl d_TM_cell_27 ?_
  refine lv_iload_n hx hb d_TM_cell_30 rfl (lv_at hl 2 rfl) ?_
  refine xa_ld hx hb hK hP 11 0 rfl rfl (kx := a) (rfl) (by omega) (by decide) d_TM_cell_31 ?_
  exact W.iret (v := Cs a) hx hb hr (fun t9 ht9 hW9 => ⟨Cs a, rfl, rfl, ht9⟩) (fun _ h => by cases h) d_TM_cell_32

set_option maxHeartbeats 4000000 in
set_option maxRecDepth 100000 in
theorem c_TM_access0 (l : Launch) (D : va_G) (cI cZ cJ : ClassId) (x0 pL pF t cL cF bA sR sD so soR soC soA ta taR taC taA : Nat) (P F B sr sd Rs Cs As Rt Ct At : Nat → Int32) (n k ks kt : Nat) (hs ds es xs ht dt et : Int32) (q w : Nat) (hkp : ks ≤ 40) (hq : q < ks) (hw : w < 3) : xr_Met l y_TM_access b_TM_access 5 (some .int) { frames := 1, cells := 0, slots := 0, locals := 22 } [.ref x0, .int 0, .int (nI q), .int (nI w)] (xb D cls [(x0, .inr (0, [.ref pL, .ref t, .ref sR, .ref sD, .ref so, .ref ta])), (pL, .inr (1, [.ref pF, .int (nI n)])), (pF, .inl (cI, 96, .inl P)), (t, .inr (2, [.ref pL, .ref cL, .ref bA])), (cL, .inr (1, [.ref cF, .int (nI k)])), (cF, .inl (cI, 868, .inl F)), (bA, .inl (cI, 25, .inl B)), (sR, .inl (cI, 8, .inl sr)), (sD, .inl (cI, 32, .inl sd)), (so, .inr (3, [.ref pL, .ref soR, .ref soC, .ref soA, .int (nI ks), .int hs, .int ds, .int es, .int xs])), (soR, .inl (cI, 8, .inl Rs)), (soC, .inl (cI, 32, .inl Cs)), (soA, .inl (cI, 120, .inl As)), (ta, .inr (4, [.ref cL, .ref taR, .ref taC, .ref taA, .int (nI kt), .int ht, .int dt, .int et, .ref t])), (taR, .inl (cI, 8, .inl Rt)), (taC, .inl (cI, 64, .inl Ct)), (taA, .inl (cI, 120, .inl At))] (tyL cI cZ cJ)) (As (q * 3 + w)) := by
  refine Met.ofW (cc := b_TM_access) (maxL := 5) (ret := (some .int)) (by decide) rfl ?_
  intro p e s m args below meth c s₁ B0 hml hv
  obtain ⟨rfl, hP, hK⟩ := hv
  have hx := B0.exec
  have hb := B0.bytes
  have hr := B0.returns
  have hlocks := B0.notSynchronized
  have hg : ∀ w ∈ gG, w.before _ s = true := fun w h => atoms_spec B0.pre w (List.mem_cons_of_mem _ h)
  have hown : s.vm.findClass R_TM = some m.cls := findClass_of_methodNamed B0.named
  have hP : va_P D cls [(x0, .inr (0, [.ref pL, .ref t, .ref sR, .ref sD, .ref so, .ref ta])), (pL, .inr (1, [.ref pF, .int (nI n)])), (pF, .inl (cI, 96, .inl P)), (t, .inr (2, [.ref pL, .ref cL, .ref bA])), (cL, .inr (1, [.ref cF, .int (nI k)])), (cF, .inl (cI, 868, .inl F)), (bA, .inl (cI, 25, .inl B)), (sR, .inl (cI, 8, .inl sr)), (sD, .inl (cI, 32, .inl sd)), (so, .inr (3, [.ref pL, .ref soR, .ref soC, .ref soA, .int (nI ks), .int hs, .int ds, .int es, .int xs])), (soR, .inl (cI, 8, .inl Rs)), (soC, .inl (cI, 32, .inl Cs)), (soA, .inl (cI, 120, .inl As)), (ta, .inr (4, [.ref cL, .ref taR, .ref taC, .ref taA, .int (nI kt), .int ht, .int dt, .int et, .ref t])), (taR, .inl (cI, 8, .inl Rt)), (taC, .inl (cI, 64, .inl Ct)), (taA, .inl (cI, 120, .inl At))] s.heap := hP
  have hl := lv_entry ([.ref x0, .int 0, .int (nI q), .int (nI w)]) (n := 5) (Nat.le_of_ble_eq_true rfl)
  rw [lg_entry_eq]
  generalize (lg_sl ([.ref x0, .int 0, .int (nI q), .int (nI w)]) ++ List.replicate (5 - (lg_sl ([.ref x0, .int 0, .int (nI q), .int (nI w)])).length) Slot.unset).toArray = ls at hl ⊢
  have hl : lv_has ls 5 [(0, .ref x0), (1, .int 0), (2, .int (nI q)), (3, .int (nI w))] := hl
  refine lv_iload_n hx hb d_TM_access_0 rfl (lv_at hl 1 rfl) ?_
  refine xr_S (As := [.int 0]) (rest := []) ⟨hx, hb, hml, hown, hg⟩ (c_TM_isMachine l D cI cZ cJ 0) m_TM_isMachine q267 ⟨rfl, rfl⟩ ⟨Nat.le_of_ble_eq_true rfl, Nat.le_of_ble_eq_true rfl⟩ hK hP [] rfl rfl hl.1 rfl (Nat.le_of_ble_eq_true rfl) d_TM_access_1 ⟨Nat.zero_le _, Nat.zero_le _⟩ ?_
  refine lv_if_eq (tgt := 16) hx hb d_TM_access_4 rfl (fun hz9 => absurd hz9 (by decide)) (fun _ => ?_)
  refine lv_iload_n hx hb d_TM_access_7 rfl (lv_at hl 3 rfl) ?_
  refine lv_iconst (v := 0) hx hb d_TM_access_8 (by decide) ?_
  refine lv_iconst (v := 2) hx hb d_TM_access_9 (by decide) ?_
  refine xr_S (As := [.int (nI w), .int 0, .int 2]) (rest := []) ⟨hx, hb, hml, hown, hg⟩ (c_TM_isWithin l D cI cZ cJ (nI w) 0 2) m_TM_isWithin q274 ⟨rfl, rfl⟩ ⟨Nat.le_of_ble_eq_true rfl, Nat.le_of_ble_eq_true rfl⟩ hK hP [] rfl rfl hl.1 rfl (Nat.le_of_ble_eq_true rfl) d_TM_access_10 ⟨Nat.zero_le _, Nat.zero_le _⟩ ?_
  refine lv_if_ne (tgt := 24) hx hb d_TM_access_13 rfl (fun _ => ?_) (fun hz9 => absurd hz9 (tm_wi_y (nI_le (a := 0) (b := w) (by omega) (by omega)) (nI_le (a := w) (b := 2) (by omega) (by omega))))
  refine lv_aload_n hx hb d_TM_access_24 rfl (lv_at hl 0 rfl) ?_
  refine lv_iload_n hx hb d_TM_access_25 rfl (lv_at hl 1 rfl) ?_
  refine xq_V (C := R_TM) (As := [.int 0]) (rest := []) ⟨hx, hb, hml, hown, hg⟩ (c_TM_machineOf0 l D cI cZ cJ x0 pL pF t cL cF bA sR sD so soR soC soA ta taR taC taA P F B sr sd Rs Cs As Rt Ct At n k ks kt hs ds es xs ht dt et) m_TM_machineOf q270 sp_TM_machineOf ⟨rfl, rfl⟩ ⟨Nat.le_of_ble_eq_true rfl, Nat.le_of_ble_eq_true rfl⟩ hK hP [0, 1, 2, 3, 4, 5, 6, 7, 8, 9, 10, 11, 12, 13, 14, 15, 16] rfl (va_recv (q0 := 0) hK.1 hP rfl rfl) rfl hl.1 rfl (Nat.le_of_ble_eq_true rfl) d_TM_access_26 ⟨Nat.zero_le _, Nat.zero_le _⟩ ?_
  refine lv_astore hx hb d_TM_access_29 hl (by decide) rfl (fun ls hl => ?_)
  have hl : lv_has ls 5 [(4, .ref so), (0, .ref x0), (1, .int 0), (2, .int (nI q)), (3, .int (nI w))] := hl
  refine lv_iload_n hx hb d_TM_access_31 rfl (lv_at hl 3 rfl) ?_
  refine lv_iconst (v := 0) hx hb d_TM_access_32 (by decide) ?_
  refine lv_aload hx hb d_TM_access_33 (lv_at hl 0 rfl) ?_
  refine va_get (D := D) (ci := 3) (v := .int (nI ks)) (C := R_So) (T := F_So) (N := 9) hx hb hg f_So hown hK.1 hP 9 rfl rfl 4 (by decide) (hg _ q92) (fun _ h9 => h9) rfl d_TM_access_35 ?_
  refine lv_iconst (v := 1) hx hb d_TM_access_38 (by decide) ?_
  refine lv_isub hx hb d_TM_access_39 ?_
  have eq9 : ((nI ks) - 1 : Int32) = nI (ks - 1) := pk_sub (a := ks) (b := 1) (by omega)
  refine W.eq (g2 := F0 m 40 ls [.int (nI (ks - 1)), .int 0, .int (nI q)]) (by rw [eq9]) ?_
  refine xr_S (As := [.int (nI q), .int 0, .int (nI (ks - 1))]) (rest := []) ⟨hx, hb, hml, hown, hg⟩ (c_TM_isWithin l D cI cZ cJ (nI q) 0 (nI (ks - 1))) m_TM_isWithin q274 ⟨rfl, rfl⟩ ⟨Nat.le_of_ble_eq_true rfl, Nat.le_of_ble_eq_true rfl⟩ hK hP [] rfl rfl hl.1 rfl (Nat.le_of_ble_eq_true rfl) d_TM_access_40 ⟨Nat.zero_le _, Nat.zero_le _⟩ ?_
  refine lv_if_ne (tgt := 54) hx hb d_TM_access_43 rfl (fun _ => ?_) (fun hz9 => absurd hz9 (tm_wi_y (nI_le (a := 0) (b := q) (by omega) (by omega)) (nI_le (a := q) (b := (ks - 1)) (by omega) (by omega))))
  refine lv_aload hx hb d_TM_access_54 (lv_at hl 0 rfl) ?_
  refine va_get (D := D) (ci := 3) (v := .ref soA) (C := R_So) (T := F_So) (N := 9) hx hb hg f_So hown hK.1 hP 9 rfl rfl 3 (by decide) (hg _ q90) (fun _ h9 => h9) rfl d_TM_access_56 ?_
  refine lv_iload_n hx hb d_TM_access_59 rfl (lv_at hl 3 rfl) ?_
  refine lv_iconst (v := 3) hx hb d_TM_access_60 (by decide) ?_
  refine lv_imul hx hb d_TM_access_61 ?_
  have eq9 : ((nI q) * 3 : Int32) = nI (q * 3) := pk_mul q 3
  refine W.eq (g2 := F0 m 62 ls [.int (nI (q * 3)), .ref soA]) (by rw [eq9]) ?_
  refine lv_iload_n hx hb d_TM_access_62 rfl (lv_at hl 4 rfl) ?_
  refine lv_iadd hx hb d_TM_access_63 ?_
  have eq9 : ((nI (q * 3)) + (nI w) : Int32) = nI (q * 3 + w) := nI_add (q * 3) w
  refine W.eq (g2 := F0 m 64 ls [.int (nI (q * 3 + w)), .ref soA]) (by rw [eq9]) ?_
  refine xa_ld hx hb hK hP 12 0 rfl rfl (kx := q * 3 + w) (rfl) (by omega) (by decide) d_TM_access_64 ?_
  exact W.iret (v := As (q * 3 + w)) hx hb hr (fun t9 ht9 hW9 => ⟨As (q * 3 + w), rfl, rfl, ht9⟩) (fun _ h => by cases h) d_TM_access_65

set_option maxHeartbeats 4000000 in
set_option maxRecDepth 100000 in
theorem c_TM_access0_2 (l : Launch) (hL : xe_L l) (D : va_G) (cI cZ cJ : ClassId) (x0 pL pF t cL cF bA sR sD so soR soC soA ta taR taC taA : Nat) (P F B sr sd Rs Cs As Rt Ct At : Nat → Int32) (n k ks kt : Nat) (hs ds es xs ht dt et : Int32) (z w : Int32) (g1 : ¬ tm_wi w 0 2 = 0) (g2 : tm_wi z 0 (nI ks - 1) = 0) : xt_Met l y_TM_access b_TM_access 5 (some .int) { frames := 6, cells := 1, slots := 6, locals := 81 } [.ref x0, .int 0, .int z, .int w] (xtb D cls [(x0, .inr (0, [.ref pL, .ref t, .ref sR, .ref sD, .ref so, .ref ta])), (pL, .inr (1, [.ref pF, .int (nI n)])), (pF, .inl (cI, 96, .inl P)), (t, .inr (2, [.ref pL, .ref cL, .ref bA])), (cL, .inr (1, [.ref cF, .int (nI k)])), (cF, .inl (cI, 868, .inl F)), (bA, .inl (cI, 25, .inl B)), (sR, .inl (cI, 8, .inl sr)), (sD, .inl (cI, 32, .inl sd)), (so, .inr (3, [.ref pL, .ref soR, .ref soC, .ref soA, .int (nI ks), .int hs, .int ds, .int es, .int xs])), (soR, .inl (cI, 8, .inl Rs)), (soC, .inl (cI, 32, .inl Cs)), (soA, .inl (cI, 120, .inl As)), (ta, .inr (4, [.ref cL, .ref taR, .ref taC, .ref taA, .int (nI kt), .int ht, .int dt, .int et, .ref t])), (taR, .inl (cI, 8, .inl Rt)), (taC, .inl (cI, 64, .inl Ct)), (taA, .inl (cI, 120, .inl At))] (tyL cI cZ cJ)) "java/util/NoSuchElementException" := by
  refine xe_ofW (cc := b_TM_access) (maxL := 5) (ret := (some .int)) (by decide) rfl ?_
  intro p e s m args below meth c s₁ B0 hadm hnone hml hv
  obtain ⟨rfl, ⟨hP, hK⟩, hT⟩ := hv
  have hx := B0.exec
  have hb := B0.bytes
  have hr := B0.returns
  have hlocks := B0.notSynchronized
  have hg : ∀ w ∈ gG, w.before _ s = true := fun w h => atoms_spec B0.pre w (List.mem_cons_of_mem _ h)
  have hown : s.vm.findClass R_TM = some m.cls := findClass_of_methodNamed B0.named
  have hP : va_P D cls [(x0, .inr (0, [.ref pL, .ref t, .ref sR, .ref sD, .ref so, .ref ta])), (pL, .inr (1, [.ref pF, .int (nI n)])), (pF, .inl (cI, 96, .inl P)), (t, .inr (2, [.ref pL, .ref cL, .ref bA])), (cL, .inr (1, [.ref cF, .int (nI k)])), (cF, .inl (cI, 868, .inl F)), (bA, .inl (cI, 25, .inl B)), (sR, .inl (cI, 8, .inl sr)), (sD, .inl (cI, 32, .inl sd)), (so, .inr (3, [.ref pL, .ref soR, .ref soC, .ref soA, .int (nI ks), .int hs, .int ds, .int es, .int xs])), (soR, .inl (cI, 8, .inl Rs)), (soC, .inl (cI, 32, .inl Cs)), (soA, .inl (cI, 120, .inl As)), (ta, .inr (4, [.ref cL, .ref taR, .ref taC, .ref taA, .int (nI kt), .int ht, .int dt, .int et, .ref t])), (taR, .inl (cI, 8, .inl Rt)), (taC, .inl (cI, 64, .inl Ct)), (taA, .inl (cI, 120, .inl At))] s.heap := hP
  have hl := lv_entry ([.ref x0, .int 0, .int z, .int w]) (n := 5) (Nat.le_of_ble_eq_true rfl)
  rw [lg_entry_eq]
  generalize (lg_sl ([.ref x0, .int 0, .int z, .int w]) ++ List.replicate (5 - (lg_sl ([.ref x0, .int 0, .int z, .int w])).length) Slot.unset).toArray = ls at hl ⊢
  have hl : lv_has ls 5 [(0, .ref x0), (1, .int 0), (2, .int z), (3, .int w)] := hl
  refine lv_iload_n hx hb d_TM_access_0 rfl (lv_at hl 1 rfl) ?_
  refine xr_S (As := [.int 0]) (rest := []) ⟨hx, hb, hml, hown, hg⟩ (c_TM_isMachine l D cI cZ cJ 0) m_TM_isMachine q267 ⟨rfl, rfl⟩ ⟨Nat.le_of_ble_eq_true rfl, Nat.le_of_ble_eq_true rfl⟩ hK hP [] rfl rfl hl.1 rfl (Nat.le_of_ble_eq_true rfl) d_TM_access_1 ⟨Nat.zero_le _, Nat.zero_le _⟩ ?_
  refine lv_if_eq (tgt := 16) hx hb d_TM_access_4 rfl (fun hz9 => absurd hz9 (by decide)) (fun _ => ?_)
  refine lv_iload_n hx hb d_TM_access_7 rfl (lv_at hl 3 rfl) ?_
  refine lv_iconst (v := 0) hx hb d_TM_access_8 (by decide) ?_
  refine lv_iconst (v := 2) hx hb d_TM_access_9 (by decide) ?_
  refine xr_S (As := [.int w, .int 0, .int 2]) (rest := []) ⟨hx, hb, hml, hown, hg⟩ (c_TM_isWithin l D cI cZ cJ w 0 2) m_TM_isWithin q274 ⟨rfl, rfl⟩ ⟨Nat.le_of_ble_eq_true rfl, Nat.le_of_ble_eq_true rfl⟩ hK hP [] rfl rfl hl.1 rfl (Nat.le_of_ble_eq_true rfl) d_TM_access_10 ⟨Nat.zero_le _, Nat.zero_le _⟩ ?_
  refine lv_if_ne (tgt := 24) hx hb d_TM_access_13 rfl (fun _ => ?_) (fun hz9 => absurd hz9 (g1))
  refine lv_aload_n hx hb d_TM_access_24 rfl (lv_at hl 0 rfl) ?_
  refine lv_iload_n hx hb d_TM_access_25 rfl (lv_at hl 1 rfl) ?_
  refine xq_V (C := R_TM) (As := [.int 0]) (rest := []) ⟨hx, hb, hml, hown, hg⟩ (c_TM_machineOf0 l D cI cZ cJ x0 pL pF t cL cF bA sR sD so soR soC soA ta taR taC taA P F B sr sd Rs Cs As Rt Ct At n k ks kt hs ds es xs ht dt et) m_TM_machineOf q270 sp_TM_machineOf ⟨rfl, rfl⟩ ⟨Nat.le_of_ble_eq_true rfl, Nat.le_of_ble_eq_true rfl⟩ hK hP [0, 1, 2, 3, 4, 5, 6, 7, 8, 9, 10, 11, 12, 13, 14, 15, 16] rfl (va_recv (q0 := 0) hK.1 hP rfl rfl) rfl hl.1 rfl (Nat.le_of_ble_eq_true rfl) d_TM_access_26 ⟨Nat.zero_le _, Nat.zero_le _⟩ ?_
  refine lv_astore hx hb d_TM_access_29 hl (by decide) rfl (fun ls hl => ?_)
  have hl : lv_has ls 5 [(4, .ref so), (0, .ref x0), (1, .int 0), (2, .int z), (3, .int w)] := hl
  refine lv_iload_n hx hb d_TM_access_31 rfl (lv_at hl 3 rfl) ?_
  refine lv_iconst (v := 0) hx hb d_TM_access_32 (by decide) ?_
  refine lv_aload hx hb d_TM_access_33 (lv_at hl 0 rfl) ?_
  refine va_get (D := D) (ci := 3) (v := .int (nI ks)) (C := R_So) (T := F_So) (N := 9) hx hb hg f_So hown hK.1 hP 9 rfl rfl 4 (by decide) (hg _ q92) (fun _ h9 => h9) rfl d_TM_access_35 ?_
  refine lv_iconst (v := 1) hx hb d_TM_access_38 (by decide) ?_
  refine lv_isub hx hb d_TM_access_39 ?_
  refine xr_S (As := [.int z, .int 0, .int ((nI ks) - 1)]) (rest := []) ⟨hx, hb, hml, hown, hg⟩ (c_TM_isWithin l D cI cZ cJ z 0 ((nI ks) - 1)) m_TM_isWithin q274 ⟨rfl, rfl⟩ ⟨Nat.le_of_ble_eq_true rfl, Nat.le_of_ble_eq_true rfl⟩ hK hP [] rfl rfl hl.1 rfl (Nat.le_of_ble_eq_true rfl) d_TM_access_40 ⟨Nat.zero_le _, Nat.zero_le _⟩ ?_
  refine lv_if_ne (tgt := 54) hx hb d_TM_access_43 rfl (fun hz9 => absurd (g2) hz9) (fun _ => ?_)
  exact xe_new (names := ["java/lang/RuntimeException", "java/lang/Exception"]) hx hb (hL e hadm) hnone hlocks hml hl.1 hown (hg _ q383) (hg _ q14) (by decide) (by decide) (xt_nse hg hT) d_TM_access_46 d_TM_access_49 d_TM_access_50 d_TM_access_53 (Nat.le_of_ble_eq_true rfl) (Nat.le_of_ble_eq_true rfl) (Nat.le_of_ble_eq_true rfl) (Nat.le_of_ble_eq_true rfl)

set_option maxHeartbeats 4000000 in
set_option maxRecDepth 100000 in
theorem c_TM_cell1 (l : Launch) (D : va_G) (cI cZ cJ : ClassId) (x0 pL pF t cL cF bA sR sD so soR soC soA ta taR taC taA : Nat) (P F B sr sd Rs Cs As Rt Ct At : Nat → Int32) (n k ks kt : Nat) (hs ds es xs ht dt et : Int32) (a : Nat) (ha : a < 32) : xr_Met l y_TM_cell b_TM_cell 3 (some .int) { frames := 2, cells := 0, slots := 0, locals := 42 } [.ref x0, .int 1, .int (nI a)] (xb D cls [(x0, .inr (0, [.ref pL, .ref t, .ref sR, .ref sD, .ref so, .ref ta])), (pL, .inr (1, [.ref pF, .int (nI n)])), (pF, .inl (cI, 96, .inl P)), (t, .inr (2, [.ref pL, .ref cL, .ref bA])), (cL, .inr (1, [.ref cF, .int (nI k)])), (cF, .inl (cI, 868, .inl F)), (bA, .inl (cI, 25, .inl B)), (sR, .inl (cI, 8, .inl sr)), (sD, .inl (cI, 32, .inl sd)), (so, .inr (3, [.ref pL, .ref soR, .ref soC, .ref soA, .int (nI ks), .int hs, .int ds, .int es, .int xs])), (soR, .inl (cI, 8, .inl Rs)), (soC, .inl (cI, 32, .inl Cs)), (soA, .inl (cI, 120, .inl As)), (ta, .inr (4, [.ref cL, .ref taR, .ref taC, .ref taA, .int (nI kt), .int ht, .int dt, .int et, .ref t])), (taR, .inl (cI, 8, .inl Rt)), (taC, .inl (cI, 64, .inl Ct)), (taA, .inl (cI, 120, .inl At))] (tyL cI cZ cJ)) (Ct a) := by
  refine Met.ofW (cc := b_TM_cell) (maxL := 3) (ret := (some .int)) (by decide) rfl ?_
  intro p e s m args below meth c s₁ B0 hml hv
  obtain ⟨rfl, hP, hK⟩ := hv
  have hx := B0.exec
  have hb := B0.bytes
  have hr := B0.returns
  have hlocks := B0.notSynchronized
  have hg : ∀ w ∈ gG, w.before _ s = true := fun w h => atoms_spec B0.pre w (List.mem_cons_of_mem _ h)
  have hown : s.vm.findClass R_TM = some m.cls := findClass_of_methodNamed B0.named
  have hP : va_P D cls [(x0, .inr (0, [.ref pL, .ref t, .ref sR, .ref sD, .ref so, .ref ta])), (pL, .inr (1, [.ref pF, .int (nI n)])), (pF, .inl (cI, 96, .inl P)), (t, .inr (2, [.ref pL, .ref cL, .ref bA])), (cL, .inr (1, [.ref cF, .int (nI k)])), (cF, .inl (cI, 868, .inl F)), (bA, .inl (cI, 25, .inl B)), (sR, .inl (cI, 8, .inl sr)), (sD, .inl (cI, 32, .inl sd)), (so, .inr (3, [.ref pL, .ref soR, .ref soC, .ref soA, .int (nI ks), .int hs, .int ds, .int es, .int xs])), (soR, .inl (cI, 8, .inl Rs)), (soC, .inl (cI, 32, .inl Cs)), (soA, .inl (cI, 120, .inl As)), (ta, .inr (4, [.ref cL, .ref taR, .ref taC, .ref taA, .int (nI kt), .int ht, .int dt, .int et, .ref t])), (taR, .inl (cI, 8, .inl Rt)), (taC, .inl (cI, 64, .inl Ct)), (taA, .inl (cI, 120, .inl At))] s.heap := hP
  have hl := lv_entry ([.ref x0, .int 1, .int (nI a)]) (n := 3) (Nat.le_of_ble_eq_true rfl)
  rw [lg_entry_eq]
  generalize (lg_sl ([.ref x0, .int 1, .int (nI a)]) ++ List.replicate (3 - (lg_sl ([.ref x0, .int 1, .int (nI a)])).length) Slot.unset).toArray = ls at hl ⊢
  have hl : lv_has ls 3 [(0, .ref x0), (1, .int 1), (2, .int (nI a))] := hl
  refine lv_iload_n hx hb d_TM_cell_0 rfl (lv_at hl 1 rfl) ?_
  refine xr_S (As := [.int 1]) (rest := []) ⟨hx, hb, hml, hown, hg⟩ (c_TM_isMachine l D cI cZ cJ 1) m_TM_isMachine q267 ⟨rfl, rfl⟩ ⟨Nat.le_of_ble_eq_true rfl, Nat.le_of_ble_eq_true rfl⟩ hK hP [] rfl rfl hl.1 rfl (Nat.le_of_ble_eq_true rfl) d_TM_cell_1 ⟨Nat.zero_le _, Nat.zero_le _⟩ ?_
  refine lv_if_eq (tgt := 14) hx hb d_TM_cell_4 rfl (fun hz9 => absurd hz9 (by decide)) (fun _ => ?_)
  refine lv_iload_n hx hb d_TM_cell_7 rfl (lv_at hl 2 rfl) ?_
  refine xr_S (As := [.int (nI a)]) (rest := []) ⟨hx, hb, hml, hown, hg⟩ (c_TM_isDataCell l D cI cZ cJ (nI a)) m_TM_isDataCell q427 ⟨rfl, rfl⟩ ⟨Nat.le_of_ble_eq_true rfl, Nat.le_of_ble_eq_true rfl⟩ hK hP [] rfl rfl hl.1 rfl (Nat.le_of_ble_eq_true rfl) d_TM_cell_8 ⟨Nat.zero_le _, Nat.zero_le _⟩ ?_
  refine lv_if_ne (tgt := 22) hx hb d_TM_cell_11 rfl (fun _ => ?_) (fun hz9 => absurd hz9 (tm_wi_y (nI_le (a := 0) (b := a) (by omega) (by omega)) (nI_le (a := a) (b := 31) (by omega) (by omega))))
  refine lv_aload_n hx hb d_TM_cell_22 rfl (lv_at hl 0 rfl) ?_
  refine lv_iload_n hx hb d_TM_cell_23 rfl (lv_at hl 1 rfl) ?_
  refine xq_V (C := R_TM) (As := [.int 1]) (rest := []) ⟨hx, hb, hml, hown, hg⟩ (c_TM_machineOf1 l D cI cZ cJ x0 pL pF t cL cF bA sR sD so soR soC soA ta taR taC taA P F B sr sd Rs Cs As Rt Ct At n k ks kt hs ds es xs ht dt et) m_TM_machineOf q270 sp_TM_machineOf ⟨rfl, rfl⟩ ⟨Nat.le_of_ble_eq_true rfl, Nat.le_of_ble_eq_true rfl⟩ hK hP [0, 1, 2, 3, 4, 5, 6, 7, 8, 9, 10, 11, 12, 13, 14, 15, 16] rfl (va_recv (q0 := 0) hK.1 hP rfl rfl) rfl hl.1 rfl (Nat.le_of_ble_eq_true rfl) d_TM_cell_24 ⟨Nat.zero_le _, Nat.zero_le _⟩ ?_
  refine va_get (D := D) (ci := 4) (v := .ref taC) (C := R_Ta) (T := F_Ta) (N := 9) hx hb hg f_Ta hown hK.1 hP 13 rfl rfl 2 (by decide) (hg _ q88) (fun _ h9 => h9) rfl d_TM_cell_27 ?_
  refine lv_iload_n hx hb d_TM_cell_30 rfl (lv_at hl 2 rfl) ?_
  refine xa_ld hx hb hK hP 15 0 rfl rfl (kx := a) (rfl) (by omega) (by decide) d_TM_cell_31 ?_
  exact W.iret (v := Ct a) hx hb hr (fun t9 ht9 hW9 => ⟨Ct a, rfl, rfl, ht9⟩) (fun _ h => by cases h) d_TM_cell_32

set_option maxHeartbeats 4000000 in
set_option maxRecDepth 100000 in
theorem c_TM_access1 (l : Launch) (D : va_G) (cI cZ cJ : ClassId) (x0 pL pF t cL cF bA sR sD so soR soC soA ta taR taC taA : Nat) (P F B sr sd Rs Cs As Rt Ct At : Nat → Int32) (n k ks kt : Nat) (hs ds es xs ht dt et : Int32) (q w : Nat) (hkp : kt ≤ 40) (hq : q < kt) (hw : w < 3) : xr_Met l y_TM_access b_TM_access 5 (some .int) { frames := 1, cells := 0, slots := 0, locals := 22 } [.ref x0, .int 1, .int (nI q), .int (nI w)] (xb D cls [(x0, .inr (0, [.ref pL, .ref t, .ref sR, .ref sD, .ref so, .ref ta])), (pL, .inr (1, [.ref pF, .int (nI n)])), (pF, .inl (cI, 96, .inl P)), (t, .inr (2, [.ref pL, .ref cL, .ref bA])), (cL, .inr (1, [.ref cF, .int (nI k)])), (cF, .inl (cI, 868, .inl F)), (bA, .inl (cI, 25, .inl B)), (sR, .inl (cI, 8, .inl sr)), (sD, .inl (cI, 32, .inl sd)), (so, .inr (3, [.ref pL, .ref soR, .ref soC, .ref soA, .int (nI ks), .int hs, .int ds, .int es, .int xs])), (soR, .inl (cI, 8, .inl Rs)), (soC, .inl (cI, 32, .inl Cs)), (soA, .inl (cI, 120, .inl As)), (ta, .inr (4, [.ref cL, .ref taR, .ref taC, .ref taA, .int (nI kt), .int ht, .int dt, .int et, .ref t])), (taR, .inl (cI, 8, .inl Rt)), (taC, .inl (cI, 64, .inl Ct)), (taA, .inl (cI, 120, .inl At))] (tyL cI cZ cJ)) (At (q * 3 + w)) := by
  refine Met.ofW (cc := b_TM_access) (maxL := 5) (ret := (some .int)) (by decide) rfl ?_
  intro p e s m args below meth c s₁ B0 hml hv
  obtain ⟨rfl, hP, hK⟩ := hv
  have hx := B0.exec
  have hb := B0.bytes
  have hr := B0.returns
  have hlocks := B0.notSynchronized
  have hg : ∀ w ∈ gG, w.before _ s = true := fun w h => atoms_spec B0.pre w (List.mem_cons_of_mem _ h)
  have hown : s.vm.findClass R_TM = some m.cls := findClass_of_methodNamed B0.named
  have hP : va_P D cls [(x0, .inr (0, [.ref pL, .ref t, .ref sR, .ref sD, .ref so, .ref ta])), (pL, .inr (1, [.ref pF, .int (nI n)])), (pF, .inl (cI, 96, .inl P)), (t, .inr (2, [.ref pL, .ref cL, .ref bA])), (cL, .inr (1, [.ref cF, .int (nI k)])), (cF, .inl (cI, 868, .inl F)), (bA, .inl (cI, 25, .inl B)), (sR, .inl (cI, 8, .inl sr)), (sD, .inl (cI, 32, .inl sd)), (so, .inr (3, [.ref pL, .ref soR, .ref soC, .ref soA, .int (nI ks), .int hs, .int ds, .int es, .int xs])), (soR, .inl (cI, 8, .inl Rs)), (soC, .inl (cI, 32, .inl Cs)), (soA, .inl (cI, 120, .inl As)), (ta, .inr (4, [.ref cL, .ref taR, .ref taC, .ref taA, .int (nI kt), .int ht, .int dt, .int et, .ref t])), (taR, .inl (cI, 8, .inl Rt)), (taC, .inl (cI, 64, .inl Ct)), (taA, .inl (cI, 120, .inl At))] s.heap := hP
  have hl := lv_entry ([.ref x0, .int 1, .int (nI q), .int (nI w)]) (n := 5) (Nat.le_of_ble_eq_true rfl)
  rw [lg_entry_eq]
  generalize (lg_sl ([.ref x0, .int 1, .int (nI q), .int (nI w)]) ++ List.replicate (5 - (lg_sl ([.ref x0, .int 1, .int (nI q), .int (nI w)])).length) Slot.unset).toArray = ls at hl ⊢
  have hl : lv_has ls 5 [(0, .ref x0), (1, .int 1), (2, .int (nI q)), (3, .int (nI w))] := hl
  refine lv_iload_n hx hb d_TM_access_0 rfl (lv_at hl 1 rfl) ?_
  refine xr_S (As := [.int 1]) (rest := []) ⟨hx, hb, hml, hown, hg⟩ (c_TM_isMachine l D cI cZ cJ 1) m_TM_isMachine q267 ⟨rfl, rfl⟩ ⟨Nat.le_of_ble_eq_true rfl, Nat.le_of_ble_eq_true rfl⟩ hK hP [] rfl rfl hl.1 rfl (Nat.le_of_ble_eq_true rfl) d_TM_access_1 ⟨Nat.zero_le _, Nat.zero_le _⟩ ?_
  refine lv_if_eq (tgt := 16) hx hb d_TM_access_4 rfl (fun hz9 => absurd hz9 (by decide)) (fun _ => ?_)
  refine lv_iload_n hx hb d_TM_access_7 rfl (lv_at hl 3 rfl) ?_
  refine lv_iconst (v := 0) hx hb d_TM_access_8 (by decide) ?_
  refine lv_iconst (v := 2) hx hb d_TM_access_9 (by decide) ?_
  refine xr_S (As := [.int (nI w), .int 0, .int 2]) (rest := []) ⟨hx, hb, hml, hown, hg⟩ (c_TM_isWithin l D cI cZ cJ (nI w) 0 2) m_TM_isWithin q274 ⟨rfl, rfl⟩ ⟨Nat.le_of_ble_eq_true rfl, Nat.le_of_ble_eq_true rfl⟩ hK hP [] rfl rfl hl.1 rfl (Nat.le_of_ble_eq_true rfl) d_TM_access_10 ⟨Nat.zero_le _, Nat.zero_le _⟩ ?_
  refine lv_if_ne (tgt := 24) hx hb d_TM_access_13 rfl (fun _ => ?_) (fun hz9 => absurd hz9 (tm_wi_y (nI_le (a := 0) (b := w) (by omega) (by omega)) (nI_le (a := w) (b := 2) (by omega) (by omega))))
  refine lv_aload_n hx hb d_TM_access_24 rfl (lv_at hl 0 rfl) ?_
  refine lv_iload_n hx hb d_TM_access_25 rfl (lv_at hl 1 rfl) ?_
  refine xq_V (C := R_TM) (As := [.int 1]) (rest := []) ⟨hx, hb, hml, hown, hg⟩ (c_TM_machineOf1 l D cI cZ cJ x0 pL pF t cL cF bA sR sD so soR soC soA ta taR taC taA P F B sr sd Rs Cs As Rt Ct At n k ks kt hs ds es xs ht dt et) m_TM_machineOf q270 sp_TM_machineOf ⟨rfl, rfl⟩ ⟨Nat.le_of_ble_eq_true rfl, Nat.le_of_ble_eq_true rfl⟩ hK hP [0, 1, 2, 3, 4, 5, 6, 7, 8, 9, 10, 11, 12, 13, 14, 15, 16] rfl (va_recv (q0 := 0) hK.1 hP rfl rfl) rfl hl.1 rfl (Nat.le_of_ble_eq_true rfl) d_TM_access_26 ⟨Nat.zero_le _, Nat.zero_le _⟩ ?_
  refine lv_astore hx hb d_TM_access_29 hl (by decide) rfl (fun ls hl => ?_)
  have hl : lv_has ls 5 [(4, .ref ta), (0, .ref x0), (1, .int 1), (2, .int (nI q)), (3, .int (nI w))] := hl
  refine lv_iload_n hx hb d_TM_access_31 rfl (lv_at hl 3 rfl) ?_
  refine lv_iconst (v := 0) hx hb d_TM_access_32 (by decide) ?_
  refine lv_aload hx hb d_TM_access_33 (lv_at hl 0 rfl) ?_
  refine va_get (D := D) (ci := 4) (v := .int (nI kt)) (C := R_Ta) (T := F_Ta) (N := 9) hx hb hg f_Ta hown hK.1 hP 13 rfl rfl 4 (by decide) (hg _ q92) (fun _ h9 => h9) rfl d_TM_access_35 ?_
  refine lv_iconst (v := 1) hx hb d_TM_access_38 (by decide) ?_
  refine lv_isub hx hb d_TM_access_39 ?_
  have eq9 : ((nI kt) - 1 : Int32) = nI (kt - 1) := pk_sub (a := kt) (b := 1) (by omega)
  refine W.eq (g2 := F0 m 40 ls [.int (nI (kt - 1)), .int 0, .int (nI q)]) (by rw [eq9]) ?_
  refine xr_S (As := [.int (nI q), .int 0, .int (nI (kt - 1))]) (rest := []) ⟨hx, hb, hml, hown, hg⟩ (c_TM_isWithin l D cI cZ cJ (nI q) 0 (nI (kt - 1))) m_TM_isWithin q274 ⟨rfl, rfl⟩ ⟨Nat.le_of_ble_eq_true rfl, Nat.le_of_ble_eq_true rfl⟩ hK hP [] rfl rfl hl.1 rfl (Nat.le_of_ble_eq_true rfl) d_TM_access_40 ⟨Nat.zero_le _, Nat.zero_le _⟩ ?_
  refine lv_if_ne (tgt := 54) hx hb d_TM_access_43 rfl (fun _ => ?_) (fun hz9 => absurd hz9 (tm_wi_y (nI_le (a := 0) (b := q) (by omega) (by omega)) (nI_le (a := q) (b := (kt - 1)) (by omega) (by omega))))
  refine lv_aload hx hb d_TM_access_54 (lv_at hl 0 rfl) ?_
  refine va_get (D := D) (ci := 4) (v := .ref taA) (C := R_Ta) (T := F_Ta) (N := 9) hx hb hg f_Ta hown hK.1 hP 13 rfl rfl 3 (by decide) (hg _ q90) (fun _ h9 => h9) rfl d_TM_access_56 ?_
  refine lv_iload_n hx hb d_TM_access_59 rfl (lv_at hl 3 rfl) ?_
  refine lv_iconst (v := 3) hx hb d_TM_access_60 (by decide) ?_
  refine lv_imul hx hb d_TM_access_61 ?_
  have eq9 : ((nI q) * 3 : Int32) = nI (q * 3) := pk_mul q 3
  refine W.eq (g2 := F0 m 62 ls [.int (nI (q * 3)), .ref taA]) (by rw [eq9]) ?_
  refine lv_iload_n hx hb d_TM_access_62 rfl (lv_at hl 4 rfl) ?_
  refine lv_iadd hx hb d_TM_access_63 ?_
  have eq9 : ((nI (q * 3)) + (nI w) : Int32) = nI (q * 3 + w) := nI_add (q * 3) w
  refine W.eq (g2 := F0 m 64 ls [.int (nI (q * 3 + w)), .ref taA]) (by rw [eq9]) ?_
  refine xa_ld hx hb hK hP 16 0 rfl rfl (kx := q * 3 + w) (rfl) (by omega) (by decide) d_TM_access_64 ?_
  exact W.iret (v := At (q * 3 + w)) hx hb hr (fun t9 ht9 hW9 => ⟨At (q * 3 + w), rfl, rfl, ht9⟩) (fun _ h => by cases h) d_TM_access_65

set_option maxHeartbeats 4000000 in
set_option maxRecDepth 100000 in
theorem c_TM_access1_2 (l : Launch) (hL : xe_L l) (D : va_G) (cI cZ cJ : ClassId) (x0 pL pF t cL cF bA sR sD so soR soC soA ta taR taC taA : Nat) (P F B sr sd Rs Cs As Rt Ct At : Nat → Int32) (n k ks kt : Nat) (hs ds es xs ht dt et : Int32) (z w : Int32) (g1 : ¬ tm_wi w 0 2 = 0) (g2 : tm_wi z 0 (nI kt - 1) = 0) : xt_Met l y_TM_access b_TM_access 5 (some .int) { frames := 6, cells := 1, slots := 6, locals := 81 } [.ref x0, .int 1, .int z, .int w] (xtb D cls [(x0, .inr (0, [.ref pL, .ref t, .ref sR, .ref sD, .ref so, .ref ta])), (pL, .inr (1, [.ref pF, .int (nI n)])), (pF, .inl (cI, 96, .inl P)), (t, .inr (2, [.ref pL, .ref cL, .ref bA])), (cL, .inr (1, [.ref cF, .int (nI k)])), (cF, .inl (cI, 868, .inl F)), (bA, .inl (cI, 25, .inl B)), (sR, .inl (cI, 8, .inl sr)), (sD, .inl (cI, 32, .inl sd)), (so, .inr (3, [.ref pL, .ref soR, .ref soC, .ref soA, .int (nI ks), .int hs, .int ds, .int es, .int xs])), (soR, .inl (cI, 8, .inl Rs)), (soC, .inl (cI, 32, .inl Cs)), (soA, .inl (cI, 120, .inl As)), (ta, .inr (4, [.ref cL, .ref taR, .ref taC, .ref taA, .int (nI kt), .int ht, .int dt, .int et, .ref t])), (taR, .inl (cI, 8, .inl Rt)), (taC, .inl (cI, 64, .inl Ct)), (taA, .inl (cI, 120, .inl At))] (tyL cI cZ cJ)) "java/util/NoSuchElementException" := by
  refine xe_ofW (cc := b_TM_access) (maxL := 5) (ret := (some .int)) (by decide) rfl ?_
  intro p e s m args below meth c s₁ B0 hadm hnone hml hv
  obtain ⟨rfl, ⟨hP, hK⟩, hT⟩ := hv
  have hx := B0.exec
  have hb := B0.bytes
  have hr := B0.returns
  have hlocks := B0.notSynchronized
  have hg : ∀ w ∈ gG, w.before _ s = true := fun w h => atoms_spec B0.pre w (List.mem_cons_of_mem _ h)
  have hown : s.vm.findClass R_TM = some m.cls := findClass_of_methodNamed B0.named
  have hP : va_P D cls [(x0, .inr (0, [.ref pL, .ref t, .ref sR, .ref sD, .ref so, .ref ta])), (pL, .inr (1, [.ref pF, .int (nI n)])), (pF, .inl (cI, 96, .inl P)), (t, .inr (2, [.ref pL, .ref cL, .ref bA])), (cL, .inr (1, [.ref cF, .int (nI k)])), (cF, .inl (cI, 868, .inl F)), (bA, .inl (cI, 25, .inl B)), (sR, .inl (cI, 8, .inl sr)), (sD, .inl (cI, 32, .inl sd)), (so, .inr (3, [.ref pL, .ref soR, .ref soC, .ref soA, .int (nI ks), .int hs, .int ds, .int es, .int xs])), (soR, .inl (cI, 8, .inl Rs)), (soC, .inl (cI, 32, .inl Cs)), (soA, .inl (cI, 120, .inl As)), (ta, .inr (4, [.ref cL, .ref taR, .ref taC, .ref taA, .int (nI kt), .int ht, .int dt, .int et, .ref t])), (taR, .inl (cI, 8, .inl Rt)), (taC, .inl (cI, 64, .inl Ct)), (taA, .inl (cI, 120, .inl At))] s.heap := hP
  have hl := lv_entry ([.ref x0, .int 1, .int z, .int w]) (n := 5) (Nat.le_of_ble_eq_true rfl)
  rw [lg_entry_eq]
  generalize (lg_sl ([.ref x0, .int 1, .int z, .int w]) ++ List.replicate (5 - (lg_sl ([.ref x0, .int 1, .int z, .int w])).length) Slot.unset).toArray = ls at hl ⊢
  have hl : lv_has ls 5 [(0, .ref x0), (1, .int 1), (2, .int z), (3, .int w)] := hl
  refine lv_iload_n hx hb d_TM_access_0 rfl (lv_at hl 1 rfl) ?_
  refine xr_S (As := [.int 1]) (rest := []) ⟨hx, hb, hml, hown, hg⟩ (c_TM_isMachine l D cI cZ cJ 1) m_TM_isMachine q267 ⟨rfl, rfl⟩ ⟨Nat.le_of_ble_eq_true rfl, Nat.le_of_ble_eq_true rfl⟩ hK hP [] rfl rfl hl.1 rfl (Nat.le_of_ble_eq_true rfl) d_TM_access_1 ⟨Nat.zero_le _, Nat.zero_le _⟩ ?_
  refine lv_if_eq (tgt := 16) hx hb d_TM_access_4 rfl (fun hz9 => absurd hz9 (by decide)) (fun _ => ?_)
  refine lv_iload_n hx hb d_TM_access_7 rfl (lv_at hl 3 rfl) ?_
  refine lv_iconst (v := 0) hx hb d_TM_access_8 (by decide) ?_
  refine lv_iconst (v := 2) hx hb d_TM_access_9 (by decide) ?_
  refine xr_S (As := [.int w, .int 0, .int 2]) (rest := []) ⟨hx, hb, hml, hown, hg⟩ (c_TM_isWithin l D cI cZ cJ w 0 2) m_TM_isWithin q274 ⟨rfl, rfl⟩ ⟨Nat.le_of_ble_eq_true rfl, Nat.le_of_ble_eq_true rfl⟩ hK hP [] rfl rfl hl.1 rfl (Nat.le_of_ble_eq_true rfl) d_TM_access_10 ⟨Nat.zero_le _, Nat.zero_le _⟩ ?_
  refine lv_if_ne (tgt := 24) hx hb d_TM_access_13 rfl (fun _ => ?_) (fun hz9 => absurd hz9 (g1))
  refine lv_aload_n hx hb d_TM_access_24 rfl (lv_at hl 0 rfl) ?_
  refine lv_iload_n hx hb d_TM_access_25 rfl (lv_at hl 1 rfl) ?_
  refine xq_V (C := R_TM) (As := [.int 1]) (rest := []) ⟨hx, hb, hml, hown, hg⟩ (c_TM_machineOf1 l D cI cZ cJ x0 pL pF t cL cF bA sR sD so soR soC soA ta taR taC taA P F B sr sd Rs Cs As Rt Ct At n k ks kt hs ds es xs ht dt et) m_TM_machineOf q270 sp_TM_machineOf ⟨rfl, rfl⟩ ⟨Nat.le_of_ble_eq_true rfl, Nat.le_of_ble_eq_true rfl⟩ hK hP [0, 1, 2, 3, 4, 5, 6, 7, 8, 9, 10, 11, 12, 13, 14, 15, 16] rfl (va_recv (q0 := 0) hK.1 hP rfl rfl) rfl hl.1 rfl (Nat.le_of_ble_eq_true rfl) d_TM_access_26 ⟨Nat.zero_le _, Nat.zero_le _⟩ ?_
  refine lv_astore hx hb d_TM_access_29 hl (by decide) rfl (fun ls hl => ?_)
  have hl : lv_has ls 5 [(4, .ref ta), (0, .ref x0), (1, .int 1), (2, .int z), (3, .int w)] := hl
  refine lv_iload_n hx hb d_TM_access_31 rfl (lv_at hl 3 rfl) ?_
  refine lv_iconst (v := 0) hx hb d_TM_access_32 (by decide) ?_
  refine lv_aload hx hb d_TM_access_33 (lv_at hl 0 rfl) ?_
  refine va_get (D := D) (ci := 4) (v := .int (nI kt)) (C := R_Ta) (T := F_Ta) (N := 9) hx hb hg f_Ta hown hK.1 hP 13 rfl rfl 4 (by decide) (hg _ q92) (fun _ h9 => h9) rfl d_TM_access_35 ?_
  refine lv_iconst (v := 1) hx hb d_TM_access_38 (by decide) ?_
  refine lv_isub hx hb d_TM_access_39 ?_
  refine xr_S (As := [.int z, .int 0, .int ((nI kt) - 1)]) (rest := []) ⟨hx, hb, hml, hown, hg⟩ (c_TM_isWithin l D cI cZ cJ z 0 ((nI kt) - 1)) m_TM_isWithin q274 ⟨rfl, rfl⟩ ⟨Nat.le_of_ble_eq_true rfl, Nat.le_of_ble_eq_true rfl⟩ hK hP [] rfl rfl hl.1 rfl (Nat.le_of_ble_eq_true rfl) d_TM_access_40 ⟨Nat.zero_le _, Nat.zero_le _⟩ ?_
  refine lv_if_ne (tgt := 54) hx hb d_TM_access_43 rfl (fun hz9 => absurd (g2) hz9) (fun _ => ?_)
  exact xe_new (names := ["java/lang/RuntimeException", "java/lang/Exception"]) hx hb (hL e hadm) hnone hlocks hml hl.1 hown (hg _ q383) (hg _ q14) (by decide) (by decide) (xt_nse hg hT) d_TM_access_46 d_TM_access_49 d_TM_access_50 d_TM_access_53 (Nat.le_of_ble_eq_true rfl) (Nat.le_of_ble_eq_true rfl) (Nat.le_of_ble_eq_true rfl) (Nat.le_of_ble_eq_true rfl)

set_option maxHeartbeats 4000000 in
set_option maxRecDepth 100000 in
theorem c_TM_result_no (l : Launch) (D : va_G) (cI cZ cJ : ClassId) (x0 pL pF t cL cF bA sR sD so soR soC soA ta taR taC taA : Nat) (P F B sr sd Rs Cs As Rt Ct At : Nat → Int32) (n k ks kt : Nat) (hs ds es xs ht dt et : Int32) (y z : Int32) (g1 : tm_im y = 0) : xr_Met l y_TM_result b_TM_result 4 (some .int) { frames := 1, cells := 0, slots := 0, locals := 20 } [.ref x0, .int y, .int z] (xb D cls [(x0, .inr (0, [.ref pL, .ref t, .ref sR, .ref sD, .ref so, .ref ta])), (pL, .inr (1, [.ref pF, .int (nI n)])), (pF, .inl (cI, 96, .inl P)), (t, .inr (2, [.ref pL, .ref cL, .ref bA])), (cL, .inr (1, [.ref cF, .int (nI k)])), (cF, .inl (cI, 868, .inl F)), (bA, .inl (cI, 25, .inl B)), (sR, .inl (cI, 8, .inl sr)), (sD, .inl (cI, 32, .inl sd)), (so, .inr (3, [.ref pL, .ref soR, .ref soC, .ref soA, .int (nI ks), .int hs, .int ds, .int es, .int xs])), (soR, .inl (cI, 8, .inl Rs)), (soC, .inl (cI, 32, .inl Cs)), (soA, .inl (cI, 120, .inl As)), (ta, .inr (4, [.ref cL, .ref taR, .ref taC, .ref taA, .int (nI kt), .int ht, .int dt, .int et, .ref t])), (taR, .inl (cI, 8, .inl Rt)), (taC, .inl (cI, 64, .inl Ct)), (taA, .inl (cI, 120, .inl At))] (tyL cI cZ cJ)) (-1) := by
  refine Met.ofW (cc := b_TM_result) (maxL := 4) (ret := (some .int)) (by decide) rfl ?_
  intro p e s m args below meth c s₁ B0 hml hv
  obtain ⟨rfl, hP, hK⟩ := hv
  have hx := B0.exec
  have hb := B0.bytes
  have hr := B0.returns
  have hlocks := B0.notSynchronized
  have hg : ∀ w ∈ gG, w.before _ s = true := fun w h => atoms_spec B0.pre w (List.mem_cons_of_mem _ h)
  have hown : s.vm.findClass R_TM = some m.cls := findClass_of_methodNamed B0.named
  have hP : va_P D cls [(x0, .inr (0, [.ref pL, .ref t, .ref sR, .ref sD, .ref so, .ref ta])), (pL, .inr (1, [.ref pF, .int (nI n)])), (pF, .inl (cI, 96, .inl P)), (t, .inr (2, [.ref pL, .ref cL, .ref bA])), (cL, .inr (1, [.ref cF, .int (nI k)])), (cF, .inl (cI, 868, .inl F)), (bA, .inl (cI, 25, .inl B)), (sR, .inl (cI, 8, .inl sr)), (sD, .inl (cI, 32, .inl sd)), (so, .inr (3, [.ref pL, .ref soR, .ref soC, .ref soA, .int (nI ks), .int hs, .int ds, .int es, .int xs])), (soR, .inl (cI, 8, .inl Rs)), (soC, .inl (cI, 32, .inl Cs)), (soA, .inl (cI, 120, .inl As)), (ta, .inr (4, [.ref cL, .ref taR, .ref taC, .ref taA, .int (nI kt), .int ht, .int dt, .int et, .ref t])), (taR, .inl (cI, 8, .inl Rt)), (taC, .inl (cI, 64, .inl Ct)), (taA, .inl (cI, 120, .inl At))] s.heap := hP
  have hl := lv_entry ([.ref x0, .int y, .int z]) (n := 4) (Nat.le_of_ble_eq_true rfl)
  rw [lg_entry_eq]
  generalize (lg_sl ([.ref x0, .int y, .int z]) ++ List.replicate (4 - (lg_sl ([.ref x0, .int y, .int z])).length) Slot.unset).toArray = ls at hl ⊢
  have hl : lv_has ls 4 [(0, .ref x0), (1, .int y), (2, .int z)] := hl
  refine lv_iload_n hx hb d_TM_result_0 rfl (lv_at hl 1 rfl) ?_
  refine xr_S (As := [.int y]) (rest := []) ⟨hx, hb, hml, hown, hg⟩ (c_TM_isMachine l D cI cZ cJ y) m_TM_isMachine q267 ⟨rfl, rfl⟩ ⟨Nat.le_of_ble_eq_true rfl, Nat.le_of_ble_eq_true rfl⟩ hK hP [] rfl rfl hl.1 rfl (Nat.le_of_ble_eq_true rfl) d_TM_result_1 ⟨Nat.zero_le _, Nat.zero_le _⟩ ?_
  refine lv_if_ne (tgt := 9) hx hb d_TM_result_4 rfl (fun hz9 => absurd (g1) hz9) (fun _ => ?_)
  refine lv_iconst (v := -1) hx hb d_TM_result_7 (by decide) ?_
  exact W.iret (v := -1) hx hb hr (fun t9 ht9 hW9 => ⟨-1, rfl, rfl, ht9⟩) (fun _ h => by cases h) d_TM_result_8

set_option maxHeartbeats 4000000 in
set_option maxRecDepth 100000 in
theorem c_TM_result0 (l : Launch) (D : va_G) (cI cZ cJ : ClassId) (x0 pL pF t cL cF bA sR sD so soR soC soA ta taR taC taA : Nat) (P F B sr sd Rs Cs As Rt Ct At : Nat → Int32) (n k ks kt : Nat) (hs ds es xs ht dt et : Int32) (y : Int32) : xr_Met l y_TM_result b_TM_result 4 (some .int) { frames := 1, cells := 0, slots := 0, locals := 22 } [.ref x0, .int 0, .int y] (xb D cls [(x0, .inr (0, [.ref pL, .ref t, .ref sR, .ref sD, .ref so, .ref ta])), (pL, .inr (1, [.ref pF, .int (nI n)])), (pF, .inl (cI, 96, .inl P)), (t, .inr (2, [.ref pL, .ref cL, .ref bA])), (cL, .inr (1, [.ref cF, .int (nI k)])), (cF, .inl (cI, 868, .inl F)), (bA, .inl (cI, 25, .inl B)), (sR, .inl (cI, 8, .inl sr)), (sD, .inl (cI, 32, .inl sd)), (so, .inr (3, [.ref pL, .ref soR, .ref soC, .ref soA, .int (nI ks), .int hs, .int ds, .int es, .int xs])), (soR, .inl (cI, 8, .inl Rs)), (soC, .inl (cI, 32, .inl Cs)), (soA, .inl (cI, 120, .inl As)), (ta, .inr (4, [.ref cL, .ref taR, .ref taC, .ref taA, .int (nI kt), .int ht, .int dt, .int et, .ref t])), (taR, .inl (cI, 8, .inl Rt)), (taC, .inl (cI, 64, .inl Ct)), (taA, .inl (cI, 120, .inl At))] (tyL cI cZ cJ)) (if tm_wi y 0 7 = 0 then tm_q4 y es hs ds (nI ks) else Rs y.toNatClampNeg) := by
  refine Met.ofW (cc := b_TM_result) (maxL := 4) (ret := (some .int)) (by decide) rfl ?_
  intro p e s m args below meth c s₁ B0 hml hv
  obtain ⟨rfl, hP, hK⟩ := hv
  have hx := B0.exec
  have hb := B0.bytes
  have hr := B0.returns
  have hlocks := B0.notSynchronized
  have hg : ∀ w ∈ gG, w.before _ s = true := fun w h => atoms_spec B0.pre w (List.mem_cons_of_mem _ h)
  have hown : s.vm.findClass R_TM = some m.cls := findClass_of_methodNamed B0.named
  have hP : va_P D cls [(x0, .inr (0, [.ref pL, .ref t, .ref sR, .ref sD, .ref so, .ref ta])), (pL, .inr (1, [.ref pF, .int (nI n)])), (pF, .inl (cI, 96, .inl P)), (t, .inr (2, [.ref pL, .ref cL, .ref bA])), (cL, .inr (1, [.ref cF, .int (nI k)])), (cF, .inl (cI, 868, .inl F)), (bA, .inl (cI, 25, .inl B)), (sR, .inl (cI, 8, .inl sr)), (sD, .inl (cI, 32, .inl sd)), (so, .inr (3, [.ref pL, .ref soR, .ref soC, .ref soA, .int (nI ks), .int hs, .int ds, .int es, .int xs])), (soR, .inl (cI, 8, .inl Rs)), (soC, .inl (cI, 32, .inl Cs)), (soA, .inl (cI, 120, .inl As)), (ta, .inr (4, [.ref cL, .ref taR, .ref taC, .ref taA, .int (nI kt), .int ht, .int dt, .int et, .ref t])), (taR, .inl (cI, 8, .inl Rt)), (taC, .inl (cI, 64, .inl Ct)), (taA, .inl (cI, 120, .inl At))] s.heap := hP
  have hl := lv_entry ([.ref x0, .int 0, .int y]) (n := 4) (Nat.le_of_ble_eq_true rfl)
  rw [lg_entry_eq]
  generalize (lg_sl ([.ref x0, .int 0, .int y]) ++ List.replicate (4 - (lg_sl ([.ref x0, .int 0, .int y])).length) Slot.unset).toArray = ls at hl ⊢
  have hl : lv_has ls 4 [(0, .ref x0), (1, .int 0), (2, .int y)] := hl
  refine lv_iload_n hx hb d_TM_result_0 rfl (lv_at hl 1 rfl) ?_
  refine xr_S (As := [.int 0]) (rest := []) ⟨hx, hb, hml, hown, hg⟩ (c_TM_isMachine l D cI cZ cJ 0) m_TM_isMachine q267 ⟨rfl, rfl⟩ ⟨Nat.le_of_ble_eq_true rfl, Nat.le_of_ble_eq_true rfl⟩ hK hP [] rfl rfl hl.1 rfl (Nat.le_of_ble_eq_true rfl) d_TM_result_1 ⟨Nat.zero_le _, Nat.zero_le _⟩ ?_
  refine lv_if_ne (tgt := 9) hx hb d_TM_result_4 rfl (fun _ => ?_) (fun hz9 => absurd hz9 (by decide))
  refine lv_aload_n hx hb d_TM_result_9 rfl (lv_at hl 0 rfl) ?_
  refine lv_iload_n hx hb d_TM_result_10 rfl (lv_at hl 1 rfl) ?_
  refine xq_V (C := R_TM) (As := [.int 0]) (rest := []) ⟨hx, hb, hml, hown, hg⟩ (c_TM_machineOf0 l D cI cZ cJ x0 pL pF t cL cF bA sR sD so soR soC soA ta taR taC taA P F B sr sd Rs Cs As Rt Ct At n k ks kt hs ds es xs ht dt et) m_TM_machineOf q270 sp_TM_machineOf ⟨rfl, rfl⟩ ⟨Nat.le_of_ble_eq_true rfl, Nat.le_of_ble_eq_true rfl⟩ hK hP [0, 1, 2, 3, 4, 5, 6, 7, 8, 9, 10, 11, 12, 13, 14, 15, 16] rfl (va_recv (q0 := 0) hK.1 hP rfl rfl) rfl hl.1 rfl (Nat.le_of_ble_eq_true rfl) d_TM_result_11 ⟨Nat.zero_le _, Nat.zero_le _⟩ ?_
  refine lv_astore_n hx hb d_TM_result_14 rfl hl (by decide) rfl (fun ls hl => ?_)
  have hl : lv_has ls 4 [(3, .ref so), (0, .ref x0), (1, .int 0), (2, .int y)] := hl
  refine lv_iload_n hx hb d_TM_result_15 rfl (lv_at hl 3 rfl) ?_
  refine lv_iconst (v := 0) hx hb d_TM_result_16 (by decide) ?_
  refine lv_bipush (v := 7) hx hb d_TM_result_17 (by decide) ?_
  refine xr_S (As := [.int y, .int 0, .int 7]) (rest := []) ⟨hx, hb, hml, hown, hg⟩ (c_TM_isWithin l D cI cZ cJ y 0 7) m_TM_isWithin q274 ⟨rfl, rfl⟩ ⟨Nat.le_of_ble_eq_true rfl, Nat.le_of_ble_eq_true rfl⟩ hK hP [] rfl rfl hl.1 rfl (Nat.le_of_ble_eq_true rfl) d_TM_result_19 ⟨Nat.zero_le _, Nat.zero_le _⟩ ?_
  refine lv_if_eq (tgt := 31) hx hb d_TM_result_22 rfl (fun hw => ?_) (fun hw => ?_)
  · refine lv_iload_n hx hb d_TM_result_31 rfl (lv_at hl 3 rfl) ?_
    by_cases h8 : y = 8
    · refine lv_tableIn (x := y) (off := 32) (tgt := 64) hx hb d_TM_result_32 (by rw [h8]; decide) (by rw [h8]; decide) (by rw [h8]; rfl) rfl ?_
      refine lv_aload_n hx hb d_TM_result_64 rfl (lv_at hl 0 rfl) ?_
      refine va_get (D := D) (ci := 3) (v := .int es) (C := R_So) (T := F_So) (N := 9) hx hb hg f_So hown hK.1 hP 9 rfl rfl 7 (by decide) (hg _ q102) (fun _ h9 => h9) rfl d_TM_result_65 ?_
      exact W.iret (v := es) hx hb hr (fun t9 ht9 hW9 => ⟨es, rfl, by rw [if_pos hw]; simp [tm_q4, h8], ht9⟩) (fun _ h => by cases h) d_TM_result_68
    by_cases h9 : y = 9
    · refine lv_tableIn (x := y) (off := 37) (tgt := 69) hx hb d_TM_result_32 (by rw [h9]; decide) (by rw [h9]; decide) (by rw [h9]; rfl) rfl ?_
      refine lv_aload_n hx hb d_TM_result_69 rfl (lv_at hl 0 rfl) ?_
      refine va_get (D := D) (ci := 3) (v := .int hs) (C := R_So) (T := F_So) (N := 9) hx hb hg f_So hown hK.1 hP 9 rfl rfl 5 (by decide) (hg _ q98) (fun _ h9 => h9) rfl d_TM_result_70 ?_
      exact W.iret (v := hs) hx hb hr (fun t9 ht9 hW9 => ⟨hs, rfl, by rw [if_pos hw]; simp [tm_q4, h8, h9], ht9⟩) (fun _ h => by cases h) d_TM_result_73
    by_cases h10 : y = 10
    · refine lv_tableIn (x := y) (off := 42) (tgt := 74) hx hb d_TM_result_32 (by rw [h10]; decide) (by rw [h10]; decide) (by rw [h10]; rfl) rfl ?_
      refine lv_aload_n hx hb d_TM_result_74 rfl (lv_at hl 0 rfl) ?_
      refine va_get (D := D) (ci := 3) (v := .int ds) (C := R_So) (T := F_So) (N := 9) hx hb hg f_So hown hK.1 hP 9 rfl rfl 6 (by decide) (hg _ q100) (fun _ h9 => h9) rfl d_TM_result_75 ?_
      exact W.iret (v := ds) hx hb hr (fun t9 ht9 hW9 => ⟨ds, rfl, by rw [if_pos hw]; simp [tm_q4, h8, h9, h10], ht9⟩) (fun _ h => by cases h) d_TM_result_78
    by_cases h11 : y = 11
    · refine lv_tableIn (x := y) (off := 47) (tgt := 79) hx hb d_TM_result_32 (by rw [h11]; decide) (by rw [h11]; decide) (by rw [h11]; rfl) rfl ?_
      refine lv_aload_n hx hb d_TM_result_79 rfl (lv_at hl 0 rfl) ?_
      refine va_get (D := D) (ci := 3) (v := .int (nI ks)) (C := R_So) (T := F_So) (N := 9) hx hb hg f_So hown hK.1 hP 9 rfl rfl 4 (by decide) (hg _ q92) (fun _ h9 => h9) rfl d_TM_result_80 ?_
      exact W.iret (v := nI ks) hx hb hr (fun t9 ht9 hW9 => ⟨nI ks, rfl, by rw [if_pos hw]; simp [tm_q4, h8, h9, h10, h11], ht9⟩) (fun _ h => by cases h) d_TM_result_83
    refine lv_tableOut (x := y) (tgt := 84) hx hb d_TM_result_32 (xn_q4 h8 h9 h10 h11) rfl ?_
    refine lv_iconst (v := -1) hx hb d_TM_result_84 (by decide) ?_
    exact W.iret (v := -1) hx hb hr (fun t9 ht9 hW9 => ⟨-1, rfl, by rw [if_pos hw]; simp [tm_q4, h8, h9, h10, h11], ht9⟩) (fun _ h => by cases h) d_TM_result_85
  · obtain ⟨q, hq7, hyq⟩ := nI_of2 (M := 7) (n := 7) rfl (Int32.not_lt.mpr (tm_wi_n hw).1) (tm_wi_n hw).2
    have hcy : y.toNatClampNeg = q := by rw [hyq]; exact nI_clamp (by omega)
    refine lv_aload_n hx hb d_TM_result_25 rfl (lv_at hl 0 rfl) ?_
    refine lv_iload_n hx hb d_TM_result_26 rfl (lv_at hl 3 rfl) ?_
    have eq9 : (y : Int32) = nI q := hyq
    refine W.eq (g2 := F0 m 27 ls [.int (nI q), .ref so]) (by rw [eq9]) ?_
    refine xr_U (C := R_So) (As := [.int (nI q)]) (rest := []) ⟨hx, hb, hml, hown, hg⟩ (c_So_sourceRegister l D cI cZ cJ so pL soR soC soA pF Rs Cs As P n ks ds es xs hs q (by omega)) (xg_U (x := ⟨"TwoMachines$Machine", "sourceRegister", "(I)I"⟩) (owner := R_Ma) hg m_So_sourceRegister q277 q279 hK.2.1 q280 ⟨by decide, by decide, by decide +kernel⟩ rfl rfl ⟨Nat.le_of_ble_eq_true rfl, Nat.le_of_ble_eq_true rfl⟩) hK hP [9, 10, 11, 12, 1, 2] rfl (va_recv (q0 := 9) hK.1 hP rfl rfl) rfl hl.1 rfl (Nat.le_of_ble_eq_true rfl) d_TM_result_27 ⟨Nat.zero_le _, Nat.zero_le _⟩ ?_
    exact W.iret (v := Rs q) hx hb hr (fun t9 ht9 hW9 => ⟨Rs q, rfl, by simp [hw, hcy], ht9⟩) (fun _ h => by cases h) d_TM_result_30

set_option maxHeartbeats 4000000 in
set_option maxRecDepth 100000 in
theorem c_TM_result1 (l : Launch) (D : va_G) (cI cZ cJ : ClassId) (x0 pL pF t cL cF bA sR sD so soR soC soA ta taR taC taA : Nat) (P F B sr sd Rs Cs As Rt Ct At : Nat → Int32) (n k ks kt : Nat) (hs ds es xs ht dt et : Int32) (y : Int32) : xr_Met l y_TM_result b_TM_result 4 (some .int) { frames := 1, cells := 0, slots := 0, locals := 22 } [.ref x0, .int 1, .int y] (xb D cls [(x0, .inr (0, [.ref pL, .ref t, .ref sR, .ref sD, .ref so, .ref ta])), (pL, .inr (1, [.ref pF, .int (nI n)])), (pF, .inl (cI, 96, .inl P)), (t, .inr (2, [.ref pL, .ref cL, .ref bA])), (cL, .inr (1, [.ref cF, .int (nI k)])), (cF, .inl (cI, 868, .inl F)), (bA, .inl (cI, 25, .inl B)), (sR, .inl (cI, 8, .inl sr)), (sD, .inl (cI, 32, .inl sd)), (so, .inr (3, [.ref pL, .ref soR, .ref soC, .ref soA, .int (nI ks), .int hs, .int ds, .int es, .int xs])), (soR, .inl (cI, 8, .inl Rs)), (soC, .inl (cI, 32, .inl Cs)), (soA, .inl (cI, 120, .inl As)), (ta, .inr (4, [.ref cL, .ref taR, .ref taC, .ref taA, .int (nI kt), .int ht, .int dt, .int et, .ref t])), (taR, .inl (cI, 8, .inl Rt)), (taC, .inl (cI, 64, .inl Ct)), (taA, .inl (cI, 120, .inl At))] (tyL cI cZ cJ)) (if tm_wi y 0 7 = 0 then tm_q4 y et ht dt (nI kt) else (if y.toNatClampNeg < 4 then Rt y.toNatClampNeg else Ct (32 + y.toNatClampNeg))) := by
  refine Met.ofW (cc := b_TM_result) (maxL := 4) (ret := (some .int)) (by decide) rfl ?_
  intro p e s m args below meth c s₁ B0 hml hv
  obtain ⟨rfl, hP, hK⟩ := hv
  have hx := B0.exec
  have hb := B0.bytes
  have hr := B0.returns
  have hlocks := B0.notSynchronized
  have hg : ∀ w ∈ gG, w.before _ s = true := fun w h => atoms_spec B0.pre w (List.mem_cons_of_mem _ h)
  have hown : s.vm.findClass R_TM = some m.cls := findClass_of_methodNamed B0.named
  have hP : va_P D cls [(x0, .inr (0, [.ref pL, .ref t, .ref sR, .ref sD, .ref so, .ref ta])), (pL, .inr (1, [.ref pF, .int (nI n)])), (pF, .inl (cI, 96, .inl P)), (t, .inr (2, [.ref pL, .ref cL, .ref bA])), (cL, .inr (1, [.ref cF, .int (nI k)])), (cF, .inl (cI, 868, .inl F)), (bA, .inl (cI, 25, .inl B)), (sR, .inl (cI, 8, .inl sr)), (sD, .inl (cI, 32, .inl sd)), (so, .inr (3, [.ref pL, .ref soR, .ref soC, .ref soA, .int (nI ks), .int hs, .int ds, .int es, .int xs])), (soR, .inl (cI, 8, .inl Rs)), (soC, .inl (cI, 32, .inl Cs)), (soA, .inl (cI, 120, .inl As)), (ta, .inr (4, [.ref cL, .ref taR, .ref taC, .ref taA, .int (nI kt), .int ht, .int dt, .int et, .ref t])), (taR, .inl (cI, 8, .inl Rt)), (taC, .inl (cI, 64, .inl Ct)), (taA, .inl (cI, 120, .inl At))] s.heap := hP
  have hl := lv_entry ([.ref x0, .int 1, .int y]) (n := 4) (Nat.le_of_ble_eq_true rfl)
  rw [lg_entry_eq]
  generalize (lg_sl ([.ref x0, .int 1, .int y]) ++ List.replicate (4 - (lg_sl ([.ref x0, .int 1, .int y])).length) Slot.unset).toArray = ls at hl ⊢
  have hl : lv_has ls 4 [(0, .ref x0), (1, .int 1), (2, .int y)] := hl
  refine lv_iload_n hx hb d_TM_result_0 rfl (lv_at hl 1 rfl) ?_
  refine xr_S (As := [.int 1]) (rest := []) ⟨hx, hb, hml, hown, hg⟩ (c_TM_isMachine l D cI cZ cJ 1) m_TM_isMachine q267 ⟨rfl, rfl⟩ ⟨Nat.le_of_ble_eq_true rfl, Nat.le_of_ble_eq_true rfl⟩ hK hP [] rfl rfl hl.1 rfl (Nat.le_of_ble_eq_true rfl) d_TM_result_1 ⟨Nat.zero_le _, Nat.zero_le _⟩ ?_
  refine lv_if_ne (tgt := 9) hx hb d_TM_result_4 rfl (fun _ => ?_) (fun hz9 => absurd hz9 (by decide))
  refine lv_aload_n hx hb d_TM_result_9 rfl (lv_at hl 0 rfl) ?_
  refine lv_iload_n hx hb d_TM_result_10 rfl (lv_at hl 1 rfl) ?_
  refine xq_V (C := R_TM) (As := [.int 1]) (rest := []) ⟨hx, hb, hml, hown, hg⟩ (c_TM_machineOf1 l D cI cZ cJ x0 pL pF t cL cF bA sR sD so soR soC soA ta taR taC taA P F B sr sd Rs Cs As Rt Ct At n k ks kt hs ds es xs ht dt et) m_TM_machineOf q270 sp_TM_machineOf ⟨rfl, rfl⟩ ⟨Nat.le_of_ble_eq_true rfl, Nat.le_of_ble_eq_true rfl⟩ hK hP [0, 1, 2, 3, 4, 5, 6, 7, 8, 9, 10, 11, 12, 13, 14, 15, 16] rfl (va_recv (q0 := 0) hK.1 hP rfl rfl) rfl hl.1 rfl (Nat.le_of_ble_eq_true rfl) d_TM_result_11 ⟨Nat.zero_le _, Nat.zero_le _⟩ ?_
  refine lv_astore_n hx hb d_TM_result_14 rfl hl (by decide) rfl (fun ls hl => ?_)
  have hl : lv_has ls 4 [(3, .ref ta), (0, .ref x0), (1, .int 1), (2, .int y)] := hl
  refine lv_iload_n hx hb d_TM_result_15 rfl (lv_at hl 3 rfl) ?_
  refine lv_iconst (v := 0) hx hb d_TM_result_16 (by decide) ?_
  refine lv_bipush (v := 7) hx hb d_TM_result_17 (by decide) ?_
  refine xr_S (As := [.int y, .int 0, .int 7]) (rest := []) ⟨hx, hb, hml, hown, hg⟩ (c_TM_isWithin l D cI cZ cJ y 0 7) m_TM_isWithin q274 ⟨rfl, rfl⟩ ⟨Nat.le_of_ble_eq_true rfl, Nat.le_of_ble_eq_true rfl⟩ hK hP [] rfl rfl hl.1 rfl (Nat.le_of_ble_eq_true rfl) d_TM_result_19 ⟨Nat.zero_le _, Nat.zero_le _⟩ ?_
  refine lv_if_eq (tgt := 31) hx hb d_TM_result_22 rfl (fun hw => ?_) (fun hw => ?_)
  · refine lv_iload_n hx hb d_TM_result_31 rfl (lv_at hl 3 rfl) ?_
    by_cases h8 : y = 8
    · refine lv_tableIn (x := y) (off := 32) (tgt := 64) hx hb d_TM_result_32 (by rw [h8]; decide) (by rw [h8]; decide) (by rw [h8]; rfl) rfl ?_
      refine lv_aload_n hx hb d_TM_result_64 rfl (lv_at hl 0 rfl) ?_
      refine va_get (D := D) (ci := 4) (v := .int et) (C := R_Ta) (T := F_Ta) (N := 9) hx hb hg f_Ta hown hK.1 hP 13 rfl rfl 7 (by decide) (hg _ q102) (fun _ h9 => h9) rfl d_TM_result_65 ?_
      exact W.iret (v := et) hx hb hr (fun t9 ht9 hW9 => ⟨et, rfl, by rw [if_pos hw]; simp [tm_q4, h8], ht9⟩) (fun _ h => by cases h) d_TM_result_68
    by_cases h9 : y = 9
    · refine lv_tableIn (x := y) (off := 37) (tgt := 69) hx hb d_TM_result_32 (by rw [h9]; decide) (by rw [h9]; decide) (by rw [h9]; rfl) rfl ?_
      refine lv_aload_n hx hb d_TM_result_69 rfl (lv_at hl 0 rfl) ?_
      refine va_get (D := D) (ci := 4) (v := .int ht) (C := R_Ta) (T := F_Ta) (N := 9) hx hb hg f_Ta hown hK.1 hP 13 rfl rfl 5 (by decide) (hg _ q98) (fun _ h9 => h9) rfl d_TM_result_70 ?_
      exact W.iret (v := ht) hx hb hr (fun t9 ht9 hW9 => ⟨ht, rfl, by rw [if_pos hw]; simp [tm_q4, h8, h9], ht9⟩) (fun _ h => by cases h) d_TM_result_73
    by_cases h10 : y = 10
    · refine lv_tableIn (x := y) (off := 42) (tgt := 74) hx hb d_TM_result_32 (by rw [h10]; decide) (by rw [h10]; decide) (by rw [h10]; rfl) rfl ?_
      refine lv_aload_n hx hb d_TM_result_74 rfl (lv_at hl 0 rfl) ?_
      refine va_get (D := D) (ci := 4) (v := .int dt) (C := R_Ta) (T := F_Ta) (N := 9) hx hb hg f_Ta hown hK.1 hP 13 rfl rfl 6 (by decide) (hg _ q100) (fun _ h9 => h9) rfl d_TM_result_75 ?_
      exact W.iret (v := dt) hx hb hr (fun t9 ht9 hW9 => ⟨dt, rfl, by rw [if_pos hw]; simp [tm_q4, h8, h9, h10], ht9⟩) (fun _ h => by cases h) d_TM_result_78
    by_cases h11 : y = 11
    · refine lv_tableIn (x := y) (off := 47) (tgt := 79) hx hb d_TM_result_32 (by rw [h11]; decide) (by rw [h11]; decide) (by rw [h11]; rfl) rfl ?_
      refine lv_aload_n hx hb d_TM_result_79 rfl (lv_at hl 0 rfl) ?_
      refine va_get (D := D) (ci := 4) (v := .int (nI kt)) (C := R_Ta) (T := F_Ta) (N := 9) hx hb hg f_Ta hown hK.1 hP 13 rfl rfl 4 (by decide) (hg _ q92) (fun _ h9 => h9) rfl d_TM_result_80 ?_
      exact W.iret (v := nI kt) hx hb hr (fun t9 ht9 hW9 => ⟨nI kt, rfl, by rw [if_pos hw]; simp [tm_q4, h8, h9, h10, h11], ht9⟩) (fun _ h => by cases h) d_TM_result_83
    refine lv_tableOut (x := y) (tgt := 84) hx hb d_TM_result_32 (xn_q4 h8 h9 h10 h11) rfl ?_
    refine lv_iconst (v := -1) hx hb d_TM_result_84 (by decide) ?_
    exact W.iret (v := -1) hx hb hr (fun t9 ht9 hW9 => ⟨-1, rfl, by rw [if_pos hw]; simp [tm_q4, h8, h9, h10, h11], ht9⟩) (fun _ h => by cases h) d_TM_result_85
  · obtain ⟨q, hq7, hyq⟩ := nI_of2 (M := 7) (n := 7) rfl (Int32.not_lt.mpr (tm_wi_n hw).1) (tm_wi_n hw).2
    have hcy : y.toNatClampNeg = q := by rw [hyq]; exact nI_clamp (by omega)
    refine lv_aload_n hx hb d_TM_result_25 rfl (lv_at hl 0 rfl) ?_
    refine lv_iload_n hx hb d_TM_result_26 rfl (lv_at hl 3 rfl) ?_
    have eq9 : (y : Int32) = nI q := hyq
    refine W.eq (g2 := F0 m 27 ls [.int (nI q), .ref ta]) (by rw [eq9]) ?_
    refine xr_U (C := R_Ta) (As := [.int (nI q)]) (rest := []) ⟨hx, hb, hml, hown, hg⟩ (c_Ta_sourceRegister l D cI cZ cJ ta cL taR taC taA cF t Rt Ct At F k kt dt et ht q (by omega)) (xg_U (x := ⟨"TwoMachines$Machine", "sourceRegister", "(I)I"⟩) (owner := R_Ma) hg m_Ta_sourceRegister q277 q279 hK.2.1 q283 ⟨by decide, by decide, by decide +kernel⟩ rfl rfl ⟨Nat.le_of_ble_eq_true rfl, Nat.le_of_ble_eq_true rfl⟩) hK hP [13, 14, 15, 16, 4, 5] rfl (va_recv (q0 := 13) hK.1 hP rfl rfl) rfl hl.1 rfl (Nat.le_of_ble_eq_true rfl) d_TM_result_27 ⟨Nat.zero_le _, Nat.zero_le _⟩ ?_
    exact W.iret (v := if q < 4 then Rt q else Ct (32 + q)) hx hb hr (fun t9 ht9 hW9 => ⟨if q < 4 then Rt q else Ct (32 + q), rfl, by simp [hw, hcy], ht9⟩) (fun _ h => by cases h) d_TM_result_30

set_option maxHeartbeats 4000000 in
set_option maxRecDepth 100000 in
theorem c_TM_run0 (l : Launch) (D : va_G) (cI cZ cJ : ClassId) (x0 pL pF t cL cF bA sR sD so soR soC soA ta taR taC taA : Nat) (P F B sr sd Rs Cs As Rt Ct At : Nat → Int32) (n k ks kt : Nat) (hs ds es xs ht dt et : Int32) (lim : Nat) (hlim : lim ≤ 2000) (hn : n ≤ 24) (hiv : tm_iv P n) : xi_Met l y_TM_run b_TM_run 4 (some .int) { frames := 6, cells := 0, slots := 0, locals := 133 } [.ref x0, .int 0, .int (nI lim)] D cls (tyL cI cZ cJ) [(x0, .inr (0, [.ref pL, .ref t, .ref sR, .ref sD, .ref so, .ref ta])), (pL, .inr (1, [.ref pF, .int (nI n)])), (pF, .inl (cI, 96, .inl P)), (t, .inr (2, [.ref pL, .ref cL, .ref bA])), (cL, .inr (1, [.ref cF, .int (nI k)])), (cF, .inl (cI, 868, .inl F)), (bA, .inl (cI, 25, .inl B)), (sR, .inl (cI, 8, .inl sr)), (sD, .inl (cI, 32, .inl sd)), (so, .inr (3, [.ref pL, .ref soR, .ref soC, .ref soA, .int (nI ks), .int hs, .int ds, .int es, .int xs])), (soR, .inl (cI, 8, .inl Rs)), (soC, .inl (cI, 32, .inl Cs)), (soA, .inl (cI, 120, .inl As)), (ta, .inr (4, [.ref cL, .ref taR, .ref taC, .ref taA, .int (nI kt), .int ht, .int dt, .int et, .ref t])), (taR, .inl (cI, 8, .inl Rt)), (taC, .inl (cI, 64, .inl Ct)), (taA, .inl (cI, 120, .inl At))] [(x0, .inr (0, [.ref pL, .ref t, .ref sR, .ref sD, .ref so, .ref ta])), (pL, .inr (1, [.ref pF, .int (nI n)])), (pF, .inl (cI, 96, .inl P)), (t, .inr (2, [.ref pL, .ref cL, .ref bA])), (cL, .inr (1, [.ref cF, .int (nI k)])), (cF, .inl (cI, 868, .inl F)), (bA, .inl (cI, 25, .inl B)), (sR, .inl (cI, 8, .inl sr)), (sD, .inl (cI, 32, .inl sd)), (so, .inr (3, [.ref pL, .ref soR, .ref soC, .ref soA, .int (nI (tm_run tm_ss P n lim (sr, tm_c0 sd, As, 0, 0, 0, 0, 1)).2.2.2.1), .int ((tm_run tm_ss P n lim (sr, tm_c0 sd, As, 0, 0, 0, 0, 1)).2.2.2.2.1), .int ((tm_run tm_ss P n lim (sr, tm_c0 sd, As, 0, 0, 0, 0, 1)).2.2.2.2.2.1), .int ((tm_run tm_ss P n lim (sr, tm_c0 sd, As, 0, 0, 0, 0, 1)).2.2.2.2.2.2.1), .int ((tm_run tm_ss P n lim (sr, tm_c0 sd, As, 0, 0, 0, 0, 1)).2.2.2.2.2.2.2)])), (soR, .inl (cI, 8, .inl ((tm_run tm_ss P n lim (sr, tm_c0 sd, As, 0, 0, 0, 0, 1)).1))), (soC, .inl (cI, 32, .inl ((tm_run tm_ss P n lim (sr, tm_c0 sd, As, 0, 0, 0, 0, 1)).2.1))), (soA, .inl (cI, 120, .inl ((tm_run tm_ss P n lim (sr, tm_c0 sd, As, 0, 0, 0, 0, 1)).2.2.1))), (ta, .inr (4, [.ref cL, .ref taR, .ref taC, .ref taA, .int (nI kt), .int ht, .int dt, .int et, .ref t])), (taR, .inl (cI, 8, .inl Rt)), (taC, .inl (cI, 64, .inl Ct)), (taA, .inl (cI, 120, .inl At))] ((tm_run tm_ss P n lim (sr, tm_c0 sd, As, 0, 0, 0, 0, 1)).2.2.2.2.2.1) := by
  intro sz
  refine Met.ofW (cc := b_TM_run) (maxL := 4) (ret := (some .int)) (by decide) rfl ?_
  intro p e s m args below meth c s₁ B0 hml hv
  obtain ⟨rfl, hsz, hP, hK, hD0⟩ := hv
  have hx := B0.exec
  have hb := B0.bytes
  have hr := B0.returns
  have hlocks := B0.notSynchronized
  have hg : ∀ w ∈ gG, w.before _ s = true := fun w h => atoms_spec B0.pre w (List.mem_cons_of_mem _ h)
  have hown : s.vm.findClass R_TM = some m.cls := findClass_of_methodNamed B0.named
  subst hsz
  have hD := hD0.self (sz := s.heap.size)
  generalize hAe : va_A [(x0, .inr (0, [.ref pL, .ref t, .ref sR, .ref sD, .ref so, .ref ta])), (pL, .inr (1, [.ref pF, .int (nI n)])), (pF, .inl (cI, 96, .inl P)), (t, .inr (2, [.ref pL, .ref cL, .ref bA])), (cL, .inr (1, [.ref cF, .int (nI k)])), (cF, .inl (cI, 868, .inl F)), (bA, .inl (cI, 25, .inl B)), (sR, .inl (cI, 8, .inl sr)), (sD, .inl (cI, 32, .inl sd)), (so, .inr (3, [.ref pL, .ref soR, .ref soC, .ref soA, .int (nI ks), .int hs, .int ds, .int es, .int xs])), (soR, .inl (cI, 8, .inl Rs)), (soC, .inl (cI, 32, .inl Cs)), (soA, .inl (cI, 120, .inl As)), (ta, .inr (4, [.ref cL, .ref taR, .ref taC, .ref taA, .int (nI kt), .int ht, .int dt, .int et, .ref t])), (taR, .inl (cI, 8, .inl Rt)), (taC, .inl (cI, 64, .inl Ct)), (taA, .inl (cI, 120, .inl At))] s.heap.size = A at hD ⊢
  have hA : ∀ q : Nat, s.heap.size ≤ q → A q := fun q h => by rw [← hAe]; exact Or.inr h
  have hS : va_S A s.heap s.heap [] := va_S.rf
  have hP : va_P D cls [(x0, .inr (0, [.ref pL, .ref t, .ref sR, .ref sD, .ref so, .ref ta])), (pL, .inr (1, [.ref pF, .int (nI n)])), (pF, .inl (cI, 96, .inl P)), (t, .inr (2, [.ref pL, .ref cL, .ref bA])), (cL, .inr (1, [.ref cF, .int (nI k)])), (cF, .inl (cI, 868, .inl F)), (bA, .inl (cI, 25, .inl B)), (sR, .inl (cI, 8, .inl sr)), (sD, .inl (cI, 32, .inl sd)), (so, .inr (3, [.ref pL, .ref soR, .ref soC, .ref soA, .int (nI ks), .int hs, .int ds, .int es, .int xs])), (soR, .inl (cI, 8, .inl Rs)), (soC, .inl (cI, 32, .inl Cs)), (soA, .inl (cI, 120, .inl As)), (ta, .inr (4, [.ref cL, .ref taR, .ref taC, .ref taA, .int (nI kt), .int ht, .int dt, .int et, .ref t])), (taR, .inl (cI, 8, .inl Rt)), (taC, .inl (cI, 64, .inl Ct)), (taA, .inl (cI, 120, .inl At))] s.heap := hP
  have hl := lv_entry ([.ref x0, .int 0, .int (nI lim)]) (n := 4) (Nat.le_of_ble_eq_true rfl)
  rw [lg_entry_eq]
  generalize (lg_sl ([.ref x0, .int 0, .int (nI lim)]) ++ List.replicate (4 - (lg_sl ([.ref x0, .int 0, .int (nI lim)])).length) Slot.unset).toArray = ls at hl ⊢
  have hl : lv_has ls 4 [(0, .ref x0), (1, .int 0), (2, .int (nI lim))] := hl
  refine lv_iload_n hx hb d_TM_run_0 rfl (lv_at hl 1 rfl) ?_
  refine xr_S (As := [.int 0]) (rest := []) ⟨hx, hb, hml, hown, hg⟩ (c_TM_isMachine l D cI cZ cJ 0) m_TM_isMachine q267 ⟨rfl, rfl⟩ ⟨Nat.le_of_ble_eq_true rfl, Nat.le_of_ble_eq_true rfl⟩ hK hP [] rfl rfl hl.1 rfl (Nat.le_of_ble_eq_true rfl) d_TM_run_1 ⟨Nat.zero_le _, Nat.zero_le _⟩ ?_
  refine lv_if_eq (tgt := 18) hx hb d_TM_run_4 rfl (fun hz9 => absurd hz9 (by decide)) (fun _ => ?_)
  refine lv_iload_n hx hb d_TM_run_7 rfl (lv_at hl 2 rfl) ?_
  refine lv_iconst (v := 0) hx hb d_TM_run_8 (by decide) ?_
  refine lv_sipush (v := 2000) hx hb d_TM_run_9 (by decide) ?_
  refine xr_S (As := [.int (nI lim), .int 0, .int 2000]) (rest := []) ⟨hx, hb, hml, hown, hg⟩ (c_TM_isWithin l D cI cZ cJ (nI lim) 0 2000) m_TM_isWithin q274 ⟨rfl, rfl⟩ ⟨Nat.le_of_ble_eq_true rfl, Nat.le_of_ble_eq_true rfl⟩ hK hP [] rfl rfl hl.1 rfl (Nat.le_of_ble_eq_true rfl) d_TM_run_12 ⟨Nat.zero_le _, Nat.zero_le _⟩ ?_
  refine lv_if_ne (tgt := 26) hx hb d_TM_run_15 rfl (fun _ => ?_) (fun hz9 => absurd hz9 (tm_wi_y (nI_le (a := 0) (b := lim) (by omega) (by omega)) (nI_le (a := lim) (b := 2000) (by omega) (by omega))))
  refine lv_iload_n hx hb d_TM_run_26 rfl (lv_at hl 1 rfl) ?_
  refine lv_iconst (v := 1) hx hb d_TM_run_27 (by decide) ?_
  refine lv_icmp_ne (tgt := 49) hx hb d_TM_run_28 rfl (fun _ => ?_) (fun hz9 => absurd hz9 (by decide))
  refine lv_aload_n hx hb d_TM_run_49 rfl (lv_at hl 0 rfl) ?_
  refine lv_iload_n hx hb d_TM_run_50 rfl (lv_at hl 1 rfl) ?_
  refine xq_V (C := R_TM) (As := [.int 0]) (rest := []) ⟨hx, hb, hml, hown, hg⟩ (c_TM_machineOf0 l D cI cZ cJ x0 pL pF t cL cF bA sR sD so soR soC soA ta taR taC taA P F B sr sd Rs Cs As Rt Ct At n k ks kt hs ds es xs ht dt et) m_TM_machineOf q270 sp_TM_machineOf ⟨rfl, rfl⟩ ⟨Nat.le_of_ble_eq_true rfl, Nat.le_of_ble_eq_true rfl⟩ hK hP [0, 1, 2, 3, 4, 5, 6, 7, 8, 9, 10, 11, 12, 13, 14, 15, 16] rfl (va_recv (q0 := 0) hK.1 hP rfl rfl) rfl hl.1 rfl (Nat.le_of_ble_eq_true rfl) d_TM_run_51 ⟨Nat.zero_le _, Nat.zero_le _⟩ ?_
  refine lv_astore_n hx hb d_TM_run_54 rfl hl (by decide) rfl (fun ls hl => ?_)
  have hl : lv_has ls 4 [(3, .ref so), (0, .ref x0), (1, .int 0), (2, .int (nI lim))] := hl
  refine lv_aload_n hx hb d_TM_run_55 rfl (lv_at hl 0 rfl) ?_
  refine lv_aload_n hx hb d_TM_run_56 rfl (lv_at hl 1 rfl) ?_
  refine va_get (D := D) (ci := 0) (v := .ref sR) (C := R_TM) (T := F_TM) (N := 6) hx hb hg f_TM hown hK.1 hP 0 rfl rfl 2 (by decide) (hg _ q142) (fun _ h9 => h9) rfl d_TM_run_57 ?_
  refine lv_aload_n hx hb d_TM_run_60 rfl (lv_at hl 1 rfl) ?_
  refine va_get (D := D) (ci := 0) (v := .ref sD) (C := R_TM) (T := F_TM) (N := 6) hx hb hg f_TM hown hK.1 hP 0 rfl rfl 3 (by decide) (hg _ q143) (fun _ h9 => h9) rfl d_TM_run_61 ?_
  refine xw_go (w2 := [(x0, .inr (0, [.ref pL, .ref t, .ref sR, .ref sD, .ref so, .ref ta])), (pL, .inr (1, [.ref pF, .int (nI n)])), (pF, .inl (cI, 96, .inl P)), (t, .inr (2, [.ref pL, .ref cL, .ref bA])), (cL, .inr (1, [.ref cF, .int (nI k)])), (cF, .inl (cI, 868, .inl F)), (bA, .inl (cI, 25, .inl B)), (sR, .inl (cI, 8, .inl sr)), (sD, .inl (cI, 32, .inl sd)), (so, .inr (3, [.ref pL, .ref soR, .ref soC, .ref soA, .int (nI 0), .int 0, .int 0, .int 0, .int 1])), (soR, .inl (cI, 8, .inl sr)), (soC, .inl (cI, 32, .inl (tm_c0 sd))), (soA, .inl (cI, 120, .inl As)), (ta, .inr (4, [.ref cL, .ref taR, .ref taC, .ref taA, .int (nI kt), .int ht, .int dt, .int et, .ref t])), (taR, .inl (cI, 8, .inl Rt)), (taC, .inl (cI, 64, .inl Ct)), (taA, .inl (cI, 120, .inl At))]) (wr := [(x0, .inr (0, [.ref pL, .ref t, .ref sR, .ref sD, .ref so, .ref ta])), (t, .inr (2, [.ref pL, .ref cL, .ref bA])), (cL, .inr (1, [.ref cF, .int (nI k)])), (cF, .inl (cI, 868, .inl F)), (bA, .inl (cI, 25, .inl B)), (ta, .inr (4, [.ref cL, .ref taR, .ref taC, .ref taA, .int (nI kt), .int ht, .int dt, .int et, .ref t])), (taR, .inl (cI, 8, .inl Rt)), (taC, .inl (cI, 64, .inl Ct)), (taA, .inl (cI, 120, .inl At))]) (w1 := [(so, .inr (3, [.ref pL, .ref soR, .ref soC, .ref soA, .int (nI 0), .int 0, .int 0, .int 0, .int 1])), (soR, .inl (cI, 8, .inl sr)), (soC, .inl (cI, 32, .inl (tm_c0 sd))), (soA, .inl (cI, 120, .inl As)), (pL, .inr (1, [.ref pF, .int (nI n)])), (pF, .inl (cI, 96, .inl P)), (sR, .inl (cI, 8, .inl sr)), (sD, .inl (cI, 32, .inl sd))]) (va_runU (As := [.ref sR, .ref sD]) (rest := []) (C := R_So) ⟨hx, hb, hml, hown, hg⟩ (c_So_begin l D cI cZ cJ so pL soR soC soA pF Rs Cs As P n ks ds es xs hs sR sD sr sd s.heap.size) (xg_U (x := ⟨"TwoMachines$Machine", "begin", "([I[I)V"⟩) (owner := R_Ma) hg m_So_begin q437 q439 hK.2.2.1 q440 ⟨by decide, by decide, by decide +kernel⟩ rfl rfl ⟨Nat.le_of_ble_eq_true rfl, Nat.le_of_ble_eq_true rfl⟩) ⟨xw_blind, (va_recv (q0 := 9) hK.1 hP rfl rfl), xw_pre hK hP hD [9, 10, 11, 12, 1, 2, 7, 8] (by decide) rfl⟩ rfl rfl hl.1 rfl (lv_room (Nat.le_of_ble_eq_true rfl)) d_TM_run_64 ⟨Nat.zero_le _, Nat.zero_le _⟩) hP hD hS hA [9, 10, 11, 12, 1, 2, 7, 8] [0, 3, 4, 5, 6, 13, 14, 15, 16] [0, 13, 14, 1, 2, 3, 4, 15, 16, 9, 10, 11, 12, 5, 6, 7, 8] rfl rfl (by decide) (by decide) rfl (by decide) (fun H locs hP hD hS => ?_)
  refine lv_aload_n hx hb d_TM_run_67 rfl (lv_at hl 0 rfl) ?_
  refine lv_iload_n hx hb d_TM_run_68 rfl (lv_at hl 3 rfl) ?_
  refine xw_go (w2 := [(x0, .inr (0, [.ref pL, .ref t, .ref sR, .ref sD, .ref so, .ref ta])), (pL, .inr (1, [.ref pF, .int (nI n)])), (pF, .inl (cI, 96, .inl P)), (t, .inr (2, [.ref pL, .ref cL, .ref bA])), (cL, .inr (1, [.ref cF, .int (nI k)])), (cF, .inl (cI, 868, .inl F)), (bA, .inl (cI, 25, .inl B)), (sR, .inl (cI, 8, .inl sr)), (sD, .inl (cI, 32, .inl sd)), (so, .inr (3, [.ref pL, .ref soR, .ref soC, .ref soA, .int (nI (tm_run tm_ss P n lim (sr, (tm_c0 sd), As, 0, 0, 0, 0, 1)).2.2.2.1), .int ((tm_run tm_ss P n lim (sr, (tm_c0 sd), As, 0, 0, 0, 0, 1)).2.2.2.2.1), .int ((tm_run tm_ss P n lim (sr, (tm_c0 sd), As, 0, 0, 0, 0, 1)).2.2.2.2.2.1), .int ((tm_run tm_ss P n lim (sr, (tm_c0 sd), As, 0, 0, 0, 0, 1)).2.2.2.2.2.2.1), .int ((tm_run tm_ss P n lim (sr, (tm_c0 sd), As, 0, 0, 0, 0, 1)).2.2.2.2.2.2.2)])), (soR, .inl (cI, 8, .inl ((tm_run tm_ss P n lim (sr, (tm_c0 sd), As, 0, 0, 0, 0, 1)).1))), (soC, .inl (cI, 32, .inl ((tm_run tm_ss P n lim (sr, (tm_c0 sd), As, 0, 0, 0, 0, 1)).2.1))), (soA, .inl (cI, 120, .inl ((tm_run tm_ss P n lim (sr, (tm_c0 sd), As, 0, 0, 0, 0, 1)).2.2.1))), (ta, .inr (4, [.ref cL, .ref taR, .ref taC, .ref taA, .int (nI kt), .int ht, .int dt, .int et, .ref t])), (taR, .inl (cI, 8, .inl Rt)), (taC, .inl (cI, 64, .inl Ct)), (taA, .inl (cI, 120, .inl At))]) (wr := [(x0, .inr (0, [.ref pL, .ref t, .ref sR, .ref sD, .ref so, .ref ta])), (t, .inr (2, [.ref pL, .ref cL, .ref bA])), (cL, .inr (1, [.ref cF, .int (nI k)])), (cF, .inl (cI, 868, .inl F)), (bA, .inl (cI, 25, .inl B)), (sR, .inl (cI, 8, .inl sr)), (sD, .inl (cI, 32, .inl sd)), (ta, .inr (4, [.ref cL, .ref taR, .ref taC, .ref taA, .int (nI kt), .int ht, .int dt, .int et, .ref t])), (taR, .inl (cI, 8, .inl Rt)), (taC, .inl (cI, 64, .inl Ct)), (taA, .inl (cI, 120, .inl At))]) (w1 := [(so, .inr (3, [.ref pL, .ref soR, .ref soC, .ref soA, .int (nI (tm_run tm_ss P n lim (sr, (tm_c0 sd), As, 0, 0, 0, 0, 1)).2.2.2.1), .int ((tm_run tm_ss P n lim (sr, (tm_c0 sd), As, 0, 0, 0, 0, 1)).2.2.2.2.1), .int ((tm_run tm_ss P n lim (sr, (tm_c0 sd), As, 0, 0, 0, 0, 1)).2.2.2.2.2.1), .int ((tm_run tm_ss P n lim (sr, (tm_c0 sd), As, 0, 0, 0, 0, 1)).2.2.2.2.2.2.1), .int ((tm_run tm_ss P n lim (sr, (tm_c0 sd), As, 0, 0, 0, 0, 1)).2.2.2.2.2.2.2)])), (soR, .inl (cI, 8, .inl ((tm_run tm_ss P n lim (sr, (tm_c0 sd), As, 0, 0, 0, 0, 1)).1))), (soC, .inl (cI, 32, .inl ((tm_run tm_ss P n lim (sr, (tm_c0 sd), As, 0, 0, 0, 0, 1)).2.1))), (soA, .inl (cI, 120, .inl ((tm_run tm_ss P n lim (sr, (tm_c0 sd), As, 0, 0, 0, 0, 1)).2.2.1))), (pL, .inr (1, [.ref pF, .int (nI n)])), (pF, .inl (cI, 96, .inl P))]) (va_runU (As := [.int (nI lim)]) (rest := []) (C := R_So) ⟨hx, hb, hml, hown, hg⟩ (c_So_work l D cI cZ cJ so pL soR soC soA pF sr (tm_c0 sd) As P n 0 0 0 1 0 lim (by omega) (hiv) (by omega) (by omega) H.size) (xg_O (x := ⟨"TwoMachines$Machine", "work", "(I)V"⟩) (owner := R_Ma) hg m_Ma_work q463 q465 rfl m_Ma_work q466 ⟨by decide, by decide, by decide +kernel⟩ rfl rfl ⟨Nat.le_of_ble_eq_true rfl, Nat.le_of_ble_eq_true rfl⟩) ⟨xw_blind, (va_recv (q0 := 9) hK.1 hP rfl rfl), xw_pre hK hP hD [9, 10, 11, 12, 1, 2] (by decide) rfl⟩ rfl rfl hl.1 rfl (lv_room (Nat.le_of_ble_eq_true rfl)) d_TM_run_69 ⟨Nat.zero_le _, Nat.zero_le _⟩) hP hD hS hA [9, 10, 11, 12, 1, 2] [0, 3, 4, 5, 6, 7, 8, 13, 14, 15, 16] [0, 15, 16, 1, 2, 3, 4, 5, 6, 11, 12, 13, 14, 7, 8, 9, 10] rfl rfl (by decide) (by decide) rfl (by decide) (fun H locs hP hD hS => ?_)
  refine lv_aload_n hx hb d_TM_run_72 rfl (lv_at hl 0 rfl) ?_
  refine va_get (D := D) (ci := 3) (v := .int ((tm_run tm_ss P n lim (sr, (tm_c0 sd), As, 0, 0, 0, 0, 1)).2.2.2.2.2.1)) (C := R_So) (T := F_So) (N := 9) hx hb hg f_So hown hK.1 hP 9 rfl rfl 6 (by decide) (hg _ q100) (fun _ h9 => h9) rfl d_TM_run_73 ?_
  have ew1 : nI (tm_run tm_ss P n lim (sr, (tm_c0 sd), As, 0, 0, 0, 0, 1)).2.2.2.1 = nI (tm_run tm_ss P n lim (sr, tm_c0 sd, As, 0, 0, 0, 0, 1)).2.2.2.1 := congrArg nI (by first | (simp []; done) | (simp []; omega) | omega)
  have ew2 : (tm_run tm_ss P n lim (sr, (tm_c0 sd), As, 0, 0, 0, 0, 1)).2.2.2.2.1 = (tm_run tm_ss P n lim (sr, tm_c0 sd, As, 0, 0, 0, 0, 1)).2.2.2.2.1 := by first | rfl | simp []
  have ew3 : (tm_run tm_ss P n lim (sr, (tm_c0 sd), As, 0, 0, 0, 0, 1)).2.2.2.2.2.1 = (tm_run tm_ss P n lim (sr, tm_c0 sd, As, 0, 0, 0, 0, 1)).2.2.2.2.2.1 := by first | rfl | simp []
  have ew4 : (tm_run tm_ss P n lim (sr, (tm_c0 sd), As, 0, 0, 0, 0, 1)).2.2.2.2.2.2.1 = (tm_run tm_ss P n lim (sr, tm_c0 sd, As, 0, 0, 0, 0, 1)).2.2.2.2.2.2.1 := by first | rfl | simp []
  have ew5 : (tm_run tm_ss P n lim (sr, (tm_c0 sd), As, 0, 0, 0, 0, 1)).2.2.2.2.2.2.2 = (tm_run tm_ss P n lim (sr, tm_c0 sd, As, 0, 0, 0, 0, 1)).2.2.2.2.2.2.2 := by first | rfl | simp []
  have ew6 : (tm_run tm_ss P n lim (sr, (tm_c0 sd), As, 0, 0, 0, 0, 1)).1 = (tm_run tm_ss P n lim (sr, tm_c0 sd, As, 0, 0, 0, 0, 1)).1 := by first | rfl | simp []
  have ew7 : (tm_run tm_ss P n lim (sr, (tm_c0 sd), As, 0, 0, 0, 0, 1)).2.1 = (tm_run tm_ss P n lim (sr, tm_c0 sd, As, 0, 0, 0, 0, 1)).2.1 := by first | rfl | simp []
  have ew8 : (tm_run tm_ss P n lim (sr, (tm_c0 sd), As, 0, 0, 0, 0, 1)).2.2.1 = (tm_run tm_ss P n lim (sr, tm_c0 sd, As, 0, 0, 0, 0, 1)).2.2.1 := by first | rfl | simp []
  have hP : va_P D cls [(x0, .inr (0, [.ref pL, .ref t, .ref sR, .ref sD, .ref so, .ref ta])), (pL, .inr (1, [.ref pF, .int (nI n)])), (pF, .inl (cI, 96, .inl P)), (t, .inr (2, [.ref pL, .ref cL, .ref bA])), (cL, .inr (1, [.ref cF, .int (nI k)])), (cF, .inl (cI, 868, .inl F)), (bA, .inl (cI, 25, .inl B)), (sR, .inl (cI, 8, .inl sr)), (sD, .inl (cI, 32, .inl sd)), (so, .inr (3, [.ref pL, .ref soR, .ref soC, .ref soA, .int (nI (tm_run tm_ss P n lim (sr, tm_c0 sd, As, 0, 0, 0, 0, 1)).2.2.2.1), .int ((tm_run tm_ss P n lim (sr, tm_c0 sd, As, 0, 0, 0, 0, 1)).2.2.2.2.1), .int ((tm_run tm_ss P n lim (sr, tm_c0 sd, As, 0, 0, 0, 0, 1)).2.2.2.2.2.1), .int ((tm_run tm_ss P n lim (sr, tm_c0 sd, As, 0, 0, 0, 0, 1)).2.2.2.2.2.2.1), .int ((tm_run tm_ss P n lim (sr, tm_c0 sd, As, 0, 0, 0, 0, 1)).2.2.2.2.2.2.2)])), (soR, .inl (cI, 8, .inl ((tm_run tm_ss P n lim (sr, tm_c0 sd, As, 0, 0, 0, 0, 1)).1))), (soC, .inl (cI, 32, .inl ((tm_run tm_ss P n lim (sr, tm_c0 sd, As, 0, 0, 0, 0, 1)).2.1))), (soA, .inl (cI, 120, .inl ((tm_run tm_ss P n lim (sr, tm_c0 sd, As, 0, 0, 0, 0, 1)).2.2.1))), (ta, .inr (4, [.ref cL, .ref taR, .ref taC, .ref taA, .int (nI kt), .int ht, .int dt, .int et, .ref t])), (taR, .inl (cI, 8, .inl Rt)), (taC, .inl (cI, 64, .inl Ct)), (taA, .inl (cI, 120, .inl At))] H := by rw [← ew1, ← ew2, ← ew3, ← ew4, ← ew5, ← ew6, ← ew7, ← ew8]; exact hP
  have hD : va_D A [(x0, .inr (0, [.ref pL, .ref t, .ref sR, .ref sD, .ref so, .ref ta])), (pL, .inr (1, [.ref pF, .int (nI n)])), (pF, .inl (cI, 96, .inl P)), (t, .inr (2, [.ref pL, .ref cL, .ref bA])), (cL, .inr (1, [.ref cF, .int (nI k)])), (cF, .inl (cI, 868, .inl F)), (bA, .inl (cI, 25, .inl B)), (sR, .inl (cI, 8, .inl sr)), (sD, .inl (cI, 32, .inl sd)), (so, .inr (3, [.ref pL, .ref soR, .ref soC, .ref soA, .int (nI (tm_run tm_ss P n lim (sr, tm_c0 sd, As, 0, 0, 0, 0, 1)).2.2.2.1), .int ((tm_run tm_ss P n lim (sr, tm_c0 sd, As, 0, 0, 0, 0, 1)).2.2.2.2.1), .int ((tm_run tm_ss P n lim (sr, tm_c0 sd, As, 0, 0, 0, 0, 1)).2.2.2.2.2.1), .int ((tm_run tm_ss P n lim (sr, tm_c0 sd, As, 0, 0, 0, 0, 1)).2.2.2.2.2.2.1), .int ((tm_run tm_ss P n lim (sr, tm_c0 sd, As, 0, 0, 0, 0, 1)).2.2.2.2.2.2.2)])), (soR, .inl (cI, 8, .inl ((tm_run tm_ss P n lim (sr, tm_c0 sd, As, 0, 0, 0, 0, 1)).1))), (soC, .inl (cI, 32, .inl ((tm_run tm_ss P n lim (sr, tm_c0 sd, As, 0, 0, 0, 0, 1)).2.1))), (soA, .inl (cI, 120, .inl ((tm_run tm_ss P n lim (sr, tm_c0 sd, As, 0, 0, 0, 0, 1)).2.2.1))), (ta, .inr (4, [.ref cL, .ref taR, .ref taC, .ref taA, .int (nI kt), .int ht, .int dt, .int et, .ref t])), (taR, .inl (cI, 8, .inl Rt)), (taC, .inl (cI, 64, .inl Ct)), (taA, .inl (cI, 120, .inl At))] := by rw [← ew1, ← ew2, ← ew3, ← ew4, ← ew5, ← ew6, ← ew7, ← ew8]; exact hD
  exact W.iret (v := (tm_run tm_ss P n lim (sr, (tm_c0 sd), As, 0, 0, 0, 0, 1)).2.2.2.2.2.1) hx hb hr (fun t9 ht9 hW9 => ⟨⟨(tm_run tm_ss P n lim (sr, (tm_c0 sd), As, 0, 0, 0, 0, 1)).2.2.2.2.2.1, (), rfl, by simp [], by rw [ht9]; exact hP, hD⟩, hS.F ht9⟩) hS.2.2 d_TM_run_76

set_option maxHeartbeats 4000000 in
set_option maxRecDepth 100000 in
theorem c_TM_run1 (l : Launch) (D : va_G) (cI cZ cJ : ClassId) (x0 pL pF t cL cF bA sR sD so soR soC soA ta taR taC taA : Nat) (P F B sr sd Rs Cs As Rt Ct At : Nat → Int32) (n k ks kt : Nat) (hs ds es xs ht dt et : Int32) (lim : Nat) (hlim : lim ≤ 2000) (hn : n ≤ 24) (hk : k ≤ 217) (hk0 : 0 < k) (hiv : tm_iv F k) : xi_Met l y_TM_run b_TM_run 4 (some .int) { frames := 6, cells := 0, slots := 0, locals := 132 } [.ref x0, .int 1, .int (nI lim)] D cls (tyL cI cZ cJ) [(x0, .inr (0, [.ref pL, .ref t, .ref sR, .ref sD, .ref so, .ref ta])), (pL, .inr (1, [.ref pF, .int (nI n)])), (pF, .inl (cI, 96, .inl P)), (t, .inr (2, [.ref pL, .ref cL, .ref bA])), (cL, .inr (1, [.ref cF, .int (nI k)])), (cF, .inl (cI, 868, .inl F)), (bA, .inl (cI, 25, .inl B)), (sR, .inl (cI, 8, .inl sr)), (sD, .inl (cI, 32, .inl sd)), (so, .inr (3, [.ref pL, .ref soR, .ref soC, .ref soA, .int (nI ks), .int hs, .int ds, .int es, .int xs])), (soR, .inl (cI, 8, .inl Rs)), (soC, .inl (cI, 32, .inl Cs)), (soA, .inl (cI, 120, .inl As)), (ta, .inr (4, [.ref cL, .ref taR, .ref taC, .ref taA, .int (nI kt), .int ht, .int dt, .int et, .ref t])), (taR, .inl (cI, 8, .inl Rt)), (taC, .inl (cI, 64, .inl Ct)), (taA, .inl (cI, 120, .inl At))] [(x0, .inr (0, [.ref pL, .ref t, .ref sR, .ref sD, .ref so, .ref ta])), (pL, .inr (1, [.ref pF, .int (nI n)])), (pF, .inl (cI, 96, .inl P)), (t, .inr (2, [.ref pL, .ref cL, .ref bA])), (cL, .inr (1, [.ref cF, .int (nI k)])), (cF, .inl (cI, 868, .inl F)), (bA, .inl (cI, 25, .inl B)), (sR, .inl (cI, 8, .inl sr)), (sD, .inl (cI, 32, .inl sd)), (so, .inr (3, [.ref pL, .ref soR, .ref soC, .ref soA, .int (nI ks), .int hs, .int ds, .int es, .int xs])), (soR, .inl (cI, 8, .inl Rs)), (soC, .inl (cI, 32, .inl Cs)), (soA, .inl (cI, 120, .inl As)), (ta, .inr (4, [.ref cL, .ref taR, .ref taC, .ref taA, .int (nI (tm_run tm_ts F k lim (tm_r1 sr, tm_c1 sr sd B n, At, 0, 0, 0, 0, 0)).2.2.2.1), .int ((tm_run tm_ts F k lim (tm_r1 sr, tm_c1 sr sd B n, At, 0, 0, 0, 0, 0)).2.2.2.2.1), .int ((tm_run tm_ts F k lim (tm_r1 sr, tm_c1 sr sd B n, At, 0, 0, 0, 0, 0)).2.2.2.2.2.1), .int ((tm_run tm_ts F k lim (tm_r1 sr, tm_c1 sr sd B n, At, 0, 0, 0, 0, 0)).2.2.2.2.2.2.1), .ref t])), (taR, .inl (cI, 8, .inl ((tm_run tm_ts F k lim (tm_r1 sr, tm_c1 sr sd B n, At, 0, 0, 0, 0, 0)).1))), (taC, .inl (cI, 64, .inl ((tm_run tm_ts F k lim (tm_r1 sr, tm_c1 sr sd B n, At, 0, 0, 0, 0, 0)).2.1))), (taA, .inl (cI, 120, .inl ((tm_run tm_ts F k lim (tm_r1 sr, tm_c1 sr sd B n, At, 0, 0, 0, 0, 0)).2.2.1)))] ((tm_run tm_ts F k lim (tm_r1 sr, tm_c1 sr sd B n, At, 0, 0, 0, 0, 0)).2.2.2.2.2.1) := by
  intro sz
  refine Met.ofW (cc := b_TM_run) (maxL := 4) (ret := (some .int)) (by decide) rfl ?_
  intro p e s m args below meth c s₁ B0 hml hv
  obtain ⟨rfl, hsz, hP, hK, hD0⟩ := hv
  have hx := B0.exec
  have hb := B0.bytes
  have hr := B0.returns
  have hlocks := B0.notSynchronized
  have hg : ∀ w ∈ gG, w.before _ s = true := fun w h => atoms_spec B0.pre w (List.mem_cons_of_mem _ h)
  have hown : s.vm.findClass R_TM = some m.cls := findClass_of_methodNamed B0.named
  subst hsz
  have hD := hD0.self (sz := s.heap.size)
  generalize hAe : va_A [(x0, .inr (0, [.ref pL, .ref t, .ref sR, .ref sD, .ref so, .ref ta])), (pL, .inr (1, [.ref pF, .int (nI n)])), (pF, .inl (cI, 96, .inl P)), (t, .inr (2, [.ref pL, .ref cL, .ref bA])), (cL, .inr (1, [.ref cF, .int (nI k)])), (cF, .inl (cI, 868, .inl F)), (bA, .inl (cI, 25, .inl B)), (sR, .inl (cI, 8, .inl sr)), (sD, .inl (cI, 32, .inl sd)), (so, .inr (3, [.ref pL, .ref soR, .ref soC, .ref soA, .int (nI ks), .int hs, .int ds, .int es, .int xs])), (soR, .inl (cI, 8, .inl Rs)), (soC, .inl (cI, 32, .inl Cs)), (soA, .inl (cI, 120, .inl As)), (ta, .inr (4, [.ref cL, .ref taR, .ref taC, .ref taA, .int (nI kt), .int ht, .int dt, .int et, .ref t])), (taR, .inl (cI, 8, .inl Rt)), (taC, .inl (cI, 64, .inl Ct)), (taA, .inl (cI, 120, .inl At))] s.heap.size = A at hD ⊢
  have hA : ∀ q : Nat, s.heap.size ≤ q → A q := fun q h => by rw [← hAe]; exact Or.inr h
  have hS : va_S A s.heap s.heap [] := va_S.rf
  have hP : va_P D cls [(x0, .inr (0, [.ref pL, .ref t, .ref sR, .ref sD, .ref so, .ref ta])), (pL, .inr (1, [.ref pF, .int (nI n)])), (pF, .inl (cI, 96, .inl P)), (t, .inr (2, [.ref pL, .ref cL, .ref bA])), (cL, .inr (1, [.ref cF, .int (nI k)])), (cF, .inl (cI, 868, .inl F)), (bA, .inl (cI, 25, .inl B)), (sR, .inl (cI, 8, .inl sr)), (sD, .inl (cI, 32, .inl sd)), (so, .inr (3, [.ref pL, .ref soR, .ref soC, .ref soA, .int (nI ks), .int hs, .int ds, .int es, .int xs])), (soR, .inl (cI, 8, .inl Rs)), (soC, .inl (cI, 32, .inl Cs)), (soA, .inl (cI, 120, .inl As)), (ta, .inr (4, [.ref cL, .ref taR, .ref taC, .ref taA, .int (nI kt), .int ht, .int dt, .int et, .ref t])), (taR, .inl (cI, 8, .inl Rt)), (taC, .inl (cI, 64, .inl Ct)), (taA, .inl (cI, 120, .inl At))] s.heap := hP
  have hl := lv_entry ([.ref x0, .int 1, .int (nI lim)]) (n := 4) (Nat.le_of_ble_eq_true rfl)
  rw [lg_entry_eq]
  generalize (lg_sl ([.ref x0, .int 1, .int (nI lim)]) ++ List.replicate (4 - (lg_sl ([.ref x0, .int 1, .int (nI lim)])).length) Slot.unset).toArray = ls at hl ⊢
  have hl : lv_has ls 4 [(0, .ref x0), (1, .int 1), (2, .int (nI lim))] := hl
  refine lv_iload_n hx hb d_TM_run_0 rfl (lv_at hl 1 rfl) ?_
  refine xr_S (As := [.int 1]) (rest := []) ⟨hx, hb, hml, hown, hg⟩ (c_TM_isMachine l D cI cZ cJ 1) m_TM_isMachine q267 ⟨rfl, rfl⟩ ⟨Nat.le_of_ble_eq_true rfl, Nat.le_of_ble_eq_true rfl⟩ hK hP [] rfl rfl hl.1 rfl (Nat.le_of_ble_eq_true rfl) d_TM_run_1 ⟨Nat.zero_le _, Nat.zero_le _⟩ ?_
  refine lv_if_eq (tgt := 18) hx hb d_TM_run_4 rfl (fun hz9 => absurd hz9 (by decide)) (fun _ => ?_)
  refine lv_iload_n hx hb d_TM_run_7 rfl (lv_at hl 2 rfl) ?_
  refine lv_iconst (v := 0) hx hb d_TM_run_8 (by decide) ?_
  refine lv_sipush (v := 2000) hx hb d_TM_run_9 (by decide) ?_
  refine xr_S (As := [.int (nI lim), .int 0, .int 2000]) (rest := []) ⟨hx, hb, hml, hown, hg⟩ (c_TM_isWithin l D cI cZ cJ (nI lim) 0 2000) m_TM_isWithin q274 ⟨rfl, rfl⟩ ⟨Nat.le_of_ble_eq_true rfl, Nat.le_of_ble_eq_true rfl⟩ hK hP [] rfl rfl hl.1 rfl (Nat.le_of_ble_eq_true rfl) d_TM_run_12 ⟨Nat.zero_le _, Nat.zero_le _⟩ ?_
  refine lv_if_ne (tgt := 26) hx hb d_TM_run_15 rfl (fun _ => ?_) (fun hz9 => absurd hz9 (tm_wi_y (nI_le (a := 0) (b := lim) (by omega) (by omega)) (nI_le (a := lim) (b := 2000) (by omega) (by omega))))
  refine lv_iload_n hx hb d_TM_run_26 rfl (lv_at hl 1 rfl) ?_
  refine lv_iconst (v := 1) hx hb d_TM_run_27 (by decide) ?_
  refine lv_icmp_ne (tgt := 49) hx hb d_TM_run_28 rfl (fun hz9 => absurd (by decide) hz9) (fun _ => ?_)
  refine lv_aload_n hx hb d_TM_run_31 rfl (lv_at hl 0 rfl) ?_
  refine va_get (D := D) (ci := 0) (v := .ref t) (C := R_TM) (T := F_TM) (N := 6) hx hb hg f_TM hown hK.1 hP 0 rfl rfl 1 (by decide) (hg _ q141) (fun _ h9 => h9) rfl d_TM_run_32 ?_
  refine xr_V (C := R_Tr) (As := []) (rest := []) ⟨hx, hb, hml, hown, hg⟩ (c_Tr_isThere l D cI cZ cJ t pL pF cL cF bA P F B n k) m_Tr_isThere q406 q408 ⟨rfl, rfl⟩ ⟨Nat.le_of_ble_eq_true rfl, Nat.le_of_ble_eq_true rfl⟩ hK hP [3, 1, 2, 4, 5, 6] rfl (va_recv (q0 := 3) hK.1 hP rfl rfl) rfl hl.1 rfl (Nat.le_of_ble_eq_true rfl) d_TM_run_35 ⟨Nat.zero_le _, Nat.zero_le _⟩ ?_
  refine lv_if_ne (tgt := 49) hx hb d_TM_run_38 rfl (fun _ => ?_) (fun hz9 => absurd hz9 (by rw [if_neg (nI_nle (by omega) (by omega))]; decide))
  refine lv_aload_n hx hb d_TM_run_49 rfl (lv_at hl 0 rfl) ?_
  refine lv_iload_n hx hb d_TM_run_50 rfl (lv_at hl 1 rfl) ?_
  refine xq_V (C := R_TM) (As := [.int 1]) (rest := []) ⟨hx, hb, hml, hown, hg⟩ (c_TM_machineOf1 l D cI cZ cJ x0 pL pF t cL cF bA sR sD so soR soC soA ta taR taC taA P F B sr sd Rs Cs As Rt Ct At n k ks kt hs ds es xs ht dt et) m_TM_machineOf q270 sp_TM_machineOf ⟨rfl, rfl⟩ ⟨Nat.le_of_ble_eq_true rfl, Nat.le_of_ble_eq_true rfl⟩ hK hP [0, 1, 2, 3, 4, 5, 6, 7, 8, 9, 10, 11, 12, 13, 14, 15, 16] rfl (va_recv (q0 := 0) hK.1 hP rfl rfl) rfl hl.1 rfl (Nat.le_of_ble_eq_true rfl) d_TM_run_51 ⟨Nat.zero_le _, Nat.zero_le _⟩ ?_
  refine lv_astore_n hx hb d_TM_run_54 rfl hl (by decide) rfl (fun ls hl => ?_)
  have hl : lv_has ls 4 [(3, .ref ta), (0, .ref x0), (1, .int 1), (2, .int (nI lim))] := hl
  refine lv_aload_n hx hb d_TM_run_55 rfl (lv_at hl 0 rfl) ?_
  refine lv_aload_n hx hb d_TM_run_56 rfl (lv_at hl 1 rfl) ?_
  refine va_get (D := D) (ci := 0) (v := .ref sR) (C := R_TM) (T := F_TM) (N := 6) hx hb hg f_TM hown hK.1 hP 0 rfl rfl 2 (by decide) (hg _ q142) (fun _ h9 => h9) rfl d_TM_run_57 ?_
  refine lv_aload_n hx hb d_TM_run_60 rfl (lv_at hl 1 rfl) ?_
  refine va_get (D := D) (ci := 0) (v := .ref sD) (C := R_TM) (T := F_TM) (N := 6) hx hb hg f_TM hown hK.1 hP 0 rfl rfl 3 (by decide) (hg _ q143) (fun _ h9 => h9) rfl d_TM_run_61 ?_
  refine xw_go (w2 := [(x0, .inr (0, [.ref pL, .ref t, .ref sR, .ref sD, .ref so, .ref ta])), (pL, .inr (1, [.ref pF, .int (nI n)])), (pF, .inl (cI, 96, .inl P)), (t, .inr (2, [.ref pL, .ref cL, .ref bA])), (cL, .inr (1, [.ref cF, .int (nI k)])), (cF, .inl (cI, 868, .inl F)), (bA, .inl (cI, 25, .inl B)), (sR, .inl (cI, 8, .inl sr)), (sD, .inl (cI, 32, .inl sd)), (so, .inr (3, [.ref pL, .ref soR, .ref soC, .ref soA, .int (nI ks), .int hs, .int ds, .int es, .int xs])), (soR, .inl (cI, 8, .inl Rs)), (soC, .inl (cI, 32, .inl Cs)), (soA, .inl (cI, 120, .inl As)), (ta, .inr (4, [.ref cL, .ref taR, .ref taC, .ref taA, .int (nI 0), .int 0, .int 0, .int 0, .ref t])), (taR, .inl (cI, 8, .inl (tm_r1 sr))), (taC, .inl (cI, 64, .inl (tm_c1 sr sd B n))), (taA, .inl (cI, 120, .inl At))]) (wr := [(x0, .inr (0, [.ref pL, .ref t, .ref sR, .ref sD, .ref so, .ref ta])), (pF, .inl (cI, 96, .inl P)), (so, .inr (3, [.ref pL, .ref soR, .ref soC, .ref soA, .int (nI ks), .int hs, .int ds, .int es, .int xs])), (soR, .inl (cI, 8, .inl Rs)), (soC, .inl (cI, 32, .inl Cs)), (soA, .inl (cI, 120, .inl As))]) (w1 := [(ta, .inr (4, [.ref cL, .ref taR, .ref taC, .ref taA, .int (nI 0), .int 0, .int 0, .int 0, .ref t])), (taR, .inl (cI, 8, .inl (tm_r1 sr))), (taC, .inl (cI, 64, .inl (tm_c1 sr sd B n))), (taA, .inl (cI, 120, .inl At)), (cL, .inr (1, [.ref cF, .int (nI k)])), (cF, .inl (cI, 868, .inl F)), (sR, .inl (cI, 8, .inl sr)), (sD, .inl (cI, 32, .inl sd)), (t, .inr (2, [.ref pL, .ref cL, .ref bA])), (bA, .inl (cI, 25, .inl B)), (pL, .inr (1, [.ref pF, .int (nI n)]))]) (va_runU (As := [.ref sR, .ref sD]) (rest := []) (C := R_Ta) ⟨hx, hb, hml, hown, hg⟩ (c_Ta_begin l D cI cZ cJ ta cL taR taC taA cF t Rt Ct At F k kt dt et ht sR sD sr sd pL bA pF B n (by omega) s.heap.size) (xg_U (x := ⟨"TwoMachines$Machine", "begin", "([I[I)V"⟩) (owner := R_Ma) hg m_Ta_begin q437 q439 hK.2.2.1 q456 ⟨by decide, by decide, by decide +kernel⟩ rfl rfl ⟨Nat.le_of_ble_eq_true rfl, Nat.le_of_ble_eq_true rfl⟩) ⟨xw_blind, (va_recv (q0 := 13) hK.1 hP rfl rfl), xw_pre hK hP hD [13, 14, 15, 16, 4, 5, 7, 8, 3, 6, 1] (by decide) rfl⟩ rfl rfl hl.1 rfl (lv_room (Nat.le_of_ble_eq_true rfl)) d_TM_run_64 ⟨Nat.zero_le _, Nat.zero_le _⟩) hP hD hS hA [13, 14, 15, 16, 4, 5, 7, 8, 3, 6, 1] [0, 2, 9, 10, 11, 12] [0, 16, 1, 14, 10, 11, 15, 12, 13, 2, 3, 4, 5, 6, 7, 8, 9] rfl rfl (by decide) (by decide) rfl (by decide) (fun H locs hP hD hS => ?_)
  refine lv_aload_n hx hb d_TM_run_67 rfl (lv_at hl 0 rfl) ?_
  refine lv_iload_n hx hb d_TM_run_68 rfl (lv_at hl 3 rfl) ?_
  refine xw_go (w2 := [(x0, .inr (0, [.ref pL, .ref t, .ref sR, .ref sD, .ref so, .ref ta])), (pL, .inr (1, [.ref pF, .int (nI n)])), (pF, .inl (cI, 96, .inl P)), (t, .inr (2, [.ref pL, .ref cL, .ref bA])), (cL, .inr (1, [.ref cF, .int (nI k)])), (cF, .inl (cI, 868, .inl F)), (bA, .inl (cI, 25, .inl B)), (sR, .inl (cI, 8, .inl sr)), (sD, .inl (cI, 32, .inl sd)), (so, .inr (3, [.ref pL, .ref soR, .ref soC, .ref soA, .int (nI ks), .int hs, .int ds, .int es, .int xs])), (soR, .inl (cI, 8, .inl Rs)), (soC, .inl (cI, 32, .inl Cs)), (soA, .inl (cI, 120, .inl As)), (ta, .inr (4, [.ref cL, .ref taR, .ref taC, .ref taA, .int (nI (tm_run tm_ts F k lim ((tm_r1 sr), (tm_c1 sr sd B n), At, 0, 0, 0, 0, 0)).2.2.2.1), .int ((tm_run tm_ts F k lim ((tm_r1 sr), (tm_c1 sr sd B n), At, 0, 0, 0, 0, 0)).2.2.2.2.1), .int ((tm_run tm_ts F k lim ((tm_r1 sr), (tm_c1 sr sd B n), At, 0, 0, 0, 0, 0)).2.2.2.2.2.1), .int ((tm_run tm_ts F k lim ((tm_r1 sr), (tm_c1 sr sd B n), At, 0, 0, 0, 0, 0)).2.2.2.2.2.2.1), .ref t])), (taR, .inl (cI, 8, .inl ((tm_run tm_ts F k lim ((tm_r1 sr), (tm_c1 sr sd B n), At, 0, 0, 0, 0, 0)).1))), (taC, .inl (cI, 64, .inl ((tm_run tm_ts F k lim ((tm_r1 sr), (tm_c1 sr sd B n), At, 0, 0, 0, 0, 0)).2.1))), (taA, .inl (cI, 120, .inl ((tm_run tm_ts F k lim ((tm_r1 sr), (tm_c1 sr sd B n), At, 0, 0, 0, 0, 0)).2.2.1)))]) (wr := [(x0, .inr (0, [.ref pL, .ref t, .ref sR, .ref sD, .ref so, .ref ta])), (pL, .inr (1, [.ref pF, .int (nI n)])), (pF, .inl (cI, 96, .inl P)), (t, .inr (2, [.ref pL, .ref cL, .ref bA])), (bA, .inl (cI, 25, .inl B)), (sR, .inl (cI, 8, .inl sr)), (sD, .inl (cI, 32, .inl sd)), (so, .inr (3, [.ref pL, .ref soR, .ref soC, .ref soA, .int (nI ks), .int hs, .int ds, .int es, .int xs])), (soR, .inl (cI, 8, .inl Rs)), (soC, .inl (cI, 32, .inl Cs)), (soA, .inl (cI, 120, .inl As))]) (w1 := [(ta, .inr (4, [.ref cL, .ref taR, .ref taC, .ref taA, .int (nI (tm_run tm_ts F k lim ((tm_r1 sr), (tm_c1 sr sd B n), At, 0, 0, 0, 0, 0)).2.2.2.1), .int ((tm_run tm_ts F k lim ((tm_r1 sr), (tm_c1 sr sd B n), At, 0, 0, 0, 0, 0)).2.2.2.2.1), .int ((tm_run tm_ts F k lim ((tm_r1 sr), (tm_c1 sr sd B n), At, 0, 0, 0, 0, 0)).2.2.2.2.2.1), .int ((tm_run tm_ts F k lim ((tm_r1 sr), (tm_c1 sr sd B n), At, 0, 0, 0, 0, 0)).2.2.2.2.2.2.1), .ref t])), (taR, .inl (cI, 8, .inl ((tm_run tm_ts F k lim ((tm_r1 sr), (tm_c1 sr sd B n), At, 0, 0, 0, 0, 0)).1))), (taC, .inl (cI, 64, .inl ((tm_run tm_ts F k lim ((tm_r1 sr), (tm_c1 sr sd B n), At, 0, 0, 0, 0, 0)).2.1))), (taA, .inl (cI, 120, .inl ((tm_run tm_ts F k lim ((tm_r1 sr), (tm_c1 sr sd B n), At, 0, 0, 0, 0, 0)).2.2.1))), (cL, .inr (1, [.ref cF, .int (nI k)])), (cF, .inl (cI, 868, .inl F))]) (va_runU (As := [.int (nI lim)]) (rest := []) (C := R_Ta) ⟨hx, hb, hml, hown, hg⟩ (c_Ta_work l D cI cZ cJ ta cL taR taC taA cF t (tm_r1 sr) (tm_c1 sr sd B n) At F k 0 0 0 0 0 lim (by omega) (hiv) (by omega) (by omega) H.size) (xg_O (x := ⟨"TwoMachines$Machine", "work", "(I)V"⟩) (owner := R_Ma) hg m_Ma_work q463 q465 rfl m_Ma_work q467 ⟨by decide, by decide, by decide +kernel⟩ rfl rfl ⟨Nat.le_of_ble_eq_true rfl, Nat.le_of_ble_eq_true rfl⟩) ⟨xw_blind, (va_recv (q0 := 13) hK.1 hP rfl rfl), xw_pre hK hP hD [13, 14, 15, 16, 4, 5] (by decide) rfl⟩ rfl rfl hl.1 rfl (lv_room (Nat.le_of_ble_eq_true rfl)) d_TM_run_69 ⟨Nat.zero_le _, Nat.zero_le _⟩) hP hD hS hA [13, 14, 15, 16, 4, 5] [0, 1, 2, 3, 6, 7, 8, 9, 10, 11, 12] [0, 1, 2, 3, 15, 16, 4, 5, 6, 7, 8, 9, 10, 11, 12, 13, 14] rfl rfl (by decide) (by decide) rfl (by decide) (fun H locs hP hD hS => ?_)
  refine lv_aload_n hx hb d_TM_run_72 rfl (lv_at hl 0 rfl) ?_
  refine va_get (D := D) (ci := 4) (v := .int ((tm_run tm_ts F k lim ((tm_r1 sr), (tm_c1 sr sd B n), At, 0, 0, 0, 0, 0)).2.2.2.2.2.1)) (C := R_Ta) (T := F_Ta) (N := 9) hx hb hg f_Ta hown hK.1 hP 13 rfl rfl 6 (by decide) (hg _ q100) (fun _ h9 => h9) rfl d_TM_run_73 ?_
  have ew1 : nI (tm_run tm_ts F k lim ((tm_r1 sr), (tm_c1 sr sd B n), At, 0, 0, 0, 0, 0)).2.2.2.1 = nI (tm_run tm_ts F k lim (tm_r1 sr, tm_c1 sr sd B n, At, 0, 0, 0, 0, 0)).2.2.2.1 := congrArg nI (by first | (simp []; done) | (simp []; omega) | omega)
  have ew2 : (tm_run tm_ts F k lim ((tm_r1 sr), (tm_c1 sr sd B n), At, 0, 0, 0, 0, 0)).2.2.2.2.1 = (tm_run tm_ts F k lim (tm_r1 sr, tm_c1 sr sd B n, At, 0, 0, 0, 0, 0)).2.2.2.2.1 := by first | rfl | simp []
  have ew3 : (tm_run tm_ts F k lim ((tm_r1 sr), (tm_c1 sr sd B n), At, 0, 0, 0, 0, 0)).2.2.2.2.2.1 = (tm_run tm_ts F k lim (tm_r1 sr, tm_c1 sr sd B n, At, 0, 0, 0, 0, 0)).2.2.2.2.2.1 := by first | rfl | simp []
  have ew4 : (tm_run tm_ts F k lim ((tm_r1 sr), (tm_c1 sr sd B n), At, 0, 0, 0, 0, 0)).2.2.2.2.2.2.1 = (tm_run tm_ts F k lim (tm_r1 sr, tm_c1 sr sd B n, At, 0, 0, 0, 0, 0)).2.2.2.2.2.2.1 := by first | rfl | simp []
  have ew5 : (tm_run tm_ts F k lim ((tm_r1 sr), (tm_c1 sr sd B n), At, 0, 0, 0, 0, 0)).1 = (tm_run tm_ts F k lim (tm_r1 sr, tm_c1 sr sd B n, At, 0, 0, 0, 0, 0)).1 := by first | rfl | simp []
  have ew6 : (tm_run tm_ts F k lim ((tm_r1 sr), (tm_c1 sr sd B n), At, 0, 0, 0, 0, 0)).2.1 = (tm_run tm_ts F k lim (tm_r1 sr, tm_c1 sr sd B n, At, 0, 0, 0, 0, 0)).2.1 := by first | rfl | simp []
  have ew7 : (tm_run tm_ts F k lim ((tm_r1 sr), (tm_c1 sr sd B n), At, 0, 0, 0, 0, 0)).2.2.1 = (tm_run tm_ts F k lim (tm_r1 sr, tm_c1 sr sd B n, At, 0, 0, 0, 0, 0)).2.2.1 := by first | rfl | simp []
  have hP : va_P D cls [(x0, .inr (0, [.ref pL, .ref t, .ref sR, .ref sD, .ref so, .ref ta])), (pL, .inr (1, [.ref pF, .int (nI n)])), (pF, .inl (cI, 96, .inl P)), (t, .inr (2, [.ref pL, .ref cL, .ref bA])), (cL, .inr (1, [.ref cF, .int (nI k)])), (cF, .inl (cI, 868, .inl F)), (bA, .inl (cI, 25, .inl B)), (sR, .inl (cI, 8, .inl sr)), (sD, .inl (cI, 32, .inl sd)), (so, .inr (3, [.ref pL, .ref soR, .ref soC, .ref soA, .int (nI ks), .int hs, .int ds, .int es, .int xs])), (soR, .inl (cI, 8, .inl Rs)), (soC, .inl (cI, 32, .inl Cs)), (soA, .inl (cI, 120, .inl As)), (ta, .inr (4, [.ref cL, .ref taR, .ref taC, .ref taA, .int (nI (tm_run tm_ts F k lim (tm_r1 sr, tm_c1 sr sd B n, At, 0, 0, 0, 0, 0)).2.2.2.1), .int ((tm_run tm_ts F k lim (tm_r1 sr, tm_c1 sr sd B n, At, 0, 0, 0, 0, 0)).2.2.2.2.1), .int ((tm_run tm_ts F k lim (tm_r1 sr, tm_c1 sr sd B n, At, 0, 0, 0, 0, 0)).2.2.2.2.2.1), .int ((tm_run tm_ts F k lim (tm_r1 sr, tm_c1 sr sd B n, At, 0, 0, 0, 0, 0)).2.2.2.2.2.2.1), .ref t])), (taR, .inl (cI, 8, .inl ((tm_run tm_ts F k lim (tm_r1 sr, tm_c1 sr sd B n, At, 0, 0, 0, 0, 0)).1))), (taC, .inl (cI, 64, .inl ((tm_run tm_ts F k lim (tm_r1 sr, tm_c1 sr sd B n, At, 0, 0, 0, 0, 0)).2.1))), (taA, .inl (cI, 120, .inl ((tm_run tm_ts F k lim (tm_r1 sr, tm_c1 sr sd B n, At, 0, 0, 0, 0, 0)).2.2.1)))] H := by rw [← ew1, ← ew2, ← ew3, ← ew4, ← ew5, ← ew6, ← ew7]; exact hP
  have hD : va_D A [(x0, .inr (0, [.ref pL, .ref t, .ref sR, .ref sD, .ref so, .ref ta])), (pL, .inr (1, [.ref pF, .int (nI n)])), (pF, .inl (cI, 96, .inl P)), (t, .inr (2, [.ref pL, .ref cL, .ref bA])), (cL, .inr (1, [.ref cF, .int (nI k)])), (cF, .inl (cI, 868, .inl F)), (bA, .inl (cI, 25, .inl B)), (sR, .inl (cI, 8, .inl sr)), (sD, .inl (cI, 32, .inl sd)), (so, .inr (3, [.ref pL, .ref soR, .ref soC, .ref soA, .int (nI ks), .int hs, .int ds, .int es, .int xs])), (soR, .inl (cI, 8, .inl Rs)), (soC, .inl (cI, 32, .inl Cs)), (soA, .inl (cI, 120, .inl As)), (ta, .inr (4, [.ref cL, .ref taR, .ref taC, .ref taA, .int (nI (tm_run tm_ts F k lim (tm_r1 sr, tm_c1 sr sd B n, At, 0, 0, 0, 0, 0)).2.2.2.1), .int ((tm_run tm_ts F k lim (tm_r1 sr, tm_c1 sr sd B n, At, 0, 0, 0, 0, 0)).2.2.2.2.1), .int ((tm_run tm_ts F k lim (tm_r1 sr, tm_c1 sr sd B n, At, 0, 0, 0, 0, 0)).2.2.2.2.2.1), .int ((tm_run tm_ts F k lim (tm_r1 sr, tm_c1 sr sd B n, At, 0, 0, 0, 0, 0)).2.2.2.2.2.2.1), .ref t])), (taR, .inl (cI, 8, .inl ((tm_run tm_ts F k lim (tm_r1 sr, tm_c1 sr sd B n, At, 0, 0, 0, 0, 0)).1))), (taC, .inl (cI, 64, .inl ((tm_run tm_ts F k lim (tm_r1 sr, tm_c1 sr sd B n, At, 0, 0, 0, 0, 0)).2.1))), (taA, .inl (cI, 120, .inl ((tm_run tm_ts F k lim (tm_r1 sr, tm_c1 sr sd B n, At, 0, 0, 0, 0, 0)).2.2.1)))] := by rw [← ew1, ← ew2, ← ew3, ← ew4, ← ew5, ← ew6, ← ew7]; exact hD
  exact W.iret (v := (tm_run tm_ts F k lim ((tm_r1 sr), (tm_c1 sr sd B n), At, 0, 0, 0, 0, 0)).2.2.2.2.2.1) hx hb hr (fun t9 ht9 hW9 => ⟨⟨(tm_run tm_ts F k lim ((tm_r1 sr), (tm_c1 sr sd B n), At, 0, 0, 0, 0, 0)).2.2.2.2.2.1, (), rfl, by simp [], by rw [ht9]; exact hP, hD⟩, hS.F ht9⟩) hS.2.2 d_TM_run_76

set_option maxHeartbeats 4000000 in
set_option maxRecDepth 100000 in
theorem c_TM_run_1 (l : Launch) (hL : xe_L l) (D : va_G) (cI cZ cJ : ClassId) (x0 pL pF t cL cF bA sR sD so soR soC soA ta taR taC taA : Nat) (P F B sr sd Rs Cs As Rt Ct At : Nat → Int32) (n k ks kt : Nat) (hs ds es xs ht dt et : Int32) (y z : Int32) (hbad : tm_im y = 0 ∨ tm_wi z 0 2000 = 0) : xt_Met l y_TM_run b_TM_run 4 (some .int) { frames := 6, cells := 1, slots := 6, locals := 81 } [.ref x0, .int y, .int z] (xtb D cls [(x0, .inr (0, [.ref pL, .ref t, .ref sR, .ref sD, .ref so, .ref ta])), (pL, .inr (1, [.ref pF, .int (nI n)])), (pF, .inl (cI, 96, .inl P)), (t, .inr (2, [.ref pL, .ref cL, .ref bA])), (cL, .inr (1, [.ref cF, .int (nI k)])), (cF, .inl (cI, 868, .inl F)), (bA, .inl (cI, 25, .inl B)), (sR, .inl (cI, 8, .inl sr)), (sD, .inl (cI, 32, .inl sd)), (so, .inr (3, [.ref pL, .ref soR, .ref soC, .ref soA, .int (nI ks), .int hs, .int ds, .int es, .int xs])), (soR, .inl (cI, 8, .inl Rs)), (soC, .inl (cI, 32, .inl Cs)), (soA, .inl (cI, 120, .inl As)), (ta, .inr (4, [.ref cL, .ref taR, .ref taC, .ref taA, .int (nI kt), .int ht, .int dt, .int et, .ref t])), (taR, .inl (cI, 8, .inl Rt)), (taC, .inl (cI, 64, .inl Ct)), (taA, .inl (cI, 120, .inl At))] (tyL cI cZ cJ)) "java/lang/IllegalArgumentException" := by
  refine xe_ofW (cc := b_TM_run) (maxL := 4) (ret := (some .int)) (by decide) rfl ?_
  intro p e s m args below meth c s₁ B0 hadm hnone hml hv
  obtain ⟨rfl, ⟨hP, hK⟩, hT⟩ := hv
  have hx := B0.exec
  have hb := B0.bytes
  have hr := B0.returns
  have hlocks := B0.notSynchronized
  have hg : ∀ w ∈ gG, w.before _ s = true := fun w h => atoms_spec B0.pre w (List.mem_cons_of_mem _ h)
  have hown : s.vm.findClass R_TM = some m.cls := findClass_of_methodNamed B0.named
  have hP : va_P D cls [(x0, .inr (0, [.ref pL, .ref t, .ref sR, .ref sD, .ref so, .ref ta])), (pL, .inr (1, [.ref pF, .int (nI n)])), (pF, .inl (cI, 96, .inl P)), (t, .inr (2, [.ref pL, .ref cL, .ref bA])), (cL, .inr (1, [.ref cF, .int (nI k)])), (cF, .inl (cI, 868, .inl F)), (bA, .inl (cI, 25, .inl B)), (sR, .inl (cI, 8, .inl sr)), (sD, .inl (cI, 32, .inl sd)), (so, .inr (3, [.ref pL, .ref soR, .ref soC, .ref soA, .int (nI ks), .int hs, .int ds, .int es, .int xs])), (soR, .inl (cI, 8, .inl Rs)), (soC, .inl (cI, 32, .inl Cs)), (soA, .inl (cI, 120, .inl As)), (ta, .inr (4, [.ref cL, .ref taR, .ref taC, .ref taA, .int (nI kt), .int ht, .int dt, .int et, .ref t])), (taR, .inl (cI, 8, .inl Rt)), (taC, .inl (cI, 64, .inl Ct)), (taA, .inl (cI, 120, .inl At))] s.heap := hP
  have hl := lv_entry ([.ref x0, .int y, .int z]) (n := 4) (Nat.le_of_ble_eq_true rfl)
  rw [lg_entry_eq]
  generalize (lg_sl ([.ref x0, .int y, .int z]) ++ List.replicate (4 - (lg_sl ([.ref x0, .int y, .int z])).length) Slot.unset).toArray = ls at hl ⊢
  have hl : lv_has ls 4 [(0, .ref x0), (1, .int y), (2, .int z)] := hl
  refine lv_iload_n hx hb d_TM_run_0 rfl (lv_at hl 1 rfl) ?_
  refine xr_S (As := [.int y]) (rest := []) ⟨hx, hb, hml, hown, hg⟩ (c_TM_isMachine l D cI cZ cJ y) m_TM_isMachine q267 ⟨rfl, rfl⟩ ⟨Nat.le_of_ble_eq_true rfl, Nat.le_of_ble_eq_true rfl⟩ hK hP [] rfl rfl hl.1 rfl (Nat.le_of_ble_eq_true rfl) d_TM_run_1 ⟨Nat.zero_le _, Nat.zero_le _⟩ ?_
  refine lv_if_eq (tgt := 18) hx hb d_TM_run_4 rfl (fun g1 => ?_) (fun g1 => ?_)
  · exact xe_new (names := ["java/lang/RuntimeException", "java/lang/Exception"]) hx hb (hL e hadm) hnone hlocks hml hl.1 hown (hg _ q295) (hg _ q11) (by decide) (by decide) (xt_iae hg hT) d_TM_run_18 d_TM_run_21 d_TM_run_22 d_TM_run_25 (Nat.le_of_ble_eq_true rfl) (Nat.le_of_ble_eq_true rfl) (Nat.le_of_ble_eq_true rfl) (Nat.le_of_ble_eq_true rfl)
  · refine lv_iload_n hx hb d_TM_run_7 rfl (lv_at hl 2 rfl) ?_
    refine lv_iconst (v := 0) hx hb d_TM_run_8 (by decide) ?_
    refine lv_sipush (v := 2000) hx hb d_TM_run_9 (by decide) ?_
    refine xr_S (As := [.int z, .int 0, .int 2000]) (rest := []) ⟨hx, hb, hml, hown, hg⟩ (c_TM_isWithin l D cI cZ cJ z 0 2000) m_TM_isWithin q274 ⟨rfl, rfl⟩ ⟨Nat.le_of_ble_eq_true rfl, Nat.le_of_ble_eq_true rfl⟩ hK hP [] rfl rfl hl.1 rfl (Nat.le_of_ble_eq_true rfl) d_TM_run_12 ⟨Nat.zero_le _, Nat.zero_le _⟩ ?_
    refine lv_if_ne (tgt := 26) hx hb d_TM_run_15 rfl (fun g2 => ?_) (fun g2 => ?_)
    · exact absurd hbad (not_or.mpr ⟨g1, g2⟩)
    · exact xe_new (names := ["java/lang/RuntimeException", "java/lang/Exception"]) hx hb (hL e hadm) hnone hlocks hml hl.1 hown (hg _ q295) (hg _ q11) (by decide) (by decide) (xt_iae hg hT) d_TM_run_18 d_TM_run_21 d_TM_run_22 d_TM_run_25 (Nat.le_of_ble_eq_true rfl) (Nat.le_of_ble_eq_true rfl) (Nat.le_of_ble_eq_true rfl) (Nat.le_of_ble_eq_true rfl)

set_option maxHeartbeats 4000000 in
set_option maxRecDepth 100000 in
theorem c_TM_run_2 (l : Launch) (hL : xe_L l) (D : va_G) (cI cZ cJ : ClassId) (x0 pL pF t cL cF bA sR sD so soR soC soA ta taR taC taA : Nat) (P F B sr sd Rs Cs As Rt Ct At : Nat → Int32) (n k ks kt : Nat) (hs ds es xs ht dt et : Int32) (z : Int32) (g1 : ¬ tm_wi z 0 2000 = 0) (g2 : k = 0) : xt_Met l y_TM_run b_TM_run 4 (some .int) { frames := 6, cells := 1, slots := 6, locals := 81 } [.ref x0, .int 1, .int z] (xtb D cls [(x0, .inr (0, [.ref pL, .ref t, .ref sR, .ref sD, .ref so, .ref ta])), (pL, .inr (1, [.ref pF, .int (nI n)])), (pF, .inl (cI, 96, .inl P)), (t, .inr (2, [.ref pL, .ref cL, .ref bA])), (cL, .inr (1, [.ref cF, .int (nI k)])), (cF, .inl (cI, 868, .inl F)), (bA, .inl (cI, 25, .inl B)), (sR, .inl (cI, 8, .inl sr)), (sD, .inl (cI, 32, .inl sd)), (so, .inr (3, [.ref pL, .ref soR, .ref soC, .ref soA, .int (nI ks), .int hs, .int ds, .int es, .int xs])), (soR, .inl (cI, 8, .inl Rs)), (soC, .inl (cI, 32, .inl Cs)), (soA, .inl (cI, 120, .inl As)), (ta, .inr (4, [.ref cL, .ref taR, .ref taC, .ref taA, .int (nI kt), .int ht, .int dt, .int et, .ref t])), (taR, .inl (cI, 8, .inl Rt)), (taC, .inl (cI, 64, .inl Ct)), (taA, .inl (cI, 120, .inl At))] (tyL cI cZ cJ)) "java/lang/IllegalStateException" := by
  refine xe_ofW (cc := b_TM_run) (maxL := 4) (ret := (some .int)) (by decide) rfl ?_
  intro p e s m args below meth c s₁ B0 hadm hnone hml hv
  obtain ⟨rfl, ⟨hP, hK⟩, hT⟩ := hv
  have hx := B0.exec
  have hb := B0.bytes
  have hr := B0.returns
  have hlocks := B0.notSynchronized
  have hg : ∀ w ∈ gG, w.before _ s = true := fun w h => atoms_spec B0.pre w (List.mem_cons_of_mem _ h)
  have hown : s.vm.findClass R_TM = some m.cls := findClass_of_methodNamed B0.named
  have hP : va_P D cls [(x0, .inr (0, [.ref pL, .ref t, .ref sR, .ref sD, .ref so, .ref ta])), (pL, .inr (1, [.ref pF, .int (nI n)])), (pF, .inl (cI, 96, .inl P)), (t, .inr (2, [.ref pL, .ref cL, .ref bA])), (cL, .inr (1, [.ref cF, .int (nI k)])), (cF, .inl (cI, 868, .inl F)), (bA, .inl (cI, 25, .inl B)), (sR, .inl (cI, 8, .inl sr)), (sD, .inl (cI, 32, .inl sd)), (so, .inr (3, [.ref pL, .ref soR, .ref soC, .ref soA, .int (nI ks), .int hs, .int ds, .int es, .int xs])), (soR, .inl (cI, 8, .inl Rs)), (soC, .inl (cI, 32, .inl Cs)), (soA, .inl (cI, 120, .inl As)), (ta, .inr (4, [.ref cL, .ref taR, .ref taC, .ref taA, .int (nI kt), .int ht, .int dt, .int et, .ref t])), (taR, .inl (cI, 8, .inl Rt)), (taC, .inl (cI, 64, .inl Ct)), (taA, .inl (cI, 120, .inl At))] s.heap := hP
  have hl := lv_entry ([.ref x0, .int 1, .int z]) (n := 4) (Nat.le_of_ble_eq_true rfl)
  rw [lg_entry_eq]
  generalize (lg_sl ([.ref x0, .int 1, .int z]) ++ List.replicate (4 - (lg_sl ([.ref x0, .int 1, .int z])).length) Slot.unset).toArray = ls at hl ⊢
  have hl : lv_has ls 4 [(0, .ref x0), (1, .int 1), (2, .int z)] := hl
  refine lv_iload_n hx hb d_TM_run_0 rfl (lv_at hl 1 rfl) ?_
  refine xr_S (As := [.int 1]) (rest := []) ⟨hx, hb, hml, hown, hg⟩ (c_TM_isMachine l D cI cZ cJ 1) m_TM_isMachine q267 ⟨rfl, rfl⟩ ⟨Nat.le_of_ble_eq_true rfl, Nat.le_of_ble_eq_true rfl⟩ hK hP [] rfl rfl hl.1 rfl (Nat.le_of_ble_eq_true rfl) d_TM_run_1 ⟨Nat.zero_le _, Nat.zero_le _⟩ ?_
  refine lv_if_eq (tgt := 18) hx hb d_TM_run_4 rfl (fun hz9 => absurd hz9 (by decide)) (fun _ => ?_)
  refine lv_iload_n hx hb d_TM_run_7 rfl (lv_at hl 2 rfl) ?_
  refine lv_iconst (v := 0) hx hb d_TM_run_8 (by decide) ?_
  refine lv_sipush (v := 2000) hx hb d_TM_run_9 (by decide) ?_
  refine xr_S (As := [.int z, .int 0, .int 2000]) (rest := []) ⟨hx, hb, hml, hown, hg⟩ (c_TM_isWithin l D cI cZ cJ z 0 2000) m_TM_isWithin q274 ⟨rfl, rfl⟩ ⟨Nat.le_of_ble_eq_true rfl, Nat.le_of_ble_eq_true rfl⟩ hK hP [] rfl rfl hl.1 rfl (Nat.le_of_ble_eq_true rfl) d_TM_run_12 ⟨Nat.zero_le _, Nat.zero_le _⟩ ?_
  refine lv_if_ne (tgt := 26) hx hb d_TM_run_15 rfl (fun _ => ?_) (fun hz9 => absurd hz9 (g1))
  refine lv_iload_n hx hb d_TM_run_26 rfl (lv_at hl 1 rfl) ?_
  refine lv_iconst (v := 1) hx hb d_TM_run_27 (by decide) ?_
  refine lv_icmp_ne (tgt := 49) hx hb d_TM_run_28 rfl (fun hz9 => absurd (by decide) hz9) (fun _ => ?_)
  refine lv_aload_n hx hb d_TM_run_31 rfl (lv_at hl 0 rfl) ?_
  refine va_get (D := D) (ci := 0) (v := .ref t) (C := R_TM) (T := F_TM) (N := 6) hx hb hg f_TM hown hK.1 hP 0 rfl rfl 1 (by decide) (hg _ q141) (fun _ h9 => h9) rfl d_TM_run_32 ?_
  refine xr_V (C := R_Tr) (As := []) (rest := []) ⟨hx, hb, hml, hown, hg⟩ (c_Tr_isThere l D cI cZ cJ t pL pF cL cF bA P F B n k) m_Tr_isThere q406 q408 ⟨rfl, rfl⟩ ⟨Nat.le_of_ble_eq_true rfl, Nat.le_of_ble_eq_true rfl⟩ hK hP [3, 1, 2, 4, 5, 6] rfl (va_recv (q0 := 3) hK.1 hP rfl rfl) rfl hl.1 rfl (Nat.le_of_ble_eq_true rfl) d_TM_run_35 ⟨Nat.zero_le _, Nat.zero_le _⟩ ?_
  refine lv_if_ne (tgt := 49) hx hb d_TM_run_38 rfl (fun hz9 => absurd (by rw [g2]; rfl) hz9) (fun _ => ?_)
  exact xe_new (names := ["java/lang/RuntimeException", "java/lang/Exception"]) hx hb (hL e hadm) hnone hlocks hml hl.1 hown (hg _ q358) (hg _ q12) (by decide) (by decide) (xt_ise hg hT) d_TM_run_41 d_TM_run_44 d_TM_run_45 d_TM_run_48 (Nat.le_of_ble_eq_true rfl) (Nat.le_of_ble_eq_true rfl) (Nat.le_of_ble_eq_true rfl) (Nat.le_of_ble_eq_true rfl)
