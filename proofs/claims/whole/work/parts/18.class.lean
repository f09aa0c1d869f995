/-! THE CLASS: its small questions, and the calls that do what they are asked (printed by wip/whole/gen/c18.py) -/
set_option maxHeartbeats 4000000 in
set_option maxRecDepth 100000 in
theorem c_TM_isWithin (l : Launch) (D : va_G) (cI cZ cJ : ClassId) (x lo hi : Int32) : xr_Met l y_TM_isWithin b_TM_isWithin 3 (some .boolean) { frames := 0, cells := 0, slots := 0, locals := 0 } [.int x, .int lo, .int hi] (xb D cls [] (tyL cI cZ cJ)) (tm_wi x lo hi) := by
  refine Met.ofW (cc := b_TM_isWithin) (maxL := 3) (ret := (some .boolean)) (by decide) rfl ?_
  intro p e s m args below meth c s₁ B0 hml hv
  obtain ⟨rfl, hP, hK⟩ := hv
  have hx := B0.exec
  have hb := B0.bytes
  have hr := B0.returns
  have hlocks := B0.notSynchronized
  have hg : ∀ w ∈ gG, w.before _ s = true := fun w h => atoms_spec B0.pre w (List.mem_cons_of_mem _ h)
  have hown : s.vm.findClass R_TM = some m.cls := findClass_of_methodNamed B0.named
  have hP : va_P D cls [] s.heap := hP
  have hl := lv_entry ([.int x, .int lo, .int hi]) (n := 3) (Nat.le_of_ble_eq_true rfl)
  rw [lg_entry_eq]
  generalize (lg_sl ([.int x, .int lo, .int hi]) ++ List.replicate (3 - (lg_sl ([.int x, .int lo, .int hi])).length) Slot.unset).toArray = ls at hl ⊢
  have hl : lv_has ls 3 [(0, .int x), (1, .int lo), (2, .int hi)] := hl
  refine lv_iload_n hx hb d_TM_isWithin_0 rfl (lv_at hl 0 rfl) ?_
  refine lv_iload_n hx hb d_TM_isWithin_1 rfl (lv_at hl 1 rfl) ?_
  refine lv_icmp_lt (tgt := 14) hx hb d_TM_isWithin_2 rfl (fun h89 => ?_) (fun h89 => ?_)
  · refine lv_iconst (v := 0) hx hb d_TM_isWithin_14 (by decide) ?_
    exact W.zret (v := 0) hx hb hr (rfl) (fun t9 ht9 hW9 => ⟨0, rfl, by simp [tm_wi, h89], ht9⟩) (fun _ h => by cases h) d_TM_isWithin_15
  · refine lv_iload_n hx hb d_TM_isWithin_5 rfl (lv_at hl 0 rfl) ?_
    refine lv_iload_n hx hb d_TM_isWithin_6 rfl (lv_at hl 2 rfl) ?_
    refine lv_icmp_gt (tgt := 14) hx hb d_TM_isWithin_7 rfl (fun h90 => ?_) (fun h90 => ?_)
    · refine lv_iconst (v := 0) hx hb d_TM_isWithin_14 (by decide) ?_
      exact W.zret (v := 0) hx hb hr (rfl) (fun t9 ht9 hW9 => ⟨0, rfl, by simp [tm_wi, h89, h90], ht9⟩) (fun _ h => by cases h) d_TM_isWithin_15
    · refine lv_iconst (v := 1) hx hb d_TM_isWithin_10 (by decide) ?_
      refine lv_goto (tgt := 15) hx hb d_TM_isWithin_11 rfl ?_
      exact W.zret (v := 1) hx hb hr (rfl) (fun t9 ht9 hW9 => ⟨1, rfl, by simp [tm_wi, h89, h90], ht9⟩) (fun _ h => by cases h) d_TM_isWithin_15

set_option maxHeartbeats 4000000 in
set_option maxRecDepth 100000 in
theorem c_TM_isNumber (l : Launch) (D : va_G) (cI cZ cJ : ClassId) (x : Int32) : xr_Met l y_TM_isNumber b_TM_isNumber 1 (some .boolean) { frames := 1, cells := 0, slots := 0, locals := 22 } [.int x] (xb D cls [] (tyL cI cZ cJ)) (tm_wi x (-32768) 32767) := by
  refine Met.ofW (cc := b_TM_isNumber) (maxL := 1) (ret := (some .boolean)) (by decide) rfl ?_
  intro p e s m args below meth c s₁ B0 hml hv
  obtain ⟨rfl, hP, hK⟩ := hv
  have hx := B0.exec
  have hb := B0.bytes
  have hr := B0.returns
  have hlocks := B0.notSynchronized
  have hg : ∀ w ∈ gG, w.before _ s = true := fun w h => atoms_spec B0.pre w (List.mem_cons_of_mem _ h)
  have hown : s.vm.findClass R_TM = some m.cls := findClass_of_methodNamed B0.named
  have hP : va_P D cls [] s.heap := hP
  have hl := lv_entry ([.int x]) (n := 1) (Nat.le_of_ble_eq_true rfl)
  rw [lg_entry_eq]
  generalize (lg_sl ([.int x]) ++ List.replicate (1 - (lg_sl ([.int x])).length) Slot.unset).toArray = ls at hl ⊢
  have hl : lv_has ls 1 [(0, .int x)] := hl
  refine lv_iload_n hx hb d_TM_isNumber_0 rfl (lv_at hl 0 rfl) ?_
  refine lv_sipush (v := -32768) hx hb d_TM_isNumber_1 (by decide) ?_
  refine lv_sipush (v := 32767) hx hb d_TM_isNumber_4 (by decide) ?_
  refine xr_S (As := [.int x, .int (-32768), .int 32767]) (rest := []) ⟨hx, hb, hml, hown, hg⟩ (c_TM_isWithin l D cI cZ cJ x (-32768) 32767) m_TM_isWithin q274 ⟨rfl, rfl⟩ ⟨Nat.le_of_ble_eq_true rfl, Nat.le_of_ble_eq_true rfl⟩ hK hP [] rfl rfl hl.1 rfl (Nat.le_of_ble_eq_true rfl) d_TM_isNumber_7 ⟨Nat.zero_le _, Nat.zero_le _⟩ ?_
  exact W.zret (v := tm_wi x (-32768) 32767) hx hb hr (xz_wi _ _ _) (fun t9 ht9 hW9 => ⟨tm_wi x (-32768) 32767, rfl, rfl, ht9⟩) (fun _ h => by cases h) d_TM_isNumber_10

set_option maxHeartbeats 4000000 in
set_option maxRecDepth 100000 in
theorem c_TM_isDataCell (l : Launch) (D : va_G) (cI cZ cJ : ClassId) (x : Int32) : xr_Met l y_TM_isDataCell b_TM_isDataCell 1 (some .boolean) { frames := 1, cells := 0, slots := 0, locals := 22 } [.int x] (xb D cls [] (tyL cI cZ cJ)) (tm_wi x 0 31) := by
  refine Met.ofW (cc := b_TM_isDataCell) (maxL := 1) (ret := (some .boolean)) (by decide) rfl ?_
  intro p e s m args below meth c s₁ B0 hml hv
  obtain ⟨rfl, hP, hK⟩ := hv
  have hx := B0.exec
  have hb := B0.bytes
  have hr := B0.returns
  have hlocks := B0.notSynchronized
  have hg : ∀ w ∈ gG, w.before _ s = true := fun w h => atoms_spec B0.pre w (List.mem_cons_of_mem _ h)
  have hown : s.vm.findClass R_TM = some m.cls := findClass_of_methodNamed B0.named
  have hP : va_P D cls [] s.heap := hP
  have hl := lv_entry ([.int x]) (n := 1) (Nat.le_of_ble_eq_true rfl)
  rw [lg_entry_eq]
  generalize (lg_sl ([.int x]) ++ List.replicate (1 - (lg_sl ([.int x])).length) Slot.unset).toArray = ls at hl ⊢
  have hl : lv_has ls 1 [(0, .int x)] := hl
  refine lv_iload_n hx hb d_TM_isDataCell_0 rfl (lv_at hl 0 rfl) ?_
  refine lv_iconst (v := 0) hx hb d_TM_isDataCell_1 (by decide) ?_
  refine lv_bipush (v := 31) hx hb d_TM_isDataCell_2 (by decide) ?_
  refine xr_S (As := [.int x, .int 0, .int 31]) (rest := []) ⟨hx, hb, hml, hown, hg⟩ (c_TM_isWithin l D cI cZ cJ x 0 31) m_TM_isWithin q274 ⟨rfl, rfl⟩ ⟨Nat.le_of_ble_eq_true rfl, Nat.le_of_ble_eq_true rfl⟩ hK hP [] rfl rfl hl.1 rfl (Nat.le_of_ble_eq_true rfl) d_TM_isDataCell_4 ⟨Nat.zero_le _, Nat.zero_le _⟩ ?_
  exact W.zret (v := tm_wi x 0 31) hx hb hr (xz_wi _ _ _) (fun t9 ht9 hW9 => ⟨tm_wi x 0 31, rfl, rfl, ht9⟩) (fun _ h => by cases h) d_TM_isDataCell_7

set_option maxHeartbeats 4000000 in
set_option maxRecDepth 100000 in
theorem c_TM_isMachine (l : Launch) (D : va_G) (cI cZ cJ : ClassId) (x : Int32) : xr_Met l y_TM_isMachine b_TM_isMachine 1 (some .boolean) { frames := 0, cells := 0, slots := 0, locals := 0 } [.int x] (xb D cls [] (tyL cI cZ cJ)) (tm_im x) := by
  refine Met.ofW (cc := b_TM_isMachine) (maxL := 1) (ret := (some .boolean)) (by decide) rfl ?_
  intro p e s m args below meth c s₁ B0 hml hv
  obtain ⟨rfl, hP, hK⟩ := hv
  have hx := B0.exec
  have hb := B0.bytes
  have hr := B0.returns
  have hlocks := B0.notSynchronized
  have hg : ∀ w ∈ gG, w.before _ s = true := fun w h => atoms_spec B0.pre w (List.mem_cons_of_mem _ h)
  have hown : s.vm.findClass R_TM = some m.cls := findClass_of_methodNamed B0.named
  have hP : va_P D cls [] s.heap := hP
  have hl := lv_entry ([.int x]) (n := 1) (Nat.le_of_ble_eq_true rfl)
  rw [lg_entry_eq]
  generalize (lg_sl ([.int x]) ++ List.replicate (1 - (lg_sl ([.int x])).length) Slot.unset).toArray = ls at hl ⊢
  have hl : lv_has ls 1 [(0, .int x)] := hl
  refine lv_iload_n hx hb d_TM_isMachine_0 rfl (lv_at hl 0 rfl) ?_
  refine lv_if_eq (tgt := 9) hx hb d_TM_isMachine_1 rfl (fun h93 => ?_) (fun h93 => ?_)
  · refine lv_iconst (v := 1) hx hb d_TM_isMachine_9 (by decide) ?_
    refine lv_goto (tgt := 14) hx hb d_TM_isMachine_10 rfl ?_
    exact W.zret (v := 1) hx hb hr (rfl) (fun t9 ht9 hW9 => ⟨1, rfl, by simp [tm_im, h93], ht9⟩) (fun _ h => by cases h) d_TM_isMachine_14
  · refine lv_iload_n hx hb d_TM_isMachine_4 rfl (lv_at hl 0 rfl) ?_
    refine lv_iconst (v := 1) hx hb d_TM_isMachine_5 (by decide) ?_
    refine lv_icmp_ne (tgt := 13) hx hb d_TM_isMachine_6 rfl (fun h94 => ?_) (fun h94 => ?_)
    · refine lv_iconst (v := 0) hx hb d_TM_isMachine_13 (by decide) ?_
      exact W.zret (v := 0) hx hb hr (rfl) (fun t9 ht9 hW9 => ⟨0, rfl, by simp [tm_im, h93, h94], ht9⟩) (fun _ h => by cases h) d_TM_isMachine_14
    · refine lv_iconst (v := 1) hx hb d_TM_isMachine_9 (by decide) ?_
      refine lv_goto (tgt := 14) hx hb d_TM_isMachine_10 rfl ?_
      exact W.zret (v := 1) hx hb hr (rfl) (fun t9 ht9 hW9 => ⟨1, rfl, by simp [tm_im, h93, h94], ht9⟩) (fun _ h => by cases h) d_TM_isMachine_14

set_option maxHeartbeats 4000000 in
set_option maxRecDepth 100000 in
theorem c_TM_machineOf0 (l : Launch) (D : va_G) (cI cZ cJ : ClassId) (x0 pL pF t cL cF bA sR sD so soR soC soA ta taR taC taA : Nat) (P F B sr sd Rs Cs As Rt Ct At : Nat → Int32) (n k ks kt : Nat) (hs ds es xs ht dt et : Int32) : xq_Met l y_TM_machineOf b_TM_machineOf 2 (some (.object "TwoMachines$Machine")) { frames := 0, cells := 0, slots := 0, locals := 0 } [.ref x0, .int 0] (xb D cls [(x0, .inr (0, [.ref pL, .ref t, .ref sR, .ref sD, .ref so, .ref ta])), (pL, .inr (1, [.ref pF, .int (nI n)])), (pF, .inl (cI, 96, .inl P)), (t, .inr (2, [.ref pL, .ref cL, .ref bA])), (cL, .inr (1, [.ref cF, .int (nI k)])), (cF, .inl (cI, 868, .inl F)), (bA, .inl (cI, 25, .inl B)), (sR, .inl (cI, 8, .inl sr)), (sD, .inl (cI, 32, .inl sd)), (so, .inr (3, [.ref pL, .ref soR, .ref soC, .ref soA, .int (nI ks), .int hs, .int ds, .int es, .int xs])), (soR, .inl (cI, 8, .inl Rs)), (soC, .inl (cI, 32, .inl Cs)), (soA, .inl (cI, 120, .inl As)), (ta, .inr (4, [.ref cL, .ref taR, .ref taC, .ref taA, .int (nI kt), .int ht, .int dt, .int et, .ref t])), (taR, .inl (cI, 8, .inl Rt)), (taC, .inl (cI, 64, .inl Ct)), (taA, .inl (cI, 120, .inl At))] (tyL cI cZ cJ)) so := by
  refine Met.ofW (cc := b_TM_machineOf) (maxL := 2) (ret := (some (.object "TwoMachines$Machine"))) (by decide) rfl ?_
  intro p e s m args below meth c s₁ B0 hml hv
  obtain ⟨rfl, hP, hK⟩ := hv
  have hx := B0.exec
  have hb := B0.bytes
  have hr := B0.returns
  have hlocks := B0.notSynchronized
  have hg : ∀ w ∈ gG, w.before _ s = true := fun w h => atoms_spec B0.pre w (List.mem_cons_of_mem _ h)
  have hown : s.vm.findClass R_TM = some m.cls := findClass_of_methodNamed B0.named
  have hP : va_P D cls [(x0, .inr (0, [.ref pL, .ref t, .ref sR, .ref sD, .ref so, .ref ta])), (pL, .inr (1, [.ref pF, .int (nI n)])), (pF, .inl (cI, 96, .inl P)), (t, .inr (2, [.ref pL, .ref cL, .ref bA])), (cL, .inr (1, [.ref cF, .int (nI k)])), (cF, .inl (cI, 868, .inl F)), (bA, .inl (cI, 25, .inl B)), (sR, .inl (cI, 8, .inl sr)), (sD, .inl (cI, 32, .inl sd)), (so, .inr (3, [.ref pL, .ref soR, .ref soC, .ref soA, .int (nI ks), .int hs, .int ds, .int es, .int xs])), (soR, .inl (cI, 8, .inl Rs)), (soC, .inl (cI, 32, .inl Cs)), (soA, .inl (cI, 120, .inl As)), (ta, .inr (4, [.ref cL, .ref taR, .ref taC, .ref taA, .int (nI kt), .int ht, .int dt, .int et, .ref t])), (taR, .inl (cI, 8, .inl Rt)), (taC, .inl (cI, 64, .inl Ct)), (taA, .inl (cI, 120, .inl At))] s.heap := hP
  have hl := lv_entry ([.ref x0, .int 0]) (n := 2) (Nat.le_of_ble_eq_true rfl)
  rw [lg_entry_eq]
  generalize (lg_sl ([.ref x0, .int 0]) ++ List.replicate (2 - (lg_sl ([.ref x0, .int 0])).length) Slot.unset).toArray = ls at hl ⊢
  have hl : lv_has ls 2 [(0, .ref x0), (1, .int 0)] := hl
  refine lv_iload_n hx hb d_TM_machineOf_0 rfl (lv_at hl 1 rfl) ?_
  refine lv_if_ne (tgt := 11) hx hb d_TM_machineOf_1 rfl (fun hz9 => absurd (by decide) hz9) (fun _ => ?_)
  refine lv_aload_n hx hb d_TM_machineOf_4 rfl (lv_at hl 0 rfl) ?_
  refine va_get (D := D) (ci := 0) (v := .ref so) (C := R_TM) (T := F_TM) (N := 6) hx hb hg f_TM hown hK.1 hP 0 rfl rfl 4 (by decide) (hg _ q144) (fun _ h9 => h9) rfl d_TM_machineOf_5 ?_
  refine lv_goto (tgt := 15) hx hb d_TM_machineOf_8 rfl ?_
  exact W.aret (v := .ref so) hx hb hr (Or.inl ⟨_, rfl⟩) (Or.inr ⟨_, rfl⟩) (fun t9 ht9 hW9 => ⟨so, rfl, rfl, ht9⟩) (fun _ h => by cases h) d_TM_machineOf_15

set_option maxHeartbeats 4000000 in
set_option maxRecDepth 100000 in
theorem c_TM_machineOf1 (l : Launch) (D : va_G) (cI cZ cJ : ClassId) (x0 pL pF t cL cF bA sR sD so soR soC soA ta taR taC taA : Nat) (P F B sr sd Rs Cs As Rt Ct At : Nat → Int32) (n k ks kt : Nat) (hs ds es xs ht dt et : Int32) : xq_Met l y_TM_machineOf b_TM_machineOf 2 (some (.object "TwoMachines$Machine")) { frames := 0, cells := 0, slots := 0, locals := 0 } [.ref x0, .int 1] (xb D cls [(x0, .inr (0, [.ref pL, .ref t, .ref sR, .ref sD, .ref so, .ref ta])), (pL, .inr (1, [.ref pF, .int (nI n)])), (pF, .inl (cI, 96, .inl P)), (t, .inr (2, [.ref pL, .ref cL, .ref bA])), (cL, .inr (1, [.ref cF, .int (nI k)])), (cF, .inl (cI, 868, .inl F)), (bA, .inl (cI, 25, .inl B)), (sR, .inl (cI, 8, .inl sr)), (sD, .inl (cI, 32, .inl sd)), (so, .inr (3, [.ref pL, .ref soR, .ref soC, .ref soA, .int (nI ks), .int hs, .int ds, .int es, .int xs])), (soR, .inl (cI, 8, .inl Rs)), (soC, .inl (cI, 32, .inl Cs)), (soA, .inl (cI, 120, .inl As)), (ta, .inr (4, [.ref cL, .ref taR, .ref taC, .ref taA, .int (nI kt), .int ht, .int dt, .int et, .ref t])), (taR, .inl (cI, 8, .inl Rt)), (taC, .inl (cI, 64, .inl Ct)), (taA, .inl (cI, 120, .inl At))] (tyL cI cZ cJ)) ta := by
  refine Met.ofW (cc := b_TM_machineOf) (maxL := 2) (ret := (some (.object "TwoMachines$Machine"))) (by decide) rfl ?_
  intro p e s m args below meth c s₁ B0 hml hv
  obtain ⟨rfl, hP, hK⟩ := hv
  have hx := B0.exec
  have hb := B0.bytes
  have hr := B0.returns
  have hlocks := B0.notSynchronized
  have hg : ∀ w ∈ gG, w.before _ s = true := fun w h => atoms_spec B0.pre w (List.mem_cons_of_mem _ h)
  have hown : s.vm.findClass R_TM = some m.cls := findClass_of_methodNamed B0.named
  have hP : va_P D cls [(x0, .inr (0, [.ref pL, .ref t, .ref sR, .ref sD, .ref so, .ref ta])), (pL, .inr (1, [.ref pF, .int (nI n)])), (pF, .inl (cI, 96, .inl P)), (t, .inr (2, [.ref pL, .ref cL, .ref bA])), (cL, .inr (1, [.ref cF, .int (nI k)])), (cF, .inl (cI, 868, .inl F)), (bA, .inl (cI, 25, .inl B)), (sR, .inl (cI, 8, .inl sr)), (sD, .inl (cI, 32, .inl sd)), (so, .inr (3, [.ref pL, .ref soR, .ref soC, .ref soA, .int (nI ks), .int hs, .int ds, .int es, .int xs])), (soR, .inl (cI, 8, .inl Rs)), (soC, .inl (cI, 32, .inl Cs)), (soA, .inl (cI, 120, .inl As)), (ta, .inr (4, [.ref cL, .ref taR, .ref taC, .ref taA, .int (nI kt), .int ht, .int dt, .int et, .ref t])), (taR, .inl (cI, 8, .inl Rt)), (taC, .inl (cI, 64, .inl Ct)), (taA, .inl (cI, 120, .inl At))] s.heap := hP
  have hl := lv_entry ([.ref x0, .int 1]) (n := 2) (Nat.le_of_ble_eq_true rfl)
  rw [lg_entry_eq]
  generalize (lg_sl ([.ref x0, .int 1]) ++ List.replicate (2 - (lg_sl ([.ref x0, .int 1])).length) Slot.unset).toArray = ls at hl ⊢
  have hl : lv_has ls 2 [(0, .ref x0), (1, .int 1)] := hl
  refine lv_iload_n hx hb d_TM_machineOf_0 rfl (lv_at hl 1 rfl) ?_
  refine lv_if_ne (tgt := 11) hx hb d_TM_machineOf_1 rfl (fun _ => ?_) (fun hz9 => absurd hz9 (by decide))
  refine lv_aload_n hx hb d_TM_machineOf_11 rfl (lv_at hl 0 rfl) ?_
  refine va_get (D := D) (ci := 0) (v := .ref ta) (C := R_TM) (T := F_TM) (N := 6) hx hb hg f_TM hown hK.1 hP 0 rfl rfl 5 (by decide) (hg _ q145) (fun _ h9 => h9) rfl d_TM_machineOf_12 ?_
  exact W.aret (v := .ref ta) hx hb hr (Or.inl ⟨_, rfl⟩) (Or.inr ⟨_, rfl⟩) (fun t9 ht9 hW9 => ⟨ta, rfl, rfl, ht9⟩) (fun _ h => by cases h) d_TM_machineOf_15

set_option maxHeartbeats 4000000 in
set_option maxRecDepth 100000 in
theorem c_TM_size (l : Launch) (D : va_G) (cI cZ cJ : ClassId) (x0 pL pF t cL cF bA sR sD so soR soC soA ta taR taC taA : Nat) (P F B sr sd Rs Cs As Rt Ct At : Nat → Int32) (n k ks kt : Nat) (hs ds es xs ht dt et : Int32) : xr_Met l y_TM_size b_TM_size 1 (some .int) { frames := 0, cells := 0, slots := 0, locals := 0 } [.ref x0] (xb D cls [(x0, .inr (0, [.ref pL, .ref t, .ref sR, .ref sD, .ref so, .ref ta])), (pL, .inr (1, [.ref pF, .int (nI n)])), (pF, .inl (cI, 96, .inl P)), (t, .inr (2, [.ref pL, .ref cL, .ref bA])), (cL, .inr (1, [.ref cF, .int (nI k)])), (cF, .inl (cI, 868, .inl F)), (bA, .inl (cI, 25, .inl B)), (sR, .inl (cI, 8, .inl sr)), (sD, .inl (cI, 32, .inl sd)), (so, .inr (3, [.ref pL, .ref soR, .ref soC, .ref soA, .int (nI ks), .int hs, .int ds, .int es, .int xs])), (soR, .inl (cI, 8, .inl Rs)), (soC, .inl (cI, 32, .inl Cs)), (soA, .inl (cI, 120, .inl As)), (ta, .inr (4, [.ref cL, .ref taR, .ref taC, .ref taA, .int (nI kt), .int ht, .int dt, .int et, .ref t])), (taR, .inl (cI, 8, .inl Rt)), (taC, .inl (cI, 64, .inl Ct)), (taA, .inl (cI, 120, .inl At))] (tyL cI cZ cJ)) (nI k) := by
  refine Met.ofW (cc := b_TM_size) (maxL := 1) (ret := (some .int)) (by decide) rfl ?_
  intro p e s m args below meth c s₁ B0 hml hv
  obtain ⟨rfl, hP, hK⟩ := hv
  have hx := B0.exec
  have hb := B0.bytes
  have hr := B0.returns
  have hlocks := B0.notSynchronized
  have hg : ∀ w ∈ gG, w.before _ s = true := fun w h => atoms_spec B0.pre w (List.mem_cons_of_mem _ h)
  have hown : s.vm.findClass R_TM = some m.cls := findClass_of_methodNamed B0.named
  have hP : va_P D cls [(x0, .inr (0, [.ref pL, .ref t, .ref sR, .ref sD, .ref so, .ref ta])), (pL, .inr (1, [.ref pF, .int (nI n)])), (pF, .inl (cI, 96, .inl P)), (t, .inr (2, [.ref pL, .ref cL, .ref bA])), (cL, .inr (1, [.ref cF, .int (nI k)])), (cF, .inl (cI, 868, .inl F)), (bA, .inl (cI, 25, .inl B)), (sR, .inl (cI, 8, .inl sr)), (sD, .inl (cI, 32, .inl sd)), (so, .inr (3, [.ref pL, .ref soR, .ref soC, .ref soA, .int (nI ks), .int hs, .int ds, .int es, .int xs])), (soR, .inl (cI, 8, .inl Rs)), (soC, .inl (cI, 32, .inl Cs)), (soA, .inl (cI, 120, .inl As)), (ta, .inr (4, [.ref cL, .ref taR, .ref taC, .ref taA, .int (nI kt), .int ht, .int dt, .int et, .ref t])), (taR, .inl (cI, 8, .inl Rt)), (taC, .inl (cI, 64, .inl Ct)), (taA, .inl (cI, 120, .inl At))] s.heap := hP
  have hl := lv_entry ([.ref x0]) (n := 1) (Nat.le_of_ble_eq_true rfl)
  rw [lg_entry_eq]
  generalize (lg_sl ([.ref x0]) ++ List.replicate (1 - (lg_sl ([.ref x0])).length) Slot.unset).toArray = ls at hl ⊢
  have hl : lv_has ls 1 [(0, .ref x0)] := hl
  refine lv_aload_n hx hb d_TM_size_0 rfl (lv_at hl 0 rfl) ?_
  refine va_get (D := D) (ci := 0) (v := .ref t) (C := R_TM) (T := F_TM) (N := 6) hx hb hg f_TM hown hK.1 hP 0 rfl rfl 1 (by decide) (hg _ q141) (fun _ h9 => h9) rfl d_TM_size_1 ?_
  refine va_get (D := D) (ci := 2) (v := .ref cL) (C := R_Tr) (T := F_Tr) (N := 3) hx hb hg f_Tr hown hK.1 hP 3 rfl rfl 1 (by decide) (hg _ q54) (fun _ h9 => h9) rfl d_TM_size_4 ?_
  refine va_get (D := D) (ci := 1) (v := .int (nI k)) (C := R_Li) (T := F_Li) (N := 2) hx hb hg f_Li hown hK.1 hP 4 rfl rfl 1 (by decide) (hg _ q34) (fun _ h9 => h9) rfl d_TM_size_7 ?_
  exact W.iret (v := nI k) hx hb hr (fun t9 ht9 hW9 => ⟨nI k, rfl, rfl, ht9⟩) (fun _ h => by cases h) d_TM_size_10

set_option maxHeartbeats 4000000 in
set_option maxRecDepth 100000 in
theorem c_TM_clear (l : Launch) (D : va_G) (cI cZ cJ : ClassId) (x0 pL pF t cL cF bA sR sD so soR soC soA ta taR taC taA : Nat) (P F B sr sd Rs Cs As Rt Ct At : Nat → Int32) (n k ks kt : Nat) (hs ds es xs ht dt et : Int32) : xi_Met l y_TM_clear b_TM_clear 2 (some .int) { frames := 1, cells := 0, slots := 0, locals := 20 } [.ref x0] D cls (tyL cI cZ cJ) [(x0, .inr (0, [.ref pL, .ref t, .ref sR, .ref sD, .ref so, .ref ta])), (pL, .inr (1, [.ref pF, .int (nI n)])), (pF, .inl (cI, 96, .inl P)), (t, .inr (2, [.ref pL, .ref cL, .ref bA])), (cL, .inr (1, [.ref cF, .int (nI k)])), (cF, .inl (cI, 868, .inl F)), (bA, .inl (cI, 25, .inl B)), (sR, .inl (cI, 8, .inl sr)), (sD, .inl (cI, 32, .inl sd)), (so, .inr (3, [.ref pL, .ref soR, .ref soC, .ref soA, .int (nI ks), .int hs, .int ds, .int es, .int xs])), (soR, .inl (cI, 8, .inl Rs)), (soC, .inl (cI, 32, .inl Cs)), (soA, .inl (cI, 120, .inl As)), (ta, .inr (4, [.ref cL, .ref taR, .ref taC, .ref taA, .int (nI kt), .int ht, .int dt, .int et, .ref t])), (taR, .inl (cI, 8, .inl Rt)), (taC, .inl (cI, 64, .inl Ct)), (taA, .inl (cI, 120, .inl At))] [(x0, .inr (0, [.ref pL, .ref t, .ref sR, .ref sD, .ref so, .ref ta])), (pL, .inr (1, [.ref pF, .int (nI 0)])), (pF, .inl (cI, 96, .inl P)), (t, .inr (2, [.ref pL, .ref cL, .ref bA])), (cL, .inr (1, [.ref cF, .int (nI 0)])), (cF, .inl (cI, 868, .inl F)), (bA, .inl (cI, 25, .inl B)), (sR, .inl (cI, 8, .inl sr)), (sD, .inl (cI, 32, .inl sd)), (so, .inr (3, [.ref pL, .ref soR, .ref soC, .ref soA, .int (nI ks), .int hs, .int ds, .int es, .int xs])), (soR, .inl (cI, 8, .inl Rs)), (soC, .inl (cI, 32, .inl Cs)), (soA, .inl (cI, 120, .inl As)), (ta, .inr (4, [.ref cL, .ref taR, .ref taC, .ref taA, .int (nI kt), .int ht, .int dt, .int et, .ref t])), (taR, .inl (cI, 8, .inl Rt)), (taC, .inl (cI, 64, .inl Ct)), (taA, .inl (cI, 120, .inl At))] (nI n) := by
  intro sz
  refine Met.ofW (cc := b_TM_clear) (maxL := 2) (ret := (some .int)) (by decide) rfl ?_
  intro p e s m args below meth c s₁ B0 hml hv
  obtain ⟨rfl, hsz, hP, hK, hD0⟩ := hv
  have hx := B0.exec
  have hb := B0.bytes
  have hr := B0.returns
  have hlocks := B0.notSynchronized
  have hg : ∀ w ∈ gG, w.before _ s = true := fun w h => atoms_spec B0.pre w (List.mem_cons_of_mem _ h)
  have hown : s.vm.findClass R_TM = some m.cls := findClass_of_methodNamed B0.named
  subst hsz
  have hD := hD0.self (sz := s.heap.size)
  generalize hAe : va_A [(x0, .inr (0, [.ref pL, .ref t, .ref sR, .ref sD, .ref so, .ref ta])), (pL, .inr (1, [.ref pF, .int (nI n)])), (pF, .inl (cI, 96, .inl P)), (t, .inr (2, [.ref pL, .ref cL, .ref bA])), (cL, .inr (1, [.ref cF, .int (nI k)])), (cF, .inl (cI, 868, .inl F)), (bA, .inl (cI, 25, .inl B)), (sR, .inl (cI, 8, .inl sr)), (sD, .inl (cI, 32, .inl sd)), (so, .inr (3, [.ref pL, .ref soR, .ref soC, .ref soA, .int (nI ks), .int hs, .int ds, .int es, .int xs])), (soR, .inl (cI, 8, .inl Rs)), (soC, .inl (cI, 32, .inl Cs)), (soA, .inl (cI, 120, .inl As)), (ta, .inr (4, [.ref cL, .ref taR, .ref taC, .ref taA, .int (nI kt), .int ht, .int dt, .int et, .ref t])), (taR, .inl (cI, 8, .inl Rt)), (taC, .inl (cI, 64, .inl Ct)), (taA, .inl (cI, 120, .inl At))] s.heap.size = A at hD ⊢
  have hA : ∀ q : Nat, s.heap.size ≤ q → A q := fun q h => by rw [← hAe]; exact Or.inr h
  have hS : va_S A s.heap s.heap [] := va_S.rf
  have hP : va_P D cls [(x0, .inr (0, [.ref pL, .ref t, .ref sR, .ref sD, .ref so, .ref ta])), (pL, .inr (1, [.ref pF, .int (nI n)])), (pF, .inl (cI, 96, .inl P)), (t, .inr (2, [.ref pL, .ref cL, .ref bA])), (cL, .inr (1, [.ref cF, .int (nI k)])), (cF, .inl (cI, 868, .inl F)), (bA, .inl (cI, 25, .inl B)), (sR, .inl (cI, 8, .inl sr)), (sD, .inl (cI, 32, .inl sd)), (so, .inr (3, [.ref pL, .ref soR, .ref soC, .ref soA, .int (nI ks), .int hs, .int ds, .int es, .int xs])), (soR, .inl (cI, 8, .inl Rs)), (soC, .inl (cI, 32, .inl Cs)), (soA, .inl (cI, 120, .inl As)), (ta, .inr (4, [.ref cL, .ref taR, .ref taC, .ref taA, .int (nI kt), .int ht, .int dt, .int et, .ref t])), (taR, .inl (cI, 8, .inl Rt)), (taC, .inl (cI, 64, .inl Ct)), (taA, .inl (cI, 120, .inl At))] s.heap := hP
  have hl := lv_entry ([.ref x0]) (n := 2) (Nat.le_of_ble_eq_true rfl)
  rw [lg_entry_eq]
  generalize (lg_sl ([.ref x0]) ++ List.replicate (2 - (lg_sl ([.ref x0])).length) Slot.unset).toArray = ls at hl ⊢
  have hl : lv_has ls 2 [(0, .ref x0)] := hl
  refine lv_aload_n hx hb d_TM_clear_0 rfl (lv_at hl 0 rfl) ?_
  refine va_get (D := D) (ci := 0) (v := .ref pL) (C := R_TM) (T := F_TM) (N := 6) hx hb hg f_TM hown hK.1 hP 0 rfl rfl 0 (by decide) (hg _ q140) (fun _ h9 => h9) rfl d_TM_clear_1 ?_
  refine va_get (D := D) (ci := 1) (v := .int (nI n)) (C := R_Li) (T := F_Li) (N := 2) hx hb hg f_Li hown hK.1 hP 1 rfl rfl 1 (by decide) (hg _ q34) (fun _ h9 => h9) rfl d_TM_clear_4 ?_
  refine lv_istore_n hx hb d_TM_clear_7 rfl hl (by decide) rfl (fun ls hl => ?_)
  have hl : lv_has ls 2 [(1, .int (nI n)), (0, .ref x0)] := hl
  refine lv_aload_n hx hb d_TM_clear_8 rfl (lv_at hl 1 rfl) ?_
  refine va_get (D := D) (ci := 0) (v := .ref pL) (C := R_TM) (T := F_TM) (N := 6) hx hb hg f_TM hown hK.1 hP 0 rfl rfl 0 (by decide) (hg _ q140) (fun _ h9 => h9) rfl d_TM_clear_9 ?_
  refine xw_go (w2 := [(x0, .inr (0, [.ref pL, .ref t, .ref sR, .ref sD, .ref so, .ref ta])), (pL, .inr (1, [.ref pF, .int 0])), (pF, .inl (cI, 96, .inl P)), (t, .inr (2, [.ref pL, .ref cL, .ref bA])), (cL, .inr (1, [.ref cF, .int (nI k)])), (cF, .inl (cI, 868, .inl F)), (bA, .inl (cI, 25, .inl B)), (sR, .inl (cI, 8, .inl sr)), (sD, .inl (cI, 32, .inl sd)), (so, .inr (3, [.ref pL, .ref soR, .ref soC, .ref soA, .int (nI ks), .int hs, .int ds, .int es, .int xs])), (soR, .inl (cI, 8, .inl Rs)), (soC, .inl (cI, 32, .inl Cs)), (soA, .inl (cI, 120, .inl As)), (ta, .inr (4, [.ref cL, .ref taR, .ref taC, .ref taA, .int (nI kt), .int ht, .int dt, .int et, .ref t])), (taR, .inl (cI, 8, .inl Rt)), (taC, .inl (cI, 64, .inl Ct)), (taA, .inl (cI, 120, .inl At))]) (wr := [(x0, .inr (0, [.ref pL, .ref t, .ref sR, .ref sD, .ref so, .ref ta])), (t, .inr (2, [.ref pL, .ref cL, .ref bA])), (cL, .inr (1, [.ref cF, .int (nI k)])), (cF, .inl (cI, 868, .inl F)), (bA, .inl (cI, 25, .inl B)), (sR, .inl (cI, 8, .inl sr)), (sD, .inl (cI, 32, .inl sd)), (so, .inr (3, [.ref pL, .ref soR, .ref soC, .ref soA, .int (nI ks), .int hs, .int ds, .int es, .int xs])), (soR, .inl (cI, 8, .inl Rs)), (soC, .inl (cI, 32, .inl Cs)), (soA, .inl (cI, 120, .inl As)), (ta, .inr (4, [.ref cL, .ref taR, .ref taC, .ref taA, .int (nI kt), .int ht, .int dt, .int et, .ref t])), (taR, .inl (cI, 8, .inl Rt)), (taC, .inl (cI, 64, .inl Ct)), (taA, .inl (cI, 120, .inl At))]) (w1 := [(pL, .inr (1, [.ref pF, .int 0])), (pF, .inl (cI, 96, .inl P))]) (va_runV (As := []) (rest := []) (C := R_Li) ⟨hx, hb, hml, hown, hg⟩ (c_Li_drop l D cI cZ cJ pL pF 96 P (nI n) s.heap.size) ⟨xg_B hg m_Li_drop.1 m_Li_drop.2.2.1 m_Li_drop.2.2.2.1 m_Li_drop.2.2.2.2 q163 rfl rfl ⟨Nat.le_of_ble_eq_true rfl, Nat.le_of_ble_eq_true rfl⟩, hg _ m_Li_drop.2.1, hg _ q165⟩ ⟨xw_blind, (va_recv (q0 := 1) hK.1 hP rfl rfl), xw_pre hK hP hD [1, 2] (by decide) rfl⟩ rfl rfl hl.1 rfl (lv_room (Nat.le_of_ble_eq_true rfl)) d_TM_clear_12 ⟨Nat.zero_le _, Nat.zero_le _⟩) hP hD hS hA [1, 2] [0, 3, 4, 5, 6, 7, 8, 9, 10, 11, 12, 13, 14, 15, 16] [0, 15, 16, 1, 2, 3, 4, 5, 6, 7, 8, 9, 10, 11, 12, 13, 14] rfl rfl (by decide) (by decide) rfl (by decide) (fun H locs hP hD hS => ?_)
  refine lv_aload_n hx hb d_TM_clear_15 rfl (lv_at hl 1 rfl) ?_
  refine va_get (D := D) (ci := 0) (v := .ref t) (C := R_TM) (T := F_TM) (N := 6) hx hb hg f_TM hown hK.1 hP 0 rfl rfl 1 (by decide) (hg _ q141) (fun _ h9 => h9) rfl d_TM_clear_16 ?_
  refine va_get (D := D) (ci := 2) (v := .ref cL) (C := R_Tr) (T := F_Tr) (N := 3) hx hb hg f_Tr hown hK.1 hP 3 rfl rfl 1 (by decide) (hg _ q54) (fun _ h9 => h9) rfl d_TM_clear_19 ?_
  refine xw_go (w2 := [(x0, .inr (0, [.ref pL, .ref t, .ref sR, .ref sD, .ref so, .ref ta])), (pL, .inr (1, [.ref pF, .int 0])), (pF, .inl (cI, 96, .inl P)), (t, .inr (2, [.ref pL, .ref cL, .ref bA])), (cL, .inr (1, [.ref cF, .int 0])), (cF, .inl (cI, 868, .inl F)), (bA, .inl (cI, 25, .inl B)), (sR, .inl (cI, 8, .inl sr)), (sD, .inl (cI, 32, .inl sd)), (so, .inr (3, [.ref pL, .ref soR, .ref soC, .ref soA, .int (nI ks), .int hs, .int ds, .int es, .int xs])), (soR, .inl (cI, 8, .inl Rs)), (soC, .inl (cI, 32, .inl Cs)), (soA, .inl (cI, 120, .inl As)), (ta, .inr (4, [.ref cL, .ref taR, .ref taC, .ref taA, .int (nI kt), .int ht, .int dt, .int et, .ref t])), (taR, .inl (cI, 8, .inl Rt)), (taC, .inl (cI, 64, .inl Ct)), (taA, .inl (cI, 120, .inl At))]) (wr := [(x0, .inr (0, [.ref pL, .ref t, .ref sR, .ref sD, .ref so, .ref ta])), (pL, .inr (1, [.ref pF, .int 0])), (pF, .inl (cI, 96, .inl P)), (t, .inr (2, [.ref pL, .ref cL, .ref bA])), (bA, .inl (cI, 25, .inl B)), (sR, .inl (cI, 8, .inl sr)), (sD, .inl (cI, 32, .inl sd)), (so, .inr (3, [.ref pL, .ref soR, .ref soC, .ref soA, .int (nI ks), .int hs, .int ds, .int es, .int xs])), (soR, .inl (cI, 8, .inl Rs)), (soC, .inl (cI, 32, .inl Cs)), (soA, .inl (cI, 120, .inl As)), (ta, .inr (4, [.ref cL, .ref taR, .ref taC, .ref taA, .int (nI kt), .int ht, .int dt, .int et, .ref t])), (taR, .inl (cI, 8, .inl Rt)), (taC, .inl (cI, 64, .inl Ct)), (taA, .inl (cI, 120, .inl At))]) (w1 := [(cL, .inr (1, [.ref cF, .int 0])), (cF, .inl (cI, 868, .inl F))]) (va_runV (As := []) (rest := []) (C := R_Li) ⟨hx, hb, hml, hown, hg⟩ (c_Li_drop l D cI cZ cJ cL cF 868 F (nI k) H.size) ⟨xg_B hg m_Li_drop.1 m_Li_drop.2.2.1 m_Li_drop.2.2.2.1 m_Li_drop.2.2.2.2 q163 rfl rfl ⟨Nat.le_of_ble_eq_true rfl, Nat.le_of_ble_eq_true rfl⟩, hg _ m_Li_drop.2.1, hg _ q165⟩ ⟨xw_blind, (va_recv (q0 := 4) hK.1 hP rfl rfl), xw_pre hK hP hD [4, 5] (by decide) rfl⟩ rfl rfl hl.1 rfl (lv_room (Nat.le_of_ble_eq_true rfl)) d_TM_clear_22 ⟨Nat.zero_le _, Nat.zero_le _⟩) hP hD hS hA [4, 5] [0, 1, 2, 3, 6, 7, 8, 9, 10, 11, 12, 13, 14, 15, 16] [0, 1, 2, 3, 15, 16, 4, 5, 6, 7, 8, 9, 10, 11, 12, 13, 14] rfl rfl (by decide) (by decide) rfl (by decide) (fun H locs hP hD hS => ?_)
  refine lv_iload_n hx hb d_TM_clear_25 rfl (lv_at hl 0 rfl) ?_
  have ew1 : 0 = nI 0 := by first | rfl | simp []
  have hP : va_P D cls [(x0, .inr (0, [.ref pL, .ref t, .ref sR, .ref sD, .ref so, .ref ta])), (pL, .inr (1, [.ref pF, .int (nI 0)])), (pF, .inl (cI, 96, .inl P)), (t, .inr (2, [.ref pL, .ref cL, .ref bA])), (cL, .inr (1, [.ref cF, .int (nI 0)])), (cF, .inl (cI, 868, .inl F)), (bA, .inl (cI, 25, .inl B)), (sR, .inl (cI, 8, .inl sr)), (sD, .inl (cI, 32, .inl sd)), (so, .inr (3, [.ref pL, .ref soR, .ref soC, .ref soA, .int (nI ks), .int hs, .int ds, .int es, .int xs])), (soR, .inl (cI, 8, .inl Rs)), (soC, .inl (cI, 32, .inl Cs)), (soA, .inl (cI, 120, .inl As)), (ta, .inr (4, [.ref cL, .ref taR, .ref taC, .ref taA, .int (nI kt), .int ht, .int dt, .int et, .ref t])), (taR, .inl (cI, 8, .inl Rt)), (taC, .inl (cI, 64, .inl Ct)), (taA, .inl (cI, 120, .inl At))] H := by rw [← ew1]; exact hP
  have hD : va_D A [(x0, .inr (0, [.ref pL, .ref t, .ref sR, .ref sD, .ref so, .ref ta])), (pL, .inr (1, [.ref pF, .int (nI 0)])), (pF, .inl (cI, 96, .inl P)), (t, .inr (2, [.ref pL, .ref cL, .ref bA])), (cL, .inr (1, [.ref cF, .int (nI 0)])), (cF, .inl (cI, 868, .inl F)), (bA, .inl (cI, 25, .inl B)), (sR, .inl (cI, 8, .inl sr)), (sD, .inl (cI, 32, .inl sd)), (so, .inr (3, [.ref pL, .ref soR, .ref soC, .ref soA, .int (nI ks), .int hs, .int ds, .int es, .int xs])), (soR, .inl (cI, 8, .inl Rs)), (soC, .inl (cI, 32, .inl Cs)), (soA, .inl (cI, 120, .inl As)), (ta, .inr (4, [.ref cL, .ref taR, .ref taC, .ref taA, .int (nI kt), .int ht, .int dt, .int et, .ref t])), (taR, .inl (cI, 8, .inl Rt)), (taC, .inl (cI, 64, .inl Ct)), (taA, .inl (cI, 120, .inl At))] := by rw [← ew1]; exact hD
  exact W.iret (v := nI n) hx hb hr (fun t9 ht9 hW9 => ⟨⟨nI n, (), rfl, rfl, by rw [ht9]; exact hP, hD⟩, hS.F ht9⟩) hS.2.2 d_TM_clear_26

set_option maxHeartbeats 4000000 in
set_option maxRecDepth 100000 in
theorem c_TM_translate_no (l : Launch) (D : va_G) (cI cZ cJ : ClassId) (x0 pL pF t cL cF bA sR sD so soR soC soA ta taR taC taA : Nat) (P F B sr sd Rs Cs As Rt Ct At : Nat → Int32) (n k ks kt : Nat) (hs ds es xs ht dt et : Int32) (hn : n ≤ 24) (hr0 : ¬ tm_ref P n = 0) : xi_Met l y_TM_translate b_TM_translate 2 (some .int) { frames := 5, cells := 0, slots := 0, locals := 110 } [.ref x0] D cls (tyL cI cZ cJ) [(x0, .inr (0, [.ref pL, .ref t, .ref sR, .ref sD, .ref so, .ref ta])), (pL, .inr (1, [.ref pF, .int (nI n)])), (pF, .inl (cI, 96, .inl P)), (t, .inr (2, [.ref pL, .ref cL, .ref bA])), (cL, .inr (1, [.ref cF, .int (nI k)])), (cF, .inl (cI, 868, .inl F)), (bA, .inl (cI, 25, .inl B)), (sR, .inl (cI, 8, .inl sr)), (sD, .inl (cI, 32, .inl sd)), (so, .inr (3, [.ref pL, .ref soR, .ref soC, .ref soA, .int (nI ks), .int hs, .int ds, .int es, .int xs])), (soR, .inl (cI, 8, .inl Rs)), (soC, .inl (cI, 32, .inl Cs)), (soA, .inl (cI, 120, .inl As)), (ta, .inr (4, [.ref cL, .ref taR, .ref taC, .ref taA, .int (nI kt), .int ht, .int dt, .int et, .ref t])), (taR, .inl (cI, 8, .inl Rt)), (taC, .inl (cI, 64, .inl Ct)), (taA, .inl (cI, 120, .inl At))] [(x0, .inr (0, [.ref pL, .ref t, .ref sR, .ref sD, .ref so, .ref ta])), (pL, .inr (1, [.ref pF, .int (nI n)])), (pF, .inl (cI, 96, .inl P)), (t, .inr (2, [.ref pL, .ref cL, .ref bA])), (cL, .inr (1, [.ref cF, .int (nI 0)])), (cF, .inl (cI, 868, .inl F)), (bA, .inl (cI, 25, .inl B)), (sR, .inl (cI, 8, .inl sr)), (sD, .inl (cI, 32, .inl sd)), (so, .inr (3, [.ref pL, .ref soR, .ref soC, .ref soA, .int (nI ks), .int hs, .int ds, .int es, .int xs])), (soR, .inl (cI, 8, .inl Rs)), (soC, .inl (cI, 32, .inl Cs)), (soA, .inl (cI, 120, .inl As)), (ta, .inr (4, [.ref cL, .ref taR, .ref taC, .ref taA, .int (nI kt), .int ht, .int dt, .int et, .ref t])), (taR, .inl (cI, 8, .inl Rt)), (taC, .inl (cI, 64, .inl Ct)), (taA, .inl (cI, 120, .inl At))] (tm_ref P n) := by
  intro sz
  refine Met.ofW (cc := b_TM_translate) (maxL := 2) (ret := (some .int)) (by decide) rfl ?_
  intro p e s m args below meth c s₁ B0 hml hv
  obtain ⟨rfl, hsz, hP, hK, hD0⟩ := hv
  have hx := B0.exec
  have hb := B0.bytes
  have hr := B0.returns
  have hlocks := B0.notSynchronized
  have hg : ∀ w ∈ gG, w.before _ s = true := fun w h => atoms_spec B0.pre w (List.mem_cons_of_mem _ h)
  have hown : s.vm.findClass R_TM = some m.cls := findClass_of_methodNamed B0.named
  subst hsz
  have hD := hD0.self (sz := s.heap.size)
  generalize hAe : va_A [(x0, .inr (0, [.ref pL, .ref t, .ref sR, .ref sD, .ref so, .ref ta])), (pL, .inr (1, [.ref pF, .int (nI n)])), (pF, .inl (cI, 96, .inl P)), (t, .inr (2, [.ref pL, .ref cL, .ref bA])), (cL, .inr (1, [.ref cF, .int (nI k)])), (cF, .inl (cI, 868, .inl F)), (bA, .inl (cI, 25, .inl B)), (sR, .inl (cI, 8, .inl sr)), (sD, .inl (cI, 32, .inl sd)), (so, .inr (3, [.ref pL, .ref soR, .ref soC, .ref soA, .int (nI ks), .int hs, .int ds, .int es, .int xs])), (soR, .inl (cI, 8, .inl Rs)), (soC, .inl (cI, 32, .inl Cs)), (soA, .inl (cI, 120, .inl As)), (ta, .inr (4, [.ref cL, .ref taR, .ref taC, .ref taA, .int (nI kt), .int ht, .int dt, .int et, .ref t])), (taR, .inl (cI, 8, .inl Rt)), (taC, .inl (cI, 64, .inl Ct)), (taA, .inl (cI, 120, .inl At))] s.heap.size = A at hD ⊢
  have hA : ∀ q : Nat, s.heap.size ≤ q → A q := fun q h => by rw [← hAe]; exact Or.inr h
  have hS : va_S A s.heap s.heap [] := va_S.rf
  have hP : va_P D cls [(x0, .inr (0, [.ref pL, .ref t, .ref sR, .ref sD, .ref so, .ref ta])), (pL, .inr (1, [.ref pF, .int (nI n)])), (pF, .inl (cI, 96, .inl P)), (t, .inr (2, [.ref pL, .ref cL, .ref bA])), (cL, .inr (1, [.ref cF, .int (nI k)])), (cF, .inl (cI, 868, .inl F)), (bA, .inl (cI, 25, .inl B)), (sR, .inl (cI, 8, .inl sr)), (sD, .inl (cI, 32, .inl sd)), (so, .inr (3, [.ref pL, .ref soR, .ref soC, .ref soA, .int (nI ks), .int hs, .int ds, .int es, .int xs])), (soR, .inl (cI, 8, .inl Rs)), (soC, .inl (cI, 32, .inl Cs)), (soA, .inl (cI, 120, .inl As)), (ta, .inr (4, [.ref cL, .ref taR, .ref taC, .ref taA, .int (nI kt), .int ht, .int dt, .int et, .ref t])), (taR, .inl (cI, 8, .inl Rt)), (taC, .inl (cI, 64, .inl Ct)), (taA, .inl (cI, 120, .inl At))] s.heap := hP
  have hl := lv_entry ([.ref x0]) (n := 2) (Nat.le_of_ble_eq_true rfl)
  rw [lg_entry_eq]
  generalize (lg_sl ([.ref x0]) ++ List.replicate (2 - (lg_sl ([.ref x0])).length) Slot.unset).toArray = ls at hl ⊢
  have hl : lv_has ls 2 [(0, .ref x0)] := hl
  refine lv_aload_n hx hb d_TM_translate_0 rfl (lv_at hl 0 rfl) ?_
  refine va_get (D := D) (ci := 0) (v := .ref t) (C := R_TM) (T := F_TM) (N := 6) hx hb hg f_TM hown hK.1 hP 0 rfl rfl 1 (by decide) (hg _ q141) (fun _ h9 => h9) rfl d_TM_translate_1 ?_
  refine xr_V (C := R_Tr) (As := []) (rest := []) ⟨hx, hb, hml, hown, hg⟩ (c_Tr_refusal l D cI cZ cJ t pL pF cL cF bA P F B n k (by omega)) m_Tr_refusal q171 q173 ⟨rfl, rfl⟩ ⟨Nat.le_of_ble_eq_true rfl, Nat.le_of_ble_eq_true rfl⟩ hK hP [3, 1, 2, 4, 5, 6] rfl (va_recv (q0 := 3) hK.1 hP rfl rfl) rfl hl.1 rfl (Nat.le_of_ble_eq_true rfl) d_TM_translate_4 ⟨Nat.zero_le _, Nat.zero_le _⟩ ?_
  refine lv_istore_n hx hb d_TM_translate_7 rfl hl (by decide) rfl (fun ls hl => ?_)
  have hl : lv_has ls 2 [(1, .int (tm_ref P n)), (0, .ref x0)] := hl
  refine lv_iload_n hx hb d_TM_translate_8 rfl (lv_at hl 0 rfl) ?_
  refine lv_if_eq (tgt := 25) hx hb d_TM_translate_9 rfl (fun hz9 => absurd hz9 (hr0)) (fun _ => ?_)
  refine lv_aload_n hx hb d_TM_translate_12 rfl (lv_at hl 1 rfl) ?_
  refine va_get (D := D) (ci := 0) (v := .ref t) (C := R_TM) (T := F_TM) (N := 6) hx hb hg f_TM hown hK.1 hP 0 rfl rfl 1 (by decide) (hg _ q141) (fun _ h9 => h9) rfl d_TM_translate_13 ?_
  refine va_get (D := D) (ci := 2) (v := .ref cL) (C := R_Tr) (T := F_Tr) (N := 3) hx hb hg f_Tr hown hK.1 hP 3 rfl rfl 1 (by decide) (hg _ q54) (fun _ h9 => h9) rfl d_TM_translate_16 ?_
  refine xw_go (w2 := [(x0, .inr (0, [.ref pL, .ref t, .ref sR, .ref sD, .ref so, .ref ta])), (pL, .inr (1, [.ref pF, .int (nI n)])), (pF, .inl (cI, 96, .inl P)), (t, .inr (2, [.ref pL, .ref cL, .ref bA])), (cL, .inr (1, [.ref cF, .int 0])), (cF, .inl (cI, 868, .inl F)), (bA, .inl (cI, 25, .inl B)), (sR, .inl (cI, 8, .inl sr)), (sD, .inl (cI, 32, .inl sd)), (so, .inr (3, [.ref pL, .ref soR, .ref soC, .ref soA, .int (nI ks), .int hs, .int ds, .int es, .int xs])), (soR, .inl (cI, 8, .inl Rs)), (soC, .inl (cI, 32, .inl Cs)), (soA, .inl (cI, 120, .inl As)), (ta, .inr (4, [.ref cL, .ref taR, .ref taC, .ref taA, .int (nI kt), .int ht, .int dt, .int et, .ref t])), (taR, .inl (cI, 8, .inl Rt)), (taC, .inl (cI, 64, .inl Ct)), (taA, .inl (cI, 120, .inl At))]) (wr := [(x0, .inr (0, [.ref pL, .ref t, .ref sR, .ref sD, .ref so, .ref ta])), (pL, .inr (1, [.ref pF, .int (nI n)])), (pF, .inl (cI, 96, .inl P)), (t, .inr (2, [.ref pL, .ref cL, .ref bA])), (bA, .inl (cI, 25, .inl B)), (sR, .inl (cI, 8, .inl sr)), (sD, .inl (cI, 32, .inl sd)), (so, .inr (3, [.ref pL, .ref soR, .ref soC, .ref soA, .int (nI ks), .int hs, .int ds, .int es, .int xs])), (soR, .inl (cI, 8, .inl Rs)), (soC, .inl (cI, 32, .inl Cs)), (soA, .inl (cI, 120, .inl As)), (ta, .inr (4, [.ref cL, .ref taR, .ref taC, .ref taA, .int (nI kt), .int ht, .int dt, .int et, .ref t])), (taR, .inl (cI, 8, .inl Rt)), (taC, .inl (cI, 64, .inl Ct)), (taA, .inl (cI, 120, .inl At))]) (w1 := [(cL, .inr (1, [.ref cF, .int 0])), (cF, .inl (cI, 868, .inl F))]) (va_runV (As := []) (rest := []) (C := R_Li) ⟨hx, hb, hml, hown, hg⟩ (c_Li_drop l D cI cZ cJ cL cF 868 F (nI k) s.heap.size) ⟨xg_B hg m_Li_drop.1 m_Li_drop.2.2.1 m_Li_drop.2.2.2.1 m_Li_drop.2.2.2.2 q163 rfl rfl ⟨Nat.le_of_ble_eq_true rfl, Nat.le_of_ble_eq_true rfl⟩, hg _ m_Li_drop.2.1, hg _ q165⟩ ⟨xw_blind, (va_recv (q0 := 4) hK.1 hP rfl rfl), xw_pre hK hP hD [4, 5] (by decide) rfl⟩ rfl rfl hl.1 rfl (lv_room (Nat.le_of_ble_eq_true rfl)) d_TM_translate_19 ⟨Nat.zero_le _, Nat.zero_le _⟩) hP hD hS hA [4, 5] [0, 1, 2, 3, 6, 7, 8, 9, 10, 11, 12, 13, 14, 15, 16] [0, 1, 2, 3, 15, 16, 4, 5, 6, 7, 8, 9, 10, 11, 12, 13, 14] rfl rfl (by decide) (by decide) rfl (by decide) (fun H locs hP hD hS => ?_)
  refine lv_goto (tgt := 32) hx hb d_TM_translate_22 rfl ?_
  refine lv_iload_n hx hb d_TM_translate_32 rfl (lv_at hl 0 rfl) ?_
  have ew1 : 0 = nI 0 := by first | rfl | simp []
  have hP : va_P D cls [(x0, .inr (0, [.ref pL, .ref t, .ref sR, .ref sD, .ref so, .ref ta])), (pL, .inr (1, [.ref pF, .int (nI n)])), (pF, .inl (cI, 96, .inl P)), (t, .inr (2, [.ref pL, .ref cL, .ref bA])), (cL, .inr (1, [.ref cF, .int (nI 0)])), (cF, .inl (cI, 868, .inl F)), (bA, .inl (cI, 25, .inl B)), (sR, .inl (cI, 8, .inl sr)), (sD, .inl (cI, 32, .inl sd)), (so, .inr (3, [.ref pL, .ref soR, .ref soC, .ref soA, .int (nI ks), .int hs, .int ds, .int es, .int xs])), (soR, .inl (cI, 8, .inl Rs)), (soC, .inl (cI, 32, .inl Cs)), (soA, .inl (cI, 120, .inl As)), (ta, .inr (4, [.ref cL, .ref taR, .ref taC, .ref taA, .int (nI kt), .int ht, .int dt, .int et, .ref t])), (taR, .inl (cI, 8, .inl Rt)), (taC, .inl (cI, 64, .inl Ct)), (taA, .inl (cI, 120, .inl At))] H := by rw [← ew1]; exact hP
  have hD : va_D A [(x0, .inr (0, [.ref pL, .ref t, .ref sR, .ref sD, .ref so, .ref ta])), (pL, .inr (1, [.ref pF, .int (nI n)])), (pF, .inl (cI, 96, .inl P)), (t, .inr (2, [.ref pL, .ref cL, .ref bA])), (cL, .inr (1, [.ref cF, .int (nI 0)])), (cF, .inl (cI, 868, .inl F)), (bA, .inl (cI, 25, .inl B)), (sR, .inl (cI, 8, .inl sr)), (sD, .inl (cI, 32, .inl sd)), (so, .inr (3, [.ref pL, .ref soR, .ref soC, .ref soA, .int (nI ks), .int hs, .int ds, .int es, .int xs])), (soR, .inl (cI, 8, .inl Rs)), (soC, .inl (cI, 32, .inl Cs)), (soA, .inl (cI, 120, .inl As)), (ta, .inr (4, [.ref cL, .ref taR, .ref taC, .ref taA, .int (nI kt), .int ht, .int dt, .int et, .ref t])), (taR, .inl (cI, 8, .inl Rt)), (taC, .inl (cI, 64, .inl Ct)), (taA, .inl (cI, 120, .inl At))] := by rw [← ew1]; exact hD
  exact W.iret (v := tm_ref P n) hx hb hr (fun t9 ht9 hW9 => ⟨⟨tm_ref P n, (), rfl, rfl, by rw [ht9]; exact hP, hD⟩, hS.F ht9⟩) hS.2.2 d_TM_translate_33

set_option maxHeartbeats 4000000 in
set_option maxRecDepth 100000 in
theorem c_TM_translate_ok (l : Launch) (D : va_G) (cI cZ cJ : ClassId) (x0 pL pF t cL cF bA sR sD so soR soC soA ta taR taC taA : Nat) (P F B sr sd Rs Cs As Rt Ct At : Nat → Int32) (n k ks kt : Nat) (hs ds es xs ht dt et : Int32) (hn : n ≤ 24) (hr0 : tm_ref P n = 0) (hin : tm_in P n) (hok : tm_ok P n) : xi_Met l y_TM_translate b_TM_translate 2 (some .int) { frames := 6, cells := 0, slots := 0, locals := 143 } [.ref x0] D cls (tyL cI cZ cJ) [(x0, .inr (0, [.ref pL, .ref t, .ref sR, .ref sD, .ref so, .ref ta])), (pL, .inr (1, [.ref pF, .int (nI n)])), (pF, .inl (cI, 96, .inl P)), (t, .inr (2, [.ref pL, .ref cL, .ref bA])), (cL, .inr (1, [.ref cF, .int (nI k)])), (cF, .inl (cI, 868, .inl F)), (bA, .inl (cI, 25, .inl B)), (sR, .inl (cI, 8, .inl sr)), (sD, .inl (cI, 32, .inl sd)), (so, .inr (3, [.ref pL, .ref soR, .ref soC, .ref soA, .int (nI ks), .int hs, .int ds, .int es, .int xs])), (soR, .inl (cI, 8, .inl Rs)), (soC, .inl (cI, 32, .inl Cs)), (soA, .inl (cI, 120, .inl As)), (ta, .inr (4, [.ref cL, .ref taR, .ref taC, .ref taA, .int (nI kt), .int ht, .int dt, .int et, .ref t])), (taR, .inl (cI, 8, .inl Rt)), (taC, .inl (cI, 64, .inl Ct)), (taA, .inl (cI, 120, .inl At))] [(x0, .inr (0, [.ref pL, .ref t, .ref sR, .ref sD, .ref so, .ref ta])), (pL, .inr (1, [.ref pF, .int (nI n)])), (pF, .inl (cI, 96, .inl P)), (t, .inr (2, [.ref pL, .ref cL, .ref bA])), (cL, .inr (1, [.ref cF, .int (nI (tm_of P n n + 1))])), (cF, .inl (cI, 868, .inl (tm_p1 P n (tm_bg P n B (n + 1)) (tm_p1 P n B F)))), (bA, .inl (cI, 25, .inl (tm_bg P n (tm_bg P n B (n + 1)) (n + 1)))), (sR, .inl (cI, 8, .inl sr)), (sD, .inl (cI, 32, .inl sd)), (so, .inr (3, [.ref pL, .ref soR, .ref soC, .ref soA, .int (nI ks), .int hs, .int ds, .int es, .int xs])), (soR, .inl (cI, 8, .inl Rs)), (soC, .inl (cI, 32, .inl Cs)), (soA, .inl (cI, 120, .inl As)), (ta, .inr (4, [.ref cL, .ref taR, .ref taC, .ref taA, .int (nI kt), .int ht, .int dt, .int et, .ref t])), (taR, .inl (cI, 8, .inl Rt)), (taC, .inl (cI, 64, .inl Ct)), (taA, .inl (cI, 120, .inl At))] (tm_ref P n) := by
  intro sz
  refine Met.ofW (cc := b_TM_translate) (maxL := 2) (ret := (some .int)) (by decide) rfl ?_
  intro p e s m args below meth c s₁ B0 hml hv
  obtain ⟨rfl, hsz, hP, hK, hD0⟩ := hv
  have hx := B0.exec
  have hb := B0.bytes
  have hr := B0.returns
  have hlocks := B0.notSynchronized
  have hg : ∀ w ∈ gG, w.before _ s = true := fun w h => atoms_spec B0.pre w (List.mem_cons_of_mem _ h)
  have hown : s.vm.findClass R_TM = some m.cls := findClass_of_methodNamed B0.named
  subst hsz
  have hD := hD0.self (sz := s.heap.size)
  generalize hAe : va_A [(x0, .inr (0, [.ref pL, .ref t, .ref sR, .ref sD, .ref so, .ref ta])), (pL, .inr (1, [.ref pF, .int (nI n)])), (pF, .inl (cI, 96, .inl P)), (t, .inr (2, [.ref pL, .ref cL, .ref bA])), (cL, .inr (1, [.ref cF, .int (nI k)])), (cF, .inl (cI, 868, .inl F)), (bA, .inl (cI, 25, .inl B)), (sR, .inl (cI, 8, .inl sr)), (sD, .inl (cI, 32, .inl sd)), (so, .inr (3, [.ref pL, .ref soR, .ref soC, .ref soA, .int (nI ks), .int hs, .int ds, .int es, .int xs])), (soR, .inl (cI, 8, .inl Rs)), (soC, .inl (cI, 32, .inl Cs)), (soA, .inl (cI, 120, .inl As)), (ta, .inr (4, [.ref cL, .ref taR, .ref taC, .ref taA, .int (nI kt), .int ht, .int dt, .int et, .ref t])), (taR, .inl (cI, 8, .inl Rt)), (taC, .inl (cI, 64, .inl Ct)), (taA, .inl (cI, 120, .inl At))] s.heap.size = A at hD ⊢
  have hA : ∀ q : Nat, s.heap.size ≤ q → A q := fun q h => by rw [← hAe]; exact Or.inr h
  have hS : va_S A s.heap s.heap [] := va_S.rf
  have hP : va_P D cls [(x0, .inr (0, [.ref pL, .ref t, .ref sR, .ref sD, .ref so, .ref ta])), (pL, .inr (1, [.ref pF, .int (nI n)])), (pF, .inl (cI, 96, .inl P)), (t, .inr (2, [.ref pL, .ref cL, .ref bA])), (cL, .inr (1, [.ref cF, .int (nI k)])), (cF, .inl (cI, 868, .inl F)), (bA, .inl (cI, 25, .inl B)), (sR, .inl (cI, 8, .inl sr)), (sD, .inl (cI, 32, .inl sd)), (so, .inr (3, [.ref pL, .ref soR, .ref soC, .ref soA, .int (nI ks), .int hs, .int ds, .int es, .int xs])), (soR, .inl (cI, 8, .inl Rs)), (soC, .inl (cI, 32, .inl Cs)), (soA, .inl (cI, 120, .inl As)), (ta, .inr (4, [.ref cL, .ref taR, .ref taC, .ref taA, .int (nI kt), .int ht, .int dt, .int et, .ref t])), (taR, .inl (cI, 8, .inl Rt)), (taC, .inl (cI, 64, .inl Ct)), (taA, .inl (cI, 120, .inl At))] s.heap := hP
  have hl := lv_entry ([.ref x0]) (n := 2) (Nat.le_of_ble_eq_true rfl)
  rw [lg_entry_eq]
  generalize (lg_sl ([.ref x0]) ++ List.replicate (2 - (lg_sl ([.ref x0])).length) Slot.unset).toArray = ls at hl ⊢
  have hl : lv_has ls 2 [(0, .ref x0)] := hl
  refine lv_aload_n hx hb d_TM_translate_0 rfl (lv_at hl 0 rfl) ?_
  refine va_get (D := D) (ci := 0) (v := .ref t) (C := R_TM) (T := F_TM) (N := 6) hx hb hg f_TM hown hK.1 hP 0 rfl rfl 1 (by decide) (hg _ q141) (fun _ h9 => h9) rfl d_TM_translate_1 ?_
  refine xr_V (C := R_Tr) (As := []) (rest := []) ⟨hx, hb, hml, hown, hg⟩ (c_Tr_refusal l D cI cZ cJ t pL pF cL cF bA P F B n k (by omega)) m_Tr_refusal q171 q173 ⟨rfl, rfl⟩ ⟨Nat.le_of_ble_eq_true rfl, Nat.le_of_ble_eq_true rfl⟩ hK hP [3, 1, 2, 4, 5, 6] rfl (va_recv (q0 := 3) hK.1 hP rfl rfl) rfl hl.1 rfl (Nat.le_of_ble_eq_true rfl) d_TM_translate_4 ⟨Nat.zero_le _, Nat.zero_le _⟩ ?_
  refine lv_istore_n hx hb d_TM_translate_7 rfl hl (by decide) rfl (fun ls hl => ?_)
  have hl : lv_has ls 2 [(1, .int (tm_ref P n)), (0, .ref x0)] := hl
  refine lv_iload_n hx hb d_TM_translate_8 rfl (lv_at hl 0 rfl) ?_
  refine lv_if_eq (tgt := 25) hx hb d_TM_translate_9 rfl (fun _ => ?_) (fun hz9 => absurd (hr0) hz9)
  refine lv_aload_n hx hb d_TM_translate_25 rfl (lv_at hl 1 rfl) ?_
  refine va_get (D := D) (ci := 0) (v := .ref t) (C := R_TM) (T := F_TM) (N := 6) hx hb hg f_TM hown hK.1 hP 0 rfl rfl 1 (by decide) (hg _ q141) (fun _ h9 => h9) rfl d_TM_translate_26 ?_
  refine xw_go (w2 := [(x0, .inr (0, [.ref pL, .ref t, .ref sR, .ref sD, .ref so, .ref ta])), (pL, .inr (1, [.ref pF, .int (nI n)])), (pF, .inl (cI, 96, .inl P)), (t, .inr (2, [.ref pL, .ref cL, .ref bA])), (cL, .inr (1, [.ref cF, .int (nI (tm_of P n n + 1))])), (cF, .inl (cI, 868, .inl (tm_p1 P n (tm_bg P n B (n + 1)) (tm_p1 P n B F)))), (bA, .inl (cI, 25, .inl (tm_bg P n (tm_bg P n B (n + 1)) (n + 1)))), (sR, .inl (cI, 8, .inl sr)), (sD, .inl (cI, 32, .inl sd)), (so, .inr (3, [.ref pL, .ref soR, .ref soC, .ref soA, .int (nI ks), .int hs, .int ds, .int es, .int xs])), (soR, .inl (cI, 8, .inl Rs)), (soC, .inl (cI, 32, .inl Cs)), (soA, .inl (cI, 120, .inl As)), (ta, .inr (4, [.ref cL, .ref taR, .ref taC, .ref taA, .int (nI kt), .int ht, .int dt, .int et, .ref t])), (taR, .inl (cI, 8, .inl Rt)), (taC, .inl (cI, 64, .inl Ct)), (taA, .inl (cI, 120, .inl At))]) (wr := [(x0, .inr (0, [.ref pL, .ref t, .ref sR, .ref sD, .ref so, .ref ta])), (sR, .inl (cI, 8, .inl sr)), (sD, .inl (cI, 32, .inl sd)), (so, .inr (3, [.ref pL, .ref soR, .ref soC, .ref soA, .int (nI ks), .int hs, .int ds, .int es, .int xs])), (soR, .inl (cI, 8, .inl Rs)), (soC, .inl (cI, 32, .inl Cs)), (soA, .inl (cI, 120, .inl As)), (ta, .inr (4, [.ref cL, .ref taR, .ref taC, .ref taA, .int (nI kt), .int ht, .int dt, .int et, .ref t])), (taR, .inl (cI, 8, .inl Rt)), (taC, .inl (cI, 64, .inl Ct)), (taA, .inl (cI, 120, .inl At))]) (w1 := [(t, .inr (2, [.ref pL, .ref cL, .ref bA])), (pL, .inr (1, [.ref pF, .int (nI n)])), (pF, .inl (cI, 96, .inl P)), (cL, .inr (1, [.ref cF, .int (nI (tm_of P n n + 1))])), (cF, .inl (cI, 868, .inl (tm_p1 P n (tm_bg P n B (n + 1)) (tm_p1 P n B F)))), (bA, .inl (cI, 25, .inl (tm_bg P n (tm_bg P n B (n + 1)) (n + 1))))]) (va_runV (As := []) (rest := []) (C := R_Tr) ⟨hx, hb, hml, hown, hg⟩ (c_Tr_writeCode l D cI cZ cJ t pL pF cL cF bA P F B n k (by omega) (hin) (hok) s.heap.size) ⟨xg_B hg m_Tr_writeCode.1 m_Tr_writeCode.2.2.1 m_Tr_writeCode.2.2.2.1 m_Tr_writeCode.2.2.2.2 q203 rfl rfl ⟨Nat.le_of_ble_eq_true rfl, Nat.le_of_ble_eq_true rfl⟩, hg _ m_Tr_writeCode.2.1, hg _ q205⟩ ⟨xw_blind, (va_recv (q0 := 3) hK.1 hP rfl rfl), xw_pre hK hP hD [3, 1, 2, 4, 5, 6] (by decide) rfl⟩ rfl rfl hl.1 rfl (lv_room (Nat.le_of_ble_eq_true rfl)) d_TM_translate_29 ⟨Nat.zero_le _, Nat.zero_le _⟩) hP hD hS hA [3, 1, 2, 4, 5, 6] [0, 7, 8, 9, 10, 11, 12, 13, 14, 15, 16] [0, 12, 13, 11, 14, 15, 16, 1, 2, 3, 4, 5, 6, 7, 8, 9, 10] rfl rfl (by decide) (by decide) rfl (by decide) (fun H locs hP hD hS => ?_)
  refine lv_iload_n hx hb d_TM_translate_32 rfl (lv_at hl 0 rfl) ?_
  have hP : va_P D cls [(x0, .inr (0, [.ref pL, .ref t, .ref sR, .ref sD, .ref so, .ref ta])), (pL, .inr (1, [.ref pF, .int (nI n)])), (pF, .inl (cI, 96, .inl P)), (t, .inr (2, [.ref pL, .ref cL, .ref bA])), (cL, .inr (1, [.ref cF, .int (nI (tm_of P n n + 1))])), (cF, .inl (cI, 868, .inl (tm_p1 P n (tm_bg P n B (n + 1)) (tm_p1 P n B F)))), (bA, .inl (cI, 25, .inl (tm_bg P n (tm_bg P n B (n + 1)) (n + 1)))), (sR, .inl (cI, 8, .inl sr)), (sD, .inl (cI, 32, .inl sd)), (so, .inr (3, [.ref pL, .ref soR, .ref soC, .ref soA, .int (nI ks), .int hs, .int ds, .int es, .int xs])), (soR, .inl (cI, 8, .inl Rs)), (soC, .inl (cI, 32, .inl Cs)), (soA, .inl (cI, 120, .inl As)), (ta, .inr (4, [.ref cL, .ref taR, .ref taC, .ref taA, .int (nI kt), .int ht, .int dt, .int et, .ref t])), (taR, .inl (cI, 8, .inl Rt)), (taC, .inl (cI, 64, .inl Ct)), (taA, .inl (cI, 120, .inl At))] H := by exact hP
  have hD : va_D A [(x0, .inr (0, [.ref pL, .ref t, .ref sR, .ref sD, .ref so, .ref ta])), (pL, .inr (1, [.ref pF, .int (nI n)])), (pF, .inl (cI, 96, .inl P)), (t, .inr (2, [.ref pL, .ref cL, .ref bA])), (cL, .inr (1, [.ref cF, .int (nI (tm_of P n n + 1))])), (cF, .inl (cI, 868, .inl (tm_p1 P n (tm_bg P n B (n + 1)) (tm_p1 P n B F)))), (bA, .inl (cI, 25, .inl (tm_bg P n (tm_bg P n B (n + 1)) (n + 1)))), (sR, .inl (cI, 8, .inl sr)), (sD, .inl (cI, 32, .inl sd)), (so, .inr (3, [.ref pL, .ref soR, .ref soC, .ref soA, .int (nI ks), .int hs, .int ds, .int es, .int xs])), (soR, .inl (cI, 8, .inl Rs)), (soC, .inl (cI, 32, .inl Cs)), (soA, .inl (cI, 120, .inl As)), (ta, .inr (4, [.ref cL, .ref taR, .ref taC, .ref taA, .int (nI kt), .int ht, .int dt, .int et, .ref t])), (taR, .inl (cI, 8, .inl Rt)), (taC, .inl (cI, 64, .inl Ct)), (taA, .inl (cI, 120, .inl At))] := by exact hD
  exact W.iret (v := tm_ref P n) hx hb hr (fun t9 ht9 hW9 => ⟨⟨tm_ref P n, (), rfl, rfl, by rw [ht9]; exact hP, hD⟩, hS.F ht9⟩) hS.2.2 d_TM_translate_33

set_option maxHeartbeats 4000000 in
set_option maxRecDepth 100000 in
theorem c_TM_add (l : Launch) (D : va_G) (cI cZ cJ : ClassId) (x0 pL pF t cL cF bA sR sD so soR soC soA ta taR taC taA : Nat) (P F B sr sd Rs Cs As Rt Ct At : Nat → Int32) (n k ks kt : Nat) (hs ds es xs ht dt et : Int32) (u1 u2 u3 u4 : Int32) (g1 : ¬ tm_wi u1 0 15 = 0) (g2 : ¬ tm_wi u2 0 7 = 0) (g3 : ¬ tm_wi u3 0 7 = 0) (g4 : ¬ tm_wi u4 (-128) 127 = 0) (hn : n < 24) : xi_Met l y_TM_add b_TM_add 6 (some .int) { frames := 1, cells := 0, slots := 0, locals := 25 } [.ref x0, .int u1, .int u2, .int u3, .int u4] D cls (tyL cI cZ cJ) [(x0, .inr (0, [.ref pL, .ref t, .ref sR, .ref sD, .ref so, .ref ta])), (pL, .inr (1, [.ref pF, .int (nI n)])), (pF, .inl (cI, 96, .inl P)), (t, .inr (2, [.ref pL, .ref cL, .ref bA])), (cL, .inr (1, [.ref cF, .int (nI k)])), (cF, .inl (cI, 868, .inl F)), (bA, .inl (cI, 25, .inl B)), (sR, .inl (cI, 8, .inl sr)), (sD, .inl (cI, 32, .inl sd)), (so, .inr (3, [.ref pL, .ref soR, .ref soC, .ref soA, .int (nI ks), .int hs, .int ds, .int es, .int xs])), (soR, .inl (cI, 8, .inl Rs)), (soC, .inl (cI, 32, .inl Cs)), (soA, .inl (cI, 120, .inl As)), (ta, .inr (4, [.ref cL, .ref taR, .ref taC, .ref taA, .int (nI kt), .int ht, .int dt, .int et, .ref t])), (taR, .inl (cI, 8, .inl Rt)), (taC, .inl (cI, 64, .inl Ct)), (taA, .inl (cI, 120, .inl At))] [(x0, .inr (0, [.ref pL, .ref t, .ref sR, .ref sD, .ref so, .ref ta])), (pL, .inr (1, [.ref pF, .int (nI (n + 1))])), (pF, .inl (cI, 96, .inl (tm_w4 P n u1 u2 u3 u4))), (t, .inr (2, [.ref pL, .ref cL, .ref bA])), (cL, .inr (1, [.ref cF, .int (nI 0)])), (cF, .inl (cI, 868, .inl F)), (bA, .inl (cI, 25, .inl B)), (sR, .inl (cI, 8, .inl sr)), (sD, .inl (cI, 32, .inl sd)), (so, .inr (3, [.ref pL, .ref soR, .ref soC, .ref soA, .int (nI ks), .int hs, .int ds, .int es, .int xs])), (soR, .inl (cI, 8, .inl Rs)), (soC, .inl (cI, 32, .inl Cs)), (soA, .inl (cI, 120, .inl As)), (ta, .inr (4, [.ref cL, .ref taR, .ref taC, .ref taA, .int (nI kt), .int ht, .int dt, .int et, .ref t])), (taR, .inl (cI, 8, .inl Rt)), (taC, .inl (cI, 64, .inl Ct)), (taA, .inl (cI, 120, .inl At))] (nI n) := by
  intro sz
  refine Met.ofW (cc := b_TM_add) (maxL := 6) (ret := (some .int)) (by decide) rfl ?_
  intro p e s m args below meth c s₁ B0 hml hv
  obtain ⟨rfl, hsz, hP, hK, hD0⟩ := hv
  have hx := B0.exec
  have hb := B0.bytes
  have hr := B0.returns
  have hlocks := B0.notSynchronized
  have hg : ∀ w ∈ gG, w.before _ s = true := fun w h => atoms_spec B0.pre w (List.mem_cons_of_mem _ h)
  have hown : s.vm.findClass R_TM = some m.cls := findClass_of_methodNamed B0.named
  subst hsz
  have hD := hD0.self (sz := s.heap.size)
  generalize hAe : va_A [(x0, .inr (0, [.ref pL, .ref t, .ref sR, .ref sD, .ref so, .ref ta])), (pL, .inr (1, [.ref pF, .int (nI n)])), (pF, .inl (cI, 96, .inl P)), (t, .inr (2, [.ref pL, .ref cL, .ref bA])), (cL, .inr (1, [.ref cF, .int (nI k)])), (cF, .inl (cI, 868, .inl F)), (bA, .inl (cI, 25, .inl B)), (sR, .inl (cI, 8, .inl sr)), (sD, .inl (cI, 32, .inl sd)), (so, .inr (3, [.ref pL, .ref soR, .ref soC, .ref soA, .int (nI ks), .int hs, .int ds, .int es, .int xs])), (soR, .inl (cI, 8, .inl Rs)), (soC, .inl (cI, 32, .inl Cs)), (soA, .inl (cI, 120, .inl As)), (ta, .inr (4, [.ref cL, .ref taR, .ref taC, .ref taA, .int (nI kt), .int ht, .int dt, .int et, .ref t])), (taR, .inl (cI, 8, .inl Rt)), (taC, .inl (cI, 64, .inl Ct)), (taA, .inl (cI, 120, .inl At))] s.heap.size = A at hD ⊢
  have hA : ∀ q : Nat, s.heap.size ≤ q → A q := fun q h => by rw [← hAe]; exact Or.inr h
  have hS : va_S A s.heap s.heap [] := va_S.rf
  have hP : va_P D cls [(x0, .inr (0, [.ref pL, .ref t, .ref sR, .ref sD, .ref so, .ref ta])), (pL, .inr (1, [.ref pF, .int (nI n)])), (pF, .inl (cI, 96, .inl P)), (t, .inr (2, [.ref pL, .ref cL, .ref bA])), (cL, .inr (1, [.ref cF, .int (nI k)])), (cF, .inl (cI, 868, .inl F)), (bA, .inl (cI, 25, .inl B)), (sR, .inl (cI, 8, .inl sr)), (sD, .inl (cI, 32, .inl sd)), (so, .inr (3, [.ref pL, .ref soR, .ref soC, .ref soA, .int (nI ks), .int hs, .int ds, .int es, .int xs])), (soR, .inl (cI, 8, .inl Rs)), (soC, .inl (cI, 32, .inl Cs)), (soA, .inl (cI, 120, .inl As)), (ta, .inr (4, [.ref cL, .ref taR, .ref taC, .ref taA, .int (nI kt), .int ht, .int dt, .int et, .ref t])), (taR, .inl (cI, 8, .inl Rt)), (taC, .inl (cI, 64, .inl Ct)), (taA, .inl (cI, 120, .inl At))] s.heap := hP
  have hl := lv_entry ([.ref x0, .int u1, .int u2, .int u3, .int u4]) (n := 6) (Nat.le_of_ble_eq_true rfl)
  rw [lg_entry_eq]
  generalize (lg_sl ([.ref x0, .int u1, .int u2, .int u3, .int u4]) ++ List.replicate (6 - (lg_sl ([.ref x0, .int u1, .int u2, .int u3, .int u4])).length) Slot.unset).toArray = ls at hl ⊢
  have hl : lv_has ls 6 [(0, .ref x0), (1, .int u1), (2, .int u2), (3, .int u3), (4, .int u4)] := hl
  refine lv_iload_n hx hb d_TM_add_0 rfl (lv_at hl 1 rfl) ?_
  refine lv_iconst (v := 0) hx hb d_TM_add_1 (by decide) ?_
  refine lv_bipush (v := 15) hx hb d_TM_add_2 (by decide) ?_
  refine xr_S (As := [.int u1, .int 0, .int 15]) (rest := []) ⟨hx, hb, hml, hown, hg⟩ (c_TM_isWithin l D cI cZ cJ u1 0 15) m_TM_isWithin q274 ⟨rfl, rfl⟩ ⟨Nat.le_of_ble_eq_true rfl, Nat.le_of_ble_eq_true rfl⟩ hK hP [] rfl rfl hl.1 rfl (Nat.le_of_ble_eq_true rfl) d_TM_add_4 ⟨Nat.zero_le _, Nat.zero_le _⟩ ?_
  refine lv_if_eq (tgt := 46) hx hb d_TM_add_7 rfl (fun hz9 => absurd hz9 (g1)) (fun _ => ?_)
  refine lv_iload_n hx hb d_TM_add_10 rfl (lv_at hl 2 rfl) ?_
  refine lv_iconst (v := 0) hx hb d_TM_add_11 (by decide) ?_
  refine lv_bipush (v := 7) hx hb d_TM_add_12 (by decide) ?_
  refine xr_S (As := [.int u2, .int 0, .int 7]) (rest := []) ⟨hx, hb, hml, hown, hg⟩ (c_TM_isWithin l D cI cZ cJ u2 0 7) m_TM_isWithin q274 ⟨rfl, rfl⟩ ⟨Nat.le_of_ble_eq_true rfl, Nat.le_of_ble_eq_true rfl⟩ hK hP [] rfl rfl hl.1 rfl (Nat.le_of_ble_eq_true rfl) d_TM_add_14 ⟨Nat.zero_le _, Nat.zero_le _⟩ ?_
  refine lv_if_eq (tgt := 46) hx hb d_TM_add_17 rfl (fun hz9 => absurd hz9 (g2)) (fun _ => ?_)
  refine lv_iload_n hx hb d_TM_add_20 rfl (lv_at hl 3 rfl) ?_
  refine lv_iconst (v := 0) hx hb d_TM_add_21 (by decide) ?_
  refine lv_bipush (v := 7) hx hb d_TM_add_22 (by decide) ?_
  refine xr_S (As := [.int u3, .int 0, .int 7]) (rest := []) ⟨hx, hb, hml, hown, hg⟩ (c_TM_isWithin l D cI cZ cJ u3 0 7) m_TM_isWithin q274 ⟨rfl, rfl⟩ ⟨Nat.le_of_ble_eq_true rfl, Nat.le_of_ble_eq_true rfl⟩ hK hP [] rfl rfl hl.1 rfl (Nat.le_of_ble_eq_true rfl) d_TM_add_24 ⟨Nat.zero_le _, Nat.zero_le _⟩ ?_
  refine lv_if_eq (tgt := 46) hx hb d_TM_add_27 rfl (fun hz9 => absurd hz9 (g3)) (fun _ => ?_)
  refine lv_iload hx hb d_TM_add_30 (lv_at hl 4 rfl) ?_
  refine lv_bipush (v := -128) hx hb d_TM_add_32 (by decide) ?_
  refine lv_bipush (v := 127) hx hb d_TM_add_34 (by decide) ?_
  refine xr_S (As := [.int u4, .int (-128), .int 127]) (rest := []) ⟨hx, hb, hml, hown, hg⟩ (c_TM_isWithin l D cI cZ cJ u4 (-128) 127) m_TM_isWithin q274 ⟨rfl, rfl⟩ ⟨Nat.le_of_ble_eq_true rfl, Nat.le_of_ble_eq_true rfl⟩ hK hP [] rfl rfl hl.1 rfl (Nat.le_of_ble_eq_true rfl) d_TM_add_36 ⟨Nat.zero_le _, Nat.zero_le _⟩ ?_
  refine lv_if_eq (tgt := 46) hx hb d_TM_add_39 rfl (fun hz9 => absurd hz9 (g4)) (fun _ => ?_)
  refine lv_iconst (v := 1) hx hb d_TM_add_42 (by decide) ?_
  refine lv_goto (tgt := 47) hx hb d_TM_add_43 rfl ?_
  refine lv_istore hx hb d_TM_add_47 hl (by decide) rfl (fun ls hl => ?_)
  have hl : lv_has ls 6 [(5, .int 1), (0, .ref x0), (1, .int u1), (2, .int u2), (3, .int u3), (4, .int u4)] := hl
  refine lv_iload hx hb d_TM_add_49 (lv_at hl 0 rfl) ?_
  refine lv_if_ne (tgt := 62) hx hb d_TM_add_51 rfl (fun _ => ?_) (fun hz9 => absurd hz9 (by decide))
  refine lv_aload_n hx hb d_TM_add_62 rfl (lv_at hl 1 rfl) ?_
  refine va_get (D := D) (ci := 0) (v := .ref pL) (C := R_TM) (T := F_TM) (N := 6) hx hb hg f_TM hown hK.1 hP 0 rfl rfl 0 (by decide) (hg _ q140) (fun _ h9 => h9) rfl d_TM_add_63 ?_
  refine va_get (D := D) (ci := 1) (v := .int (nI n)) (C := R_Li) (T := F_Li) (N := 2) hx hb hg f_Li hown hK.1 hP 1 rfl rfl 1 (by decide) (hg _ q34) (fun _ h9 => h9) rfl d_TM_add_66 ?_
  refine lv_bipush (v := 24) hx hb d_TM_add_69 (by decide) ?_
  refine lv_icmp_lt (tgt := 82) hx hb d_TM_add_71 rfl (fun _ => ?_) (fun hz9 => absurd (nI_lt (a := n) (b := 24) (by omega) (by decide)) hz9)
  refine lv_aload_n hx hb d_TM_add_82 rfl (lv_at hl 1 rfl) ?_
  refine va_get (D := D) (ci := 0) (v := .ref pL) (C := R_TM) (T := F_TM) (N := 6) hx hb hg f_TM hown hK.1 hP 0 rfl rfl 0 (by decide) (hg _ q140) (fun _ h9 => h9) rfl d_TM_add_83 ?_
  refine lv_iload_n hx hb d_TM_add_86 rfl (lv_at hl 2 rfl) ?_
  refine lv_iload_n hx hb d_TM_add_87 rfl (lv_at hl 3 rfl) ?_
  refine lv_iload_n hx hb d_TM_add_88 rfl (lv_at hl 4 rfl) ?_
  refine lv_iload hx hb d_TM_add_89 (lv_at hl 5 rfl) ?_
  refine xw_go (w2 := [(x0, .inr (0, [.ref pL, .ref t, .ref sR, .ref sD, .ref so, .ref ta])), (pL, .inr (1, [.ref pF, .int (nI (n + 1))])), (pF, .inl (cI, 96, .inl (tm_w4 P n u1 u2 u3 u4))), (t, .inr (2, [.ref pL, .ref cL, .ref bA])), (cL, .inr (1, [.ref cF, .int (nI k)])), (cF, .inl (cI, 868, .inl F)), (bA, .inl (cI, 25, .inl B)), (sR, .inl (cI, 8, .inl sr)), (sD, .inl (cI, 32, .inl sd)), (so, .inr (3, [.ref pL, .ref soR, .ref soC, .ref soA, .int (nI ks), .int hs, .int ds, .int es, .int xs])), (soR, .inl (cI, 8, .inl Rs)), (soC, .inl (cI, 32, .inl Cs)), (soA, .inl (cI, 120, .inl As)), (ta, .inr (4, [.ref cL, .ref taR, .ref taC, .ref taA, .int (nI kt), .int ht, .int dt, .int et, .ref t])), (taR, .inl (cI, 8, .inl Rt)), (taC, .inl (cI, 64, .inl Ct)), (taA, .inl (cI, 120, .inl At))]) (wr := [(x0, .inr (0, [.ref pL, .ref t, .ref sR, .ref sD, .ref so, .ref ta])), (t, .inr (2, [.ref pL, .ref cL, .ref bA])), (cL, .inr (1, [.ref cF, .int (nI k)])), (cF, .inl (cI, 868, .inl F)), (bA, .inl (cI, 25, .inl B)), (sR, .inl (cI, 8, .inl sr)), (sD, .inl (cI, 32, .inl sd)), (so, .inr (3, [.ref pL, .ref soR, .ref soC, .ref soA, .int (nI ks), .int hs, .int ds, .int es, .int xs])), (soR, .inl (cI, 8, .inl Rs)), (soC, .inl (cI, 32, .inl Cs)), (soA, .inl (cI, 120, .inl As)), (ta, .inr (4, [.ref cL, .ref taR, .ref taC, .ref taA, .int (nI kt), .int ht, .int dt, .int et, .ref t])), (taR, .inl (cI, 8, .inl Rt)), (taC, .inl (cI, 64, .inl Ct)), (taA, .inl (cI, 120, .inl At))]) (w1 := [(pL, .inr (1, [.ref pF, .int (nI (n + 1))])), (pF, .inl (cI, 96, .inl (tm_w4 P n u1 u2 u3 u4)))]) (va_runV (As := [.int u1, .int u2, .int u3, .int u4]) (rest := []) (C := R_Li) ⟨hx, hb, hml, hown, hg⟩ (c_Li_append l D cI cZ cJ pL pF 96 P n u1 u2 u3 u4 (by omega) (by omega) s.heap.size) ⟨xg_B hg m_Li_append.1 m_Li_append.2.2.1 m_Li_append.2.2.2.1 m_Li_append.2.2.2.2 q373 rfl rfl ⟨Nat.le_of_ble_eq_true rfl, Nat.le_of_ble_eq_true rfl⟩, hg _ m_Li_append.2.1, hg _ q214⟩ ⟨xw_blind, (va_recv (q0 := 1) hK.1 hP rfl rfl), xw_pre hK hP hD [1, 2] (by decide) rfl⟩ rfl rfl hl.1 rfl (lv_room (Nat.le_of_ble_eq_true rfl)) d_TM_add_91 ⟨Nat.zero_le _, Nat.zero_le _⟩) hP hD hS hA [1, 2] [0, 3, 4, 5, 6, 7, 8, 9, 10, 11, 12, 13, 14, 15, 16] [0, 15, 16, 1, 2, 3, 4, 5, 6, 7, 8, 9, 10, 11, 12, 13, 14] rfl rfl (by decide) (by decide) rfl (by decide) (fun H locs hP hD hS => ?_)
  refine lv_aload_n hx hb d_TM_add_94 rfl (lv_at hl 1 rfl) ?_
  refine va_get (D := D) (ci := 0) (v := .ref t) (C := R_TM) (T := F_TM) (N := 6) hx hb hg f_TM hown hK.1 hP 0 rfl rfl 1 (by decide) (hg _ q141) (fun _ h9 => h9) rfl d_TM_add_95 ?_
  refine va_get (D := D) (ci := 2) (v := .ref cL) (C := R_Tr) (T := F_Tr) (N := 3) hx hb hg f_Tr hown hK.1 hP 3 rfl rfl 1 (by decide) (hg _ q54) (fun _ h9 => h9) rfl d_TM_add_98 ?_
  refine xw_go (w2 := [(x0, .inr (0, [.ref pL, .ref t, .ref sR, .ref sD, .ref so, .ref ta])), (pL, .inr (1, [.ref pF, .int (nI (n + 1))])), (pF, .inl (cI, 96, .inl (tm_w4 P n u1 u2 u3 u4))), (t, .inr (2, [.ref pL, .ref cL, .ref bA])), (cL, .inr (1, [.ref cF, .int 0])), (cF, .inl (cI, 868, .inl F)), (bA, .inl (cI, 25, .inl B)), (sR, .inl (cI, 8, .inl sr)), (sD, .inl (cI, 32, .inl sd)), (so, .inr (3, [.ref pL, .ref soR, .ref soC, .ref soA, .int (nI ks), .int hs, .int ds, .int es, .int xs])), (soR, .inl (cI, 8, .inl Rs)), (soC, .inl (cI, 32, .inl Cs)), (soA, .inl (cI, 120, .inl As)), (ta, .inr (4, [.ref cL, .ref taR, .ref taC, .ref taA, .int (nI kt), .int ht, .int dt, .int et, .ref t])), (taR, .inl (cI, 8, .inl Rt)), (taC, .inl (cI, 64, .inl Ct)), (taA, .inl (cI, 120, .inl At))]) (wr := [(x0, .inr (0, [.ref pL, .ref t, .ref sR, .ref sD, .ref so, .ref ta])), (pL, .inr (1, [.ref pF, .int (nI (n + 1))])), (pF, .inl (cI, 96, .inl (tm_w4 P n u1 u2 u3 u4))), (t, .inr (2, [.ref pL, .ref cL, .ref bA])), (bA, .inl (cI, 25, .inl B)), (sR, .inl (cI, 8, .inl sr)), (sD, .inl (cI, 32, .inl sd)), (so, .inr (3, [.ref pL, .ref soR, .ref soC, .ref soA, .int (nI ks), .int hs, .int ds, .int es, .int xs])), (soR, .inl (cI, 8, .inl Rs)), (soC, .inl (cI, 32, .inl Cs)), (soA, .inl (cI, 120, .inl As)), (ta, .inr (4, [.ref cL, .ref taR, .ref taC, .ref taA, .int (nI kt), .int ht, .int dt, .int et, .ref t])), (taR, .inl (cI, 8, .inl Rt)), (taC, .inl (cI, 64, .inl Ct)), (taA, .inl (cI, 120, .inl At))]) (w1 := [(cL, .inr (1, [.ref cF, .int 0])), (cF, .inl (cI, 868, .inl F))]) (va_runV (As := []) (rest := []) (C := R_Li) ⟨hx, hb, hml, hown, hg⟩ (c_Li_drop l D cI cZ cJ cL cF 868 F (nI k) H.size) ⟨xg_B hg m_Li_drop.1 m_Li_drop.2.2.1 m_Li_drop.2.2.2.1 m_Li_drop.2.2.2.2 q163 rfl rfl ⟨Nat.le_of_ble_eq_true rfl, Nat.le_of_ble_eq_true rfl⟩, hg _ m_Li_drop.2.1, hg _ q165⟩ ⟨xw_blind, (va_recv (q0 := 4) hK.1 hP rfl rfl), xw_pre hK hP hD [4, 5] (by decide) rfl⟩ rfl rfl hl.1 rfl (lv_room (Nat.le_of_ble_eq_true rfl)) d_TM_add_101 ⟨Nat.zero_le _, Nat.zero_le _⟩) hP hD hS hA [4, 5] [0, 1, 2, 3, 6, 7, 8, 9, 10, 11, 12, 13, 14, 15, 16] [0, 1, 2, 3, 15, 16, 4, 5, 6, 7, 8, 9, 10, 11, 12, 13, 14] rfl rfl (by decide) (by decide) rfl (by decide) (fun H locs hP hD hS => ?_)
  refine lv_aload_n hx hb d_TM_add_104 rfl (lv_at hl 1 rfl) ?_
  refine va_get (D := D) (ci := 0) (v := .ref pL) (C := R_TM) (T := F_TM) (N := 6) hx hb hg f_TM hown hK.1 hP 0 rfl rfl 0 (by decide) (hg _ q140) (fun _ h9 => h9) rfl d_TM_add_105 ?_
  refine va_get (D := D) (ci := 1) (v := .int (nI (n + 1))) (C := R_Li) (T := F_Li) (N := 2) hx hb hg f_Li hown hK.1 hP 1 rfl rfl 1 (by decide) (hg _ q34) (fun _ h9 => h9) rfl d_TM_add_108 ?_
  refine lv_iconst (v := 1) hx hb d_TM_add_111 (by decide) ?_
  refine lv_isub hx hb d_TM_add_112 ?_
  have eq9 : ((nI (n + 1)) - 1 : Int32) = nI n := nI_pred n
  refine W.eq (g2 := F0 m 113 ls [.int (nI n)]) (by rw [eq9]) ?_
  have ew1 : 0 = nI 0 := by first | rfl | simp []
  have hP : va_P D cls [(x0, .inr (0, [.ref pL, .ref t, .ref sR, .ref sD, .ref so, .ref ta])), (pL, .inr (1, [.ref pF, .int (nI (n + 1))])), (pF, .inl (cI, 96, .inl (tm_w4 P n u1 u2 u3 u4))), (t, .inr (2, [.ref pL, .ref cL, .ref bA])), (cL, .inr (1, [.ref cF, .int (nI 0)])), (cF, .inl (cI, 868, .inl F)), (bA, .inl (cI, 25, .inl B)), (sR, .inl (cI, 8, .inl sr)), (sD, .inl (cI, 32, .inl sd)), (so, .inr (3, [.ref pL, .ref soR, .ref soC, .ref soA, .int (nI ks), .int hs, .int ds, .int es, .int xs])), (soR, .inl (cI, 8, .inl Rs)), (soC, .inl (cI, 32, .inl Cs)), (soA, .inl (cI, 120, .inl As)), (ta, .inr (4, [.ref cL, .ref taR, .ref taC, .ref taA, .int (nI kt), .int ht, .int dt, .int et, .ref t])), (taR, .inl (cI, 8, .inl Rt)), (taC, .inl (cI, 64, .inl Ct)), (taA, .inl (cI, 120, .inl At))] H := by rw [← ew1]; exact hP
  have hD : va_D A [(x0, .inr (0, [.ref pL, .ref t, .ref sR, .ref sD, .ref so, .ref ta])), (pL, .inr (1, [.ref pF, .int (nI (n + 1))])), (pF, .inl (cI, 96, .inl (tm_w4 P n u1 u2 u3 u4))), (t, .inr (2, [.ref pL, .ref cL, .ref bA])), (cL, .inr (1, [.ref cF, .int (nI 0)])), (cF, .inl (cI, 868, .inl F)), (bA, .inl (cI, 25, .inl B)), (sR, .inl (cI, 8, .inl sr)), (sD, .inl (cI, 32, .inl sd)), (so, .inr (3, [.ref pL, .ref soR, .ref soC, .ref soA, .int (nI ks), .int hs, .int ds, .int es, .int xs])), (soR, .inl (cI, 8, .inl Rs)), (soC, .inl (cI, 32, .inl Cs)), (soA, .inl (cI, 120, .inl As)), (ta, .inr (4, [.ref cL, .ref taR, .ref taC, .ref taA, .int (nI kt), .int ht, .int dt, .int et, .ref t])), (taR, .inl (cI, 8, .inl Rt)), (taC, .inl (cI, 64, .inl Ct)), (taA, .inl (cI, 120, .inl At))] := by rw [← ew1]; exact hD
  exact W.iret (v := nI n) hx hb hr (fun t9 ht9 hW9 => ⟨⟨nI n, (), rfl, rfl, by rw [ht9]; exact hP, hD⟩, hS.F ht9⟩) hS.2.2 d_TM_add_113

set_option maxHeartbeats 4000000 in
set_option maxRecDepth 100000 in
theorem c_TM_add_2 (l : Launch) (hL : xe_L l) (D : va_G) (cI cZ cJ : ClassId) (x0 pL pF t cL cF bA sR sD so soR soC soA ta taR taC taA : Nat) (P F B sr sd Rs Cs As Rt Ct At : Nat → Int32) (n k ks kt : Nat) (hs ds es xs ht dt et : Int32) (u1 u2 u3 u4 : Int32) (g1 : ¬ tm_wi u1 0 15 = 0) (g2 : ¬ tm_wi u2 0 7 = 0) (g3 : ¬ tm_wi u3 0 7 = 0) (g4 : ¬ tm_wi u4 (-128) 127 = 0) (hn : n = 24) : xt_Met l y_TM_add b_TM_add 6 (some .int) { frames := 6, cells := 1, slots := 6, locals := 81 } [.ref x0, .int u1, .int u2, .int u3, .int u4] (xtb D cls [(x0, .inr (0, [.ref pL, .ref t, .ref sR, .ref sD, .ref so, .ref ta])), (pL, .inr (1, [.ref pF, .int (nI n)])), (pF, .inl (cI, 96, .inl P)), (t, .inr (2, [.ref pL, .ref cL, .ref bA])), (cL, .inr (1, [.ref cF, .int (nI k)])), (cF, .inl (cI, 868, .inl F)), (bA, .inl (cI, 25, .inl B)), (sR, .inl (cI, 8, .inl sr)), (sD, .inl (cI, 32, .inl sd)), (so, .inr (3, [.ref pL, .ref soR, .ref soC, .ref soA, .int (nI ks), .int hs, .int ds, .int es, .int xs])), (soR, .inl (cI, 8, .inl Rs)), (soC, .inl (cI, 32, .inl Cs)), (soA, .inl (cI, 120, .inl As)), (ta, .inr (4, [.ref cL, .ref taR, .ref taC, .ref taA, .int (nI kt), .int ht, .int dt, .int et, .ref t])), (taR, .inl (cI, 8, .inl Rt)), (taC, .inl (cI, 64, .inl Ct)), (taA, .inl (cI, 120, .inl At))] (tyL cI cZ cJ)) "java/lang/IllegalStateException" := by
  refine xe_ofW (cc := b_TM_add) (maxL := 6) (ret := (some .int)) (by decide) rfl ?_
  intro p e s m args below meth c s₁ B0 hadm hnone hml hv
  obtain ⟨rfl, ⟨hP, hK⟩, hT⟩ := hv
  have hx := B0.exec
  have hb := B0.bytes
  have hr := B0.returns
  have hlocks := B0.notSynchronized
  have hg : ∀ w ∈ gG, w.before _ s = true := fun w h => atoms_spec B0.pre w (List.mem_cons_of_mem _ h)
  have hown : s.vm.findClass R_TM = some m.cls := findClass_of_methodNamed B0.named
  have hP : va_P D cls [(x0, .inr (0, [.ref pL, .ref t, .ref sR, .ref sD, .ref so, .ref ta])), (pL, .inr (1, [.ref pF, .int (nI n)])), (pF, .inl (cI, 96, .inl P)), (t, .inr (2, [.ref pL, .ref cL, .ref bA])), (cL, .inr (1, [.ref cF, .int (nI k)])), (cF, .inl (cI, 868, .inl F)), (bA, .inl (cI, 25, .inl B)), (sR, .inl (cI, 8, .inl sr)), (sD, .inl (cI, 32, .inl sd)), (so, .inr (3, [.ref pL, .ref soR, .ref soC, .ref soA, .int (nI ks), .int hs, .int ds, .int es, .int xs])), (soR, .inl (cI, 8, .inl Rs)), (soC, .inl (cI, 32, .inl Cs)), (soA, .inl (cI, 120, .inl As)), (ta, .inr (4, [.ref cL, .ref taR, .ref taC, .ref taA, .int (nI kt), .int ht, .int dt, .int et, .ref t])), (taR, .inl (cI, 8, .inl Rt)), (taC, .inl (cI, 64, .inl Ct)), (taA, .inl (cI, 120, .inl At))] s.heap := hP
  have hl := lv_entry ([.ref x0, .int u1, .int u2, .int u3, .int u4]) (n := 6) (Nat.le_of_ble_eq_true rfl)
  rw [lg_entry_eq]
  generalize (lg_sl ([.ref x0, .int u1, .int u2, .int u3, .int u4]) ++ List.replicate (6 - (lg_sl ([.ref x0, .int u1, .int u2, .int u3, .int u4])).length) Slot.unset).toArray = ls at hl ⊢
  have hl : lv_has ls 6 [(0, .ref x0), (1, .int u1), (2, .int u2), (3, .int u3), (4, .int u4)] := hl
  refine lv_iload_n hx hb d_TM_add_0 rfl (lv_at hl 1 rfl) ?_
  refine lv_iconst (v := 0) hx hb d_TM_add_1 (by decide) ?_
  refine lv_bipush (v := 15) hx hb d_TM_add_2 (by decide) ?_
  refine xr_S (As := [.int u1, .int 0, .int 15]) (rest := []) ⟨hx, hb, hml, hown, hg⟩ (c_TM_isWithin l D cI cZ cJ u1 0 15) m_TM_isWithin q274 ⟨rfl, rfl⟩ ⟨Nat.le_of_ble_eq_true rfl, Nat.le_of_ble_eq_true rfl⟩ hK hP [] rfl rfl hl.1 rfl (Nat.le_of_ble_eq_true rfl) d_TM_add_4 ⟨Nat.zero_le _, Nat.zero_le _⟩ ?_
  refine lv_if_eq (tgt := 46) hx hb d_TM_add_7 rfl (fun hz9 => absurd hz9 (g1)) (fun _ => ?_)
  refine lv_iload_n hx hb d_TM_add_10 rfl (lv_at hl 2 rfl) ?_
  refine lv_iconst (v := 0) hx hb d_TM_add_11 (by decide) ?_
  refine lv_bipush (v := 7) hx hb d_TM_add_12 (by decide) ?_
  refine xr_S (As := [.int u2, .int 0, .int 7]) (rest := []) ⟨hx, hb, hml, hown, hg⟩ (c_TM_isWithin l D cI cZ cJ u2 0 7) m_TM_isWithin q274 ⟨rfl, rfl⟩ ⟨Nat.le_of_ble_eq_true rfl, Nat.le_of_ble_eq_true rfl⟩ hK hP [] rfl rfl hl.1 rfl (Nat.le_of_ble_eq_true rfl) d_TM_add_14 ⟨Nat.zero_le _, Nat.zero_le _⟩ ?_
  refine lv_if_eq (tgt := 46) hx hb d_TM_add_17 rfl (fun hz9 => absurd hz9 (g2)) (fun _ => ?_)
  refine lv_iload_n hx hb d_TM_add_20 rfl (lv_at hl 3 rfl) ?_
  refine lv_iconst (v := 0) hx hb d_TM_add_21 (by decide) ?_
  refine lv_bipush (v := 7) hx hb d_TM_add_22 (by decide) ?_
  refine xr_S (As := [.int u3, .int 0, .int 7]) (rest := []) ⟨hx, hb, hml, hown, hg⟩ (c_TM_isWithin l D cI cZ cJ u3 0 7) m_TM_isWithin q274 ⟨rfl, rfl⟩ ⟨Nat.le_of_ble_eq_true rfl, Nat.le_of_ble_eq_true rfl⟩ hK hP [] rfl rfl hl.1 rfl (Nat.le_of_ble_eq_true rfl) d_TM_add_24 ⟨Nat.zero_le _, Nat.zero_le _⟩ ?_
  refine lv_if_eq (tgt := 46) hx hb d_TM_add_27 rfl (fun hz9 => absurd hz9 (g3)) (fun _ => ?_)
  refine lv_iload hx hb d_TM_add_30 (lv_at hl 4 rfl) ?_
  refine lv_bipush (v := -128) hx hb d_TM_add_32 (by decide) ?_
  refine lv_bipush (v := 127) hx hb d_TM_add_34 (by decide) ?_
  refine xr_S (As := [.int u4, .int (-128), .int 127]) (rest := []) ⟨hx, hb, hml, hown, hg⟩ (c_TM_isWithin l D cI cZ cJ u4 (-128) 127) m_TM_isWithin q274 ⟨rfl, rfl⟩ ⟨Nat.le_of_ble_eq_true rfl, Nat.le_of_ble_eq_true rfl⟩ hK hP [] rfl rfl hl.1 rfl (Nat.le_of_ble_eq_true rfl) d_TM_add_36 ⟨Nat.zero_le _, Nat.zero_le _⟩ ?_
  refine lv_if_eq (tgt := 46) hx hb d_TM_add_39 rfl (fun hz9 => absurd hz9 (g4)) (fun _ => ?_)
  refine lv_iconst (v := 1) hx hb d_TM_add_42 (by decide) ?_
  refine lv_goto (tgt := 47) hx hb d_TM_add_43 rfl ?_
  refine lv_istore hx hb d_TM_add_47 hl (by decide) rfl (fun ls hl => ?_)
  have hl : lv_has ls 6 [(5, .int 1), (0, .ref x0), (1, .int u1), (2, .int u2), (3, .int u3), (4, .int u4)] := hl
  refine lv_iload hx hb d_TM_add_49 (lv_at hl 0 rfl) ?_
  refine lv_if_ne (tgt := 62) hx hb d_TM_add_51 rfl (fun _ => ?_) (fun hz9 => absurd hz9 (by decide))
  refine lv_aload_n hx hb d_TM_add_62 rfl (lv_at hl 1 rfl) ?_
  refine va_get (D := D) (ci := 0) (v := .ref pL) (C := R_TM) (T := F_TM) (N := 6) hx hb hg f_TM hown hK.1 hP 0 rfl rfl 0 (by decide) (hg _ q140) (fun _ h9 => h9) rfl d_TM_add_63 ?_
  refine va_get (D := D) (ci := 1) (v := .int (nI n)) (C := R_Li) (T := F_Li) (N := 2) hx hb hg f_Li hown hK.1 hP 1 rfl rfl 1 (by decide) (hg _ q34) (fun _ h9 => h9) rfl d_TM_add_66 ?_
  refine lv_bipush (v := 24) hx hb d_TM_add_69 (by decide) ?_
  refine lv_icmp_lt (tgt := 82) hx hb d_TM_add_71 rfl (fun hz9 => absurd hz9 (nI_nlt (a := n) (b := 24) (by omega) (by omega))) (fun _ => ?_)
  exact xe_new (names := ["java/lang/RuntimeException", "java/lang/Exception"]) hx hb (hL e hadm) hnone hlocks hml hl.1 hown (hg _ q358) (hg _ q12) (by decide) (by decide) (xt_ise hg hT) d_TM_add_74 d_TM_add_77 d_TM_add_78 d_TM_add_81 (Nat.le_of_ble_eq_true rfl) (Nat.le_of_ble_eq_true rfl) (Nat.le_of_ble_eq_true rfl) (Nat.le_of_ble_eq_true rfl)

set_option maxHeartbeats 4000000 in
set_option maxRecDepth 100000 in
theorem c_TM_add_1 (l : Launch) (hL : xe_L l) (D : va_G) (cI cZ cJ : ClassId) (x0 pL pF t cL cF bA sR sD so soR soC soA ta taR taC taA : Nat) (P F B sr sd Rs Cs As Rt Ct At : Nat → Int32) (n k ks kt : Nat) (hs ds es xs ht dt et : Int32) (u1 u2 u3 u4 : Int32) (hbad : tm_wi u1 0 15 = 0 ∨ tm_wi u2 0 7 = 0 ∨ tm_wi u3 0 7 = 0 ∨ tm_wi u4 (-128) 127 = 0) : xt_Met l y_TM_add b_TM_add 6 (some .int) { frames := 6, cells := 1, slots := 6, locals := 81 } [.ref x0, .int u1, .int u2, .int u3, .int u4] (xtb D cls [(x0, .inr (0, [.ref pL, .ref t, .ref sR, .ref sD, .ref so, .ref ta])), (pL, .inr (1, [.ref pF, .int (nI n)])), (pF, .inl (cI, 96, .inl P)), (t, .inr (2, [.ref pL, .ref cL, .ref bA])), (cL, .inr (1, [.ref cF, .int (nI k)])), (cF, .inl (cI, 868, .inl F)), (bA, .inl (cI, 25, .inl B)), (sR, .inl (cI, 8, .inl sr)), (sD, .inl (cI, 32, .inl sd)), (so, .inr (3, [.ref pL, .ref soR, .ref soC, .ref soA, .int (nI ks), .int hs, .int ds, .int es, .int xs])), (soR, .inl (cI, 8, .inl Rs)), (soC, .inl (cI, 32, .inl Cs)), (soA, .inl (cI, 120, .inl As)), (ta, .inr (4, [.ref cL, .ref taR, .ref taC, .ref taA, .int (nI kt), .int ht, .int dt, .int et, .ref t])), (taR, .inl (cI, 8, .inl Rt)), (taC, .inl (cI, 64, .inl Ct)), (taA, .inl (cI, 120, .inl At))] (tyL cI cZ cJ)) "java/lang/IllegalArgumentException" := by
  refine xe_ofW (cc := b_TM_add) (maxL := 6) (ret := (some .int)) (by decide) rfl ?_
  intro p e s m args below meth c s₁ B0 hadm hnone hml hv
  obtain ⟨rfl, ⟨hP, hK⟩, hT⟩ := hv
  have hx := B0.exec
  have hb := B0.bytes
  have hr := B0.returns
  have hlocks := B0.notSynchronized
  have hg : ∀ w ∈ gG, w.before _ s = true := fun w h => atoms_spec B0.pre w (List.mem_cons_of_mem _ h)
  have hown : s.vm.findClass R_TM = some m.cls := findClass_of_methodNamed B0.named
  have hP : va_P D cls [(x0, .inr (0, [.ref pL, .ref t, .ref sR, .ref sD, .ref so, .ref ta])), (pL, .inr (1, [.ref pF, .int (nI n)])), (pF, .inl (cI, 96, .inl P)), (t, .inr (2, [.ref pL, .ref cL, .ref bA])), (cL, .inr (1, [.ref cF, .int (nI k)])), (cF, .inl (cI, 868, .inl F)), (bA, .inl (cI, 25, .inl B)), (sR, .inl (cI, 8, .inl sr)), (sD, .inl (cI, 32, .inl sd)), (so, .inr (3, [.ref pL, .ref soR, .ref soC, .ref soA, .int (nI ks), .int hs, .int ds, .int es, .int xs])), (soR, .inl (cI, 8, .inl Rs)), (soC, .inl (cI, 32, .inl Cs)), (soA, .inl (cI, 120, .inl As)), (ta, .inr (4, [.ref cL, .ref taR, .ref taC, .ref taA, .int (nI kt), .int ht, .int dt, .int et, .ref t])), (taR, .inl (cI, 8, .inl Rt)), (taC, .inl (cI, 64, .inl Ct)), (taA, .inl (cI, 120, .inl At))] s.heap := hP
  have hl := lv_entry ([.ref x0, .int u1, .int u2, .int u3, .int u4]) (n := 6) (Nat.le_of_ble_eq_true rfl)
  rw [lg_entry_eq]
  generalize (lg_sl ([.ref x0, .int u1, .int u2, .int u3, .int u4]) ++ List.replicate (6 - (lg_sl ([.ref x0, .int u1, .int u2, .int u3, .int u4])).length) Slot.unset).toArray = ls at hl ⊢
  have hl : lv_has ls 6 [(0, .ref x0), (1, .int u1), (2, .int u2), (3, .int u3), (4, .int u4)] := hl
  have hbb := hbad
  refine lv_iload_n hx hb d_TM_add_0 rfl (lv_at hl 1 rfl) ?_
  refine lv_iconst (v := 0) hx hb d_TM_add_1 (by decide) ?_
  refine lv_bipush (v := 15) hx hb d_TM_add_2 (by decide) ?_
  refine xr_S (As := [.int u1, .int 0, .int 15]) (rest := []) ⟨hx, hb, hml, hown, hg⟩ (c_TM_isWithin l D cI cZ cJ u1 0 15) m_TM_isWithin q274 ⟨rfl, rfl⟩ ⟨Nat.le_of_ble_eq_true rfl, Nat.le_of_ble_eq_true rfl⟩ hK hP [] rfl rfl hl.1 rfl (Nat.le_of_ble_eq_true rfl) d_TM_add_4 ⟨Nat.zero_le _, Nat.zero_le _⟩ ?_
  refine lv_if_eq (tgt := 46) hx hb d_TM_add_7 rfl (fun g1 => ?_) (fun g1 => ?_)
  · refine lv_iconst (v := 0) hx hb d_TM_add_46 (by decide) ?_
    refine lv_istore hx hb d_TM_add_47 hl (by decide) rfl (fun ls hl => ?_)
    have hl : lv_has ls 6 [(5, .int 0), (0, .ref x0), (1, .int u1), (2, .int u2), (3, .int u3), (4, .int u4)] := hl
    refine lv_iload hx hb d_TM_add_49 (lv_at hl 0 rfl) ?_
    refine lv_if_ne (tgt := 62) hx hb d_TM_add_51 rfl (fun hz9 => absurd (by decide) hz9) (fun _ => ?_)
    exact xe_new (names := ["java/lang/RuntimeException", "java/lang/Exception"]) hx hb (hL e hadm) hnone hlocks hml hl.1 hown (hg _ q295) (hg _ q11) (by decide) (by decide) (xt_iae hg hT) d_TM_add_54 d_TM_add_57 d_TM_add_58 d_TM_add_61 (Nat.le_of_ble_eq_true rfl) (Nat.le_of_ble_eq_true rfl) (Nat.le_of_ble_eq_true rfl) (Nat.le_of_ble_eq_true rfl)
  · refine lv_iload_n hx hb d_TM_add_10 rfl (lv_at hl 2 rfl) ?_
    refine lv_iconst (v := 0) hx hb d_TM_add_11 (by decide) ?_
    refine lv_bipush (v := 7) hx hb d_TM_add_12 (by decide) ?_
    refine xr_S (As := [.int u2, .int 0, .int 7]) (rest := []) ⟨hx, hb, hml, hown, hg⟩ (c_TM_isWithin l D cI cZ cJ u2 0 7) m_TM_isWithin q274 ⟨rfl, rfl⟩ ⟨Nat.le_of_ble_eq_true rfl, Nat.le_of_ble_eq_true rfl⟩ hK hP [] rfl rfl hl.1 rfl (Nat.le_of_ble_eq_true rfl) d_TM_add_14 ⟨Nat.zero_le _, Nat.zero_le _⟩ ?_
    refine lv_if_eq (tgt := 46) hx hb d_TM_add_17 rfl (fun g2 => ?_) (fun g2 => ?_)
    · refine lv_iconst (v := 0) hx hb d_TM_add_46 (by decide) ?_
      refine lv_istore hx hb d_TM_add_47 hl (by decide) rfl (fun ls hl => ?_)
      have hl : lv_has ls 6 [(5, .int 0), (0, .ref x0), (1, .int u1), (2, .int u2), (3, .int u3), (4, .int u4)] := hl
      refine lv_iload hx hb d_TM_add_49 (lv_at hl 0 rfl) ?_
      refine lv_if_ne (tgt := 62) hx hb d_TM_add_51 rfl (fun hz9 => absurd (by decide) hz9) (fun _ => ?_)
      exact xe_new (names := ["java/lang/RuntimeException", "java/lang/Exception"]) hx hb (hL e hadm) hnone hlocks hml hl.1 hown (hg _ q295) (hg _ q11) (by decide) (by decide) (xt_iae hg hT) d_TM_add_54 d_TM_add_57 d_TM_add_58 d_TM_add_61 (Nat.le_of_ble_eq_true rfl) (Nat.le_of_ble_eq_true rfl) (Nat.le_of_ble_eq_true rfl) (Nat.le_of_ble_eq_true rfl)
    · refine lv_iload_n hx hb d_TM_add_20 rfl (lv_at hl 3 rfl) ?_
      refine lv_iconst (v := 0) hx hb d_TM_add_21 (by decide) ?_
      refine lv_bipush (v := 7) hx hb d_TM_add_22 (by decide) ?_
      refine xr_S (As := [.int u3, .int 0, .int 7]) (rest := []) ⟨hx, hb, hml, hown, hg⟩ (c_TM_isWithin l D cI cZ cJ u3 0 7) m_TM_isWithin q274 ⟨rfl, rfl⟩ ⟨Nat.le_of_ble_eq_true rfl, Nat.le_of_ble_eq_true rfl⟩ hK hP [] rfl rfl hl.1 rfl (Nat.le_of_ble_eq_true rfl) d_TM_add_24 ⟨Nat.zero_le _, Nat.zero_le _⟩ ?_
      refine lv_if_eq (tgt := 46) hx hb d_TM_add_27 rfl (fun g3 => ?_) (fun g3 => ?_)
      · refine lv_iconst (v := 0) hx hb d_TM_add_46 (by decide) ?_
        refine lv_istore hx hb d_TM_add_47 hl (by decide) rfl (fun ls hl => ?_)
        have hl : lv_has ls 6 [(5, .int 0), (0, .ref x0), (1, .int u1), (2, .int u2), (3, .int u3), (4, .int u4)] := hl
        refine lv_iload hx hb d_TM_add_49 (lv_at hl 0 rfl) ?_
        refine lv_if_ne (tgt := 62) hx hb d_TM_add_51 rfl (fun hz9 => absurd (by decide) hz9) (fun _ => ?_)
        exact xe_new (names := ["java/lang/RuntimeException", "java/lang/Exception"]) hx hb (hL e hadm) hnone hlocks hml hl.1 hown (hg _ q295) (hg _ q11) (by decide) (by decide) (xt_iae hg hT) d_TM_add_54 d_TM_add_57 d_TM_add_58 d_TM_add_61 (Nat.le_of_ble_eq_true rfl) (Nat.le_of_ble_eq_true rfl) (Nat.le_of_ble_eq_true rfl) (Nat.le_of_ble_eq_true rfl)
      · refine lv_iload hx hb d_TM_add_30 (lv_at hl 4 rfl) ?_
        refine lv_bipush (v := -128) hx hb d_TM_add_32 (by decide) ?_
        refine lv_bipush (v := 127) hx hb d_TM_add_34 (by decide) ?_
        refine xr_S (As := [.int u4, .int (-128), .int 127]) (rest := []) ⟨hx, hb, hml, hown, hg⟩ (c_TM_isWithin l D cI cZ cJ u4 (-128) 127) m_TM_isWithin q274 ⟨rfl, rfl⟩ ⟨Nat.le_of_ble_eq_true rfl, Nat.le_of_ble_eq_true rfl⟩ hK hP [] rfl rfl hl.1 rfl (Nat.le_of_ble_eq_true rfl) d_TM_add_36 ⟨Nat.zero_le _, Nat.zero_le _⟩ ?_
        refine lv_if_eq (tgt := 46) hx hb d_TM_add_39 rfl (fun g4 => ?_) (fun g4 => ?_)
        · refine lv_iconst (v := 0) hx hb d_TM_add_46 (by decide) ?_
          refine lv_istore hx hb d_TM_add_47 hl (by decide) rfl (fun ls hl => ?_)
          have hl : lv_has ls 6 [(5, .int 0), (0, .ref x0), (1, .int u1), (2, .int u2), (3, .int u3), (4, .int u4)] := hl
          refine lv_iload hx hb d_TM_add_49 (lv_at hl 0 rfl) ?_
          refine lv_if_ne (tgt := 62) hx hb d_TM_add_51 rfl (fun hz9 => absurd (by decide) hz9) (fun _ => ?_)
          exact xe_new (names := ["java/lang/RuntimeException", "java/lang/Exception"]) hx hb (hL e hadm) hnone hlocks hml hl.1 hown (hg _ q295) (hg _ q11) (by decide) (by decide) (xt_iae hg hT) d_TM_add_54 d_TM_add_57 d_TM_add_58 d_TM_add_61 (Nat.le_of_ble_eq_true rfl) (Nat.le_of_ble_eq_true rfl) (Nat.le_of_ble_eq_true rfl) (Nat.le_of_ble_eq_true rfl)
        · exact absurd hbb (by simp [g1, g2, g3, g4])
