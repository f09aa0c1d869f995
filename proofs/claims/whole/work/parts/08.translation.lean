/-! TRANSLATION: contracts (printed by wip/whole/gen/c08.py) -/
/-- Math.floorMod (x, 8), as the JDK has it -/
def tm_fm (x : Int32) : Int32 := if 0 ≤ x ^^^ 8 then x - x / 8 * 8 else if x - x / 8 * 8 = 0 then x - x / 8 * 8 else x - x / 8 * 8 + 8

set_option maxHeartbeats 4000000 in
set_option maxRecDepth 100000 in
theorem c_JM_floorMod (l : Launch) (D : va_G) (cI cZ cJ : ClassId) (x : Int32) : xr_Met l y_JM_floorMod b_JM_floorMod 3 (some .int) { frames := 0, cells := 0, slots := 0, locals := 0 } [.int x, .int 8] (xb D cls [] (tyL cI cZ cJ)) (tm_fm x) := by
  refine xm_ofW (cc := b_JM_floorMod) (maxL := 3) (ret := (some .int)) (by decide +kernel) rfl ?_
  intro p e s m args below meth c s₁ B0 hml hv
  obtain ⟨rfl, hP, hK⟩ := hv
  have hx := B0.exec
  have hb := B0.bytes
  have hr := B0.returns
  have hlocks := B0.notSynchronized
  have hg : ∀ w ∈ gG, w.before _ s = true := fun w h => atoms_spec B0.pre w (List.mem_cons_of_mem _ h)
  have hown : s.vm.findClass R_JM = some m.cls := findClass_of_methodNamed B0.named
  have hP : va_P D cls [] s.heap := hP
  have hl := lv_entry ([.int x, .int 8]) (n := 3) (Nat.le_of_ble_eq_true rfl)
  rw [lg_entry_eq]
  generalize (lg_sl ([.int x, .int 8]) ++ List.replicate (3 - (lg_sl ([.int x, .int 8])).length) Slot.unset).toArray = ls at hl ⊢
  have hl : lv_has ls 3 [(0, .int x), (1, .int 8)] := hl
  refine lv_iload_n hx hb d_JM_floorMod_0 rfl (lv_at hl 0 rfl) ?_
  refine lv_iload_n hx hb d_JM_floorMod_1 rfl (lv_at hl 1 rfl) ?_
  refine lv_irem hx hb d_JM_floorMod_2 (by decide) ?_
  refine lv_istore_n hx hb d_JM_floorMod_3 rfl hl (by decide) rfl (fun ls hl => ?_)
  have hl : lv_has ls 3 [(2, .int (x - x / 8 * 8)), (0, .int x), (1, .int 8)] := hl
  refine lv_iload_n hx hb d_JM_floorMod_4 rfl (lv_at hl 1 rfl) ?_
  refine lv_iload_n hx hb d_JM_floorMod_5 rfl (lv_at hl 2 rfl) ?_
  refine lv_ixor hx hb d_JM_floorMod_6 ?_
  refine lv_if_ge (tgt := 18) hx hb d_JM_floorMod_7 rfl (fun h7 => ?_) (fun h7 => ?_)
  · refine lv_iload_n hx hb d_JM_floorMod_18 rfl (lv_at hl 0 rfl) ?_
    exact W.iret (v := x - x / 8 * 8) hx hb hr (fun t9 ht9 hW9 => ⟨x - x / 8 * 8, rfl, by simp [tm_fm, h7], ht9⟩) (fun _ h => by cases h) d_JM_floorMod_19
  · refine lv_iload_n hx hb d_JM_floorMod_10 rfl (lv_at hl 0 rfl) ?_
    refine lv_if_eq (tgt := 18) hx hb d_JM_floorMod_11 rfl (fun h8 => ?_) (fun h8 => ?_)
    · refine lv_iload_n hx hb d_JM_floorMod_18 rfl (lv_at hl 0 rfl) ?_
      exact W.iret (v := x - x / 8 * 8) hx hb hr (fun t9 ht9 hW9 => ⟨x - x / 8 * 8, rfl, by simp [tm_fm, h7, h8], ht9⟩) (fun _ h => by cases h) d_JM_floorMod_19
    · refine lv_iload_n hx hb d_JM_floorMod_14 rfl (lv_at hl 0 rfl) ?_
      refine lv_iload_n hx hb d_JM_floorMod_15 rfl (lv_at hl 2 rfl) ?_
      refine lv_iadd hx hb d_JM_floorMod_16 ?_
      exact W.iret (v := (x - x / 8 * 8) + 8) hx hb hr (fun t9 ht9 hW9 => ⟨(x - x / 8 * 8) + 8, rfl, by simp [tm_fm, h7, h8], ht9⟩) (fun _ h => by cases h) d_JM_floorMod_17

set_option maxHeartbeats 4000000 in
set_option maxRecDepth 100000 in
theorem c_Tr_isThere (l : Launch) (D : va_G) (cI cZ cJ : ClassId) (t pL pF cL cF bA : Nat) (P F B : Nat → Int32) (n k : Nat) : xr_Met l y_Tr_isThere b_Tr_isThere 1 (some .boolean) { frames := 0, cells := 0, slots := 0, locals := 0 } [.ref t] (xb D cls [(t, .inr (2, [.ref pL, .ref cL, .ref bA])), (pL, .inr (1, [.ref pF, .int (nI n)])), (pF, .inl (cI, 96, .inl P)), (cL, .inr (1, [.ref cF, .int (nI k)])), (cF, .inl (cI, 868, .inl F)), (bA, .inl (cI, 25, .inl B))] (tyL cI cZ cJ)) (if nI k ≤ 0 then 0 else 1) := by
  refine Met.ofW (cc := b_Tr_isThere) (maxL := 1) (ret := (some .boolean)) (by decide) rfl ?_
  intro p e s m args below meth c s₁ B0 hml hv
  obtain ⟨rfl, hP, hK⟩ := hv
  have hx := B0.exec
  have hb := B0.bytes
  have hr := B0.returns
  have hlocks := B0.notSynchronized
  have hg : ∀ w ∈ gG, w.before _ s = true := fun w h => atoms_spec B0.pre w (List.mem_cons_of_mem _ h)
  have hown : s.vm.findClass R_Tr = some m.cls := findClass_of_methodNamed B0.named
  have hP : va_P D cls [(t, .inr (2, [.ref pL, .ref cL, .ref bA])), (pL, .inr (1, [.ref pF, .int (nI n)])), (pF, .inl (cI, 96, .inl P)), (cL, .inr (1, [.ref cF, .int (nI k)])), (cF, .inl (cI, 868, .inl F)), (bA, .inl (cI, 25, .inl B))] s.heap := hP
  have hl := lv_entry ([.ref t]) (n := 1) (Nat.le_of_ble_eq_true rfl)
  rw [lg_entry_eq]
  generalize (lg_sl ([.ref t]) ++ List.replicate (1 - (lg_sl ([.ref t])).length) Slot.unset).toArray = ls at hl ⊢
  have hl : lv_has ls 1 [(0, .ref t)] := hl
  refine lv_aload_n hx hb d_Tr_isThere_0 rfl (lv_at hl 0 rfl) ?_
  refine va_get (D := D) (ci := 2) (v := .ref cL) (C := R_Tr) (T := F_Tr) (N := 3) hx hb hg f_Tr hown hK.1 hP 0 rfl rfl 1 (by decide) (hg _ q53) (fun _ h9 => h9) rfl d_Tr_isThere_1 ?_
  refine va_get (D := D) (ci := 1) (v := .int (nI k)) (C := R_Li) (T := F_Li) (N := 2) hx hb hg f_Li hown hK.1 hP 3 rfl rfl 1 (by decide) (hg _ q33) (fun _ h9 => h9) rfl d_Tr_isThere_4 ?_
  refine lv_if_le (tgt := 14) hx hb d_Tr_isThere_7 rfl (fun h10 => ?_) (fun h10 => ?_)
  · refine lv_iconst (v := 0) hx hb d_Tr_isThere_14 (by decide) ?_
    exact W.zret (v := 0) hx hb hr (rfl) (fun t9 ht9 hW9 => ⟨0, rfl, by simp [h10], ht9⟩) (fun _ h => by cases h) d_Tr_isThere_15
  · refine lv_iconst (v := 1) hx hb d_Tr_isThere_10 (by decide) ?_
    refine lv_goto (tgt := 15) hx hb d_Tr_isThere_11 rfl ?_
    exact W.zret (v := 1) hx hb hr (rfl) (fun t9 ht9 hW9 => ⟨1, rfl, by simp [h10], ht9⟩) (fun _ h => by cases h) d_Tr_isThere_15

set_option maxHeartbeats 4000000 in
set_option maxRecDepth 100000 in
theorem c_Tr_end (l : Launch) (D : va_G) (cI cZ cJ : ClassId) (t pL pF cL cF bA : Nat) (P F B : Nat → Int32) (n k : Nat) (hn : n ≤ 24) : xr_Met l y_Tr_end b_Tr_end 1 (some .int) { frames := 0, cells := 0, slots := 0, locals := 0 } [.ref t] (xb D cls [(t, .inr (2, [.ref pL, .ref cL, .ref bA])), (pL, .inr (1, [.ref pF, .int (nI n)])), (pF, .inl (cI, 96, .inl P)), (cL, .inr (1, [.ref cF, .int (nI k)])), (cF, .inl (cI, 868, .inl F)), (bA, .inl (cI, 25, .inl B))] (tyL cI cZ cJ)) (B n) := by
  refine Met.ofW (cc := b_Tr_end) (maxL := 1) (ret := (some .int)) (by decide) rfl ?_
  intro p e s m args below meth c s₁ B0 hml hv
  obtain ⟨rfl, hP, hK⟩ := hv
  have hx := B0.exec
  have hb := B0.bytes
  have hr := B0.returns
  have hlocks := B0.notSynchronized
  have hg : ∀ w ∈ gG, w.before _ s = true := fun w h => atoms_spec B0.pre w (List.mem_cons_of_mem _ h)
  have hown : s.vm.findClass R_Tr = some m.cls := findClass_of_methodNamed B0.named
  have hP : va_P D cls [(t, .inr (2, [.ref pL, .ref cL, .ref bA])), (pL, .inr (1, [.ref pF, .int (nI n)])), (pF, .inl (cI, 96, .inl P)), (cL, .inr (1, [.ref cF, .int (nI k)])), (cF, .inl (cI, 868, .inl F)), (bA, .inl (cI, 25, .inl B))] s.heap := hP
  have hl := lv_entry ([.ref t]) (n := 1) (Nat.le_of_ble_eq_true rfl)
  rw [lg_entry_eq]
  generalize (lg_sl ([.ref t]) ++ List.replicate (1 - (lg_sl ([.ref t])).length) Slot.unset).toArray = ls at hl ⊢
  have hl : lv_has ls 1 [(0, .ref t)] := hl
  refine lv_aload_n hx hb d_Tr_end_0 rfl (lv_at hl 0 rfl) ?_
  refine va_get (D := D) (ci := 2) (v := .ref bA) (C := R_Tr) (T := F_Tr) (N := 3) hx hb hg f_Tr hown hK.1 hP 0 rfl rfl 2 (by decide) (hg _ q55) (fun _ h9 => h9) rfl d_Tr_end_1 ?_
  refine lv_aload_n hx hb d_Tr_end_4 rfl (lv_at hl 0 rfl) ?_
  refine va_get (D := D) (ci := 2) (v := .ref pL) (C := R_Tr) (T := F_Tr) (N := 3) hx hb hg f_Tr hown hK.1 hP 0 rfl rfl 0 (by decide) (hg _ q50) (fun _ h9 => h9) rfl d_Tr_end_5 ?_
  refine va_get (D := D) (ci := 1) (v := .int (nI n)) (C := R_Li) (T := F_Li) (N := 2) hx hb hg f_Li hown hK.1 hP 1 rfl rfl 1 (by decide) (hg _ q33) (fun _ h9 => h9) rfl d_Tr_end_8 ?_
  refine xa_ld hx hb hK hP 5 0 rfl rfl (kx := n) (rfl) (by omega) (by decide) d_Tr_end_11 ?_
  exact W.iret (v := B n) hx hb hr (fun t9 ht9 hW9 => ⟨B n, rfl, rfl, ht9⟩) (fun _ h => by cases h) d_Tr_end_12

set_option maxHeartbeats 4000000 in
set_option maxRecDepth 100000 in
theorem c_Tr_beginningOf (l : Launch) (D : va_G) (cI cZ cJ : ClassId) (t pL pF cL cF bA : Nat) (P F B : Nat → Int32) (n k : Nat) (q : Nat) (hn : n ≤ 24) (hq : q ≤ n) : xr_Met l y_Tr_beginningOf b_Tr_beginningOf 2 (some .int) { frames := 1, cells := 0, slots := 0, locals := 21 } [.ref t, .int (nI q)] (xb D cls [(t, .inr (2, [.ref pL, .ref cL, .ref bA])), (pL, .inr (1, [.ref pF, .int (nI n)])), (pF, .inl (cI, 96, .inl P)), (cL, .inr (1, [.ref cF, .int (nI k)])), (cF, .inl (cI, 868, .inl F)), (bA, .inl (cI, 25, .inl B))] (tyL cI cZ cJ)) (B q) := by
  refine Met.ofW (cc := b_Tr_beginningOf) (maxL := 2) (ret := (some .int)) (by decide) rfl ?_
  intro p e s m args below meth c s₁ B0 hml hv
  obtain ⟨rfl, hP, hK⟩ := hv
  have hx := B0.exec
  have hb := B0.bytes
  have hr := B0.returns
  have hlocks := B0.notSynchronized
  have hg : ∀ w ∈ gG, w.before _ s = true := fun w h => atoms_spec B0.pre w (List.mem_cons_of_mem _ h)
  have hown : s.vm.findClass R_Tr = some m.cls := findClass_of_methodNamed B0.named
  have hP : va_P D cls [(t, .inr (2, [.ref pL, .ref cL, .ref bA])), (pL, .inr (1, [.ref pF, .int (nI n)])), (pF, .inl (cI, 96, .inl P)), (cL, .inr (1, [.ref cF, .int (nI k)])), (cF, .inl (cI, 868, .inl F)), (bA, .inl (cI, 25, .inl B))] s.heap := hP
  have hl := lv_entry ([.ref t, .int (nI q)]) (n := 2) (Nat.le_of_ble_eq_true rfl)
  rw [lg_entry_eq]
  generalize (lg_sl ([.ref t, .int (nI q)]) ++ List.replicate (2 - (lg_sl ([.ref t, .int (nI q)])).length) Slot.unset).toArray = ls at hl ⊢
  have hl : lv_has ls 2 [(0, .ref t), (1, .int (nI q))] := hl
  refine lv_aload_n hx hb d_Tr_beginningOf_0 rfl (lv_at hl 0 rfl) ?_
  refine va_get (D := D) (ci := 2) (v := .ref pL) (C := R_Tr) (T := F_Tr) (N := 3) hx hb hg f_Tr hown hK.1 hP 0 rfl rfl 0 (by decide) (hg _ q50) (fun _ h9 => h9) rfl d_Tr_beginningOf_1 ?_
  refine lv_iload_n hx hb d_Tr_beginningOf_4 rfl (lv_at hl 1 rfl) ?_
  refine xr_V (C := R_Li) (As := [.int (nI q)]) (rest := []) ⟨hx, hb, hml, hown, hg⟩ (c_Li_hasN l D cI cZ cJ pL pF 96 P n q (by omega) (by omega)) m_Li_has q191 q193 ⟨rfl, rfl⟩ ⟨Nat.le_of_ble_eq_true rfl, Nat.le_of_ble_eq_true rfl⟩ hK hP [1, 2] rfl (va_recv (q0 := 1) hK.1 hP rfl rfl) rfl hl.1 rfl (Nat.le_of_ble_eq_true rfl) d_Tr_beginningOf_5 ⟨Nat.zero_le _, Nat.zero_le _⟩ ?_
  refine lv_if_eq (tgt := 20) hx hb d_Tr_beginningOf_8 rfl (fun hc => ?_) (fun hc => ?_)
  · have hc := xq_n hc
    refine lv_aload_n hx hb d_Tr_beginningOf_20 rfl (lv_at hl 0 rfl) ?_
    refine xr_V (C := R_Tr) (As := []) (rest := []) ⟨hx, hb, hml, hown, hg⟩ (c_Tr_end l D cI cZ cJ t pL pF cL cF bA P F B n k (by omega)) m_Tr_end q243 sp_Tr_end ⟨rfl, rfl⟩ ⟨Nat.le_of_ble_eq_true rfl, Nat.le_of_ble_eq_true rfl⟩ hK hP [0, 1, 2, 3, 4, 5] rfl (va_recv (q0 := 0) hK.1 hP rfl rfl) rfl hl.1 rfl (Nat.le_of_ble_eq_true rfl) d_Tr_beginningOf_21 ⟨Nat.zero_le _, Nat.zero_le _⟩ ?_
    exact W.iret (v := B n) hx hb hr (fun t9 ht9 hW9 => ⟨B n, rfl, (by rw [show q = n by omega]), ht9⟩) (fun _ h => by cases h) d_Tr_beginningOf_24
  · have hc := xq_y hc
    refine lv_aload_n hx hb d_Tr_beginningOf_11 rfl (lv_at hl 0 rfl) ?_
    refine va_get (D := D) (ci := 2) (v := .ref bA) (C := R_Tr) (T := F_Tr) (N := 3) hx hb hg f_Tr hown hK.1 hP 0 rfl rfl 2 (by decide) (hg _ q55) (fun _ h9 => h9) rfl d_Tr_beginningOf_12 ?_
    refine lv_iload_n hx hb d_Tr_beginningOf_15 rfl (lv_at hl 1 rfl) ?_
    refine xa_ld hx hb hK hP 5 0 rfl rfl (kx := q) (rfl) (by omega) (by decide) d_Tr_beginningOf_16 ?_
    refine lv_goto (tgt := 24) hx hb d_Tr_beginningOf_17 rfl ?_
    exact W.iret (v := B q) hx hb hr (fun t9 ht9 hW9 => ⟨B q, rfl, rfl, ht9⟩) (fun _ h => by cases h) d_Tr_beginningOf_24

set_option maxHeartbeats 4000000 in
set_option maxRecDepth 100000 in
theorem c_Tr_leadOf (l : Launch) (D : va_G) (cI cZ cJ : ClassId) (t pL pF cL cF bA : Nat) (P F B : Nat → Int32) (n k : Nat) (q : Nat) (hn : n ≤ 24) (hq : q < n) : xr_Met l y_Tr_leadOf b_Tr_leadOf 3 (some .int) { frames := 2, cells := 0, slots := 0, locals := 43 } [.ref t, .int (nI q)] (xb D cls [(t, .inr (2, [.ref pL, .ref cL, .ref bA])), (pL, .inr (1, [.ref pF, .int (nI n)])), (pF, .inl (cI, 96, .inl P)), (cL, .inr (1, [.ref cF, .int (nI k)])), (cF, .inl (cI, 868, .inl F)), (bA, .inl (cI, 25, .inl B))] (tyL cI cZ cJ)) (tm_ld P q) := by
  refine Met.ofW (cc := b_Tr_leadOf) (maxL := 3) (ret := (some .int)) (by decide) rfl ?_
  intro p e s m args below meth c s₁ B0 hml hv
  obtain ⟨rfl, hP, hK⟩ := hv
  have hx := B0.exec
  have hb := B0.bytes
  have hr := B0.returns
  have hlocks := B0.notSynchronized
  have hg : ∀ w ∈ gG, w.before _ s = true := fun w h => atoms_spec B0.pre w (List.mem_cons_of_mem _ h)
  have hown : s.vm.findClass R_Tr = some m.cls := findClass_of_methodNamed B0.named
  have hP : va_P D cls [(t, .inr (2, [.ref pL, .ref cL, .ref bA])), (pL, .inr (1, [.ref pF, .int (nI n)])), (pF, .inl (cI, 96, .inl P)), (cL, .inr (1, [.ref cF, .int (nI k)])), (cF, .inl (cI, 868, .inl F)), (bA, .inl (cI, 25, .inl B))] s.heap := hP
  have hl := lv_entry ([.ref t, .int (nI q)]) (n := 3) (Nat.le_of_ble_eq_true rfl)
  rw [lg_entry_eq]
  generalize (lg_sl ([.ref t, .int (nI q)]) ++ List.replicate (3 - (lg_sl ([.ref t, .int (nI q)])).length) Slot.unset).toArray = ls at hl ⊢
  have hl : lv_has ls 3 [(0, .ref t), (1, .int (nI q))] := hl
  refine lv_aload_n hx hb d_Tr_leadOf_0 rfl (lv_at hl 0 rfl) ?_
  refine va_get (D := D) (ci := 2) (v := .ref pL) (C := R_Tr) (T := F_Tr) (N := 3) hx hb hg f_Tr hown hK.1 hP 0 rfl rfl 0 (by decide) (hg _ q50) (fun _ h9 => h9) rfl d_Tr_leadOf_1 ?_
  refine lv_iload_n hx hb d_Tr_leadOf_4 rfl (lv_at hl 1 rfl) ?_
  refine xr_V (C := R_Li) (As := [.int (nI q)]) (rest := []) ⟨hx, hb, hml, hown, hg⟩ (c_Li_third l D cI cZ cJ pL pF 96 P (nI n) q (by omega) (by omega)) m_Li_third q199 q201 ⟨rfl, rfl⟩ ⟨Nat.le_of_ble_eq_true rfl, Nat.le_of_ble_eq_true rfl⟩ hK hP [1, 2] rfl (va_recv (q0 := 1) hK.1 hP rfl rfl) rfl hl.1 rfl (Nat.le_of_ble_eq_true rfl) d_Tr_leadOf_5 ⟨Nat.zero_le _, Nat.zero_le _⟩ ?_
  refine lv_istore_n hx hb d_Tr_leadOf_8 rfl hl (by decide) rfl (fun ls hl => ?_)
  have hl : lv_has ls 3 [(2, .int (P (4 * q + 3))), (0, .ref t), (1, .int (nI q))] := hl
  refine lv_aload_n hx hb d_Tr_leadOf_9 rfl (lv_at hl 1 rfl) ?_
  refine va_get (D := D) (ci := 2) (v := .ref pL) (C := R_Tr) (T := F_Tr) (N := 3) hx hb hg f_Tr hown hK.1 hP 0 rfl rfl 0 (by decide) (hg _ q50) (fun _ h9 => h9) rfl d_Tr_leadOf_10 ?_
  refine lv_iload_n hx hb d_Tr_leadOf_13 rfl (lv_at hl 2 rfl) ?_
  refine xr_V (C := R_Li) (As := [.int (nI q)]) (rest := []) ⟨hx, hb, hml, hown, hg⟩ (c_Li_operation l D cI cZ cJ pL pF 96 P (nI n) q (by omega) (by omega)) m_Li_operation q179 q181 ⟨rfl, rfl⟩ ⟨Nat.le_of_ble_eq_true rfl, Nat.le_of_ble_eq_true rfl⟩ hK hP [1, 2] rfl (va_recv (q0 := 1) hK.1 hP rfl rfl) rfl hl.1 rfl (Nat.le_of_ble_eq_true rfl) d_Tr_leadOf_14 ⟨Nat.zero_le _, Nat.zero_le _⟩ ?_
  refine lv_bipush (v := 10) hx hb d_Tr_leadOf_17 (by decide) ?_
  refine lv_icmp_gt (tgt := 30) hx hb d_Tr_leadOf_19 rfl (fun h12 => ?_) (fun h12 => ?_)
  · refine lv_iload_n hx hb d_Tr_leadOf_30 rfl (lv_at hl 0 rfl) ?_
    exact W.iret (v := P (4 * q + 3)) hx hb hr (fun t9 ht9 hW9 => ⟨P (4 * q + 3), rfl, by simp [tm_ld, h12], ht9⟩) (fun _ h => by cases h) d_Tr_leadOf_31
  · refine lv_iload_n hx hb d_Tr_leadOf_22 rfl (lv_at hl 2 rfl) ?_
    refine lv_iconst (v := 1) hx hb d_Tr_leadOf_23 (by decide) ?_
    refine lv_iadd hx hb d_Tr_leadOf_24 ?_
    have eq9 : ((nI q) + 1 : Int32) = nI (q + 1) := nI_add q 1
    refine W.eq (g2 := F0 m 25 ls [.int (nI (q + 1))]) (by rw [eq9]) ?_
    refine lv_iload_n hx hb d_Tr_leadOf_25 rfl (lv_at hl 0 rfl) ?_
    refine lv_iadd hx hb d_Tr_leadOf_26 ?_
    refine lv_goto (tgt := 31) hx hb d_Tr_leadOf_27 rfl ?_
    exact W.iret (v := (nI (q + 1)) + (P (4 * q + 3))) hx hb hr (fun t9 ht9 hW9 => ⟨(nI (q + 1)) + (P (4 * q + 3)), rfl, by simp [tm_ld, h12], ht9⟩) (fun _ h => by cases h) d_Tr_leadOf_31

set_option maxHeartbeats 4000000 in
set_option maxRecDepth 100000 in
theorem c_Tr_canBeSlot (l : Launch) (D : va_G) (cI cZ cJ : ClassId) (t pL pF cL cF bA : Nat) (P F B : Nat → Int32) (n k : Nat) (q : Nat) (hn : n ≤ 24) (hq : q ≤ 24) : xr_Met l y_Tr_canBeSlot b_Tr_canBeSlot 4 (some .boolean) { frames := 2, cells := 0, slots := 0, locals := 43 } [.ref t, .int (nI q)] (xb D cls [(t, .inr (2, [.ref pL, .ref cL, .ref bA])), (pL, .inr (1, [.ref pF, .int (nI n)])), (pF, .inl (cI, 96, .inl P)), (cL, .inr (1, [.ref cF, .int (nI k)])), (cF, .inl (cI, 868, .inl F)), (bA, .inl (cI, 25, .inl B))] (tyL cI cZ cJ)) (tm_cb P n q) := by
  refine Met.ofW (cc := b_Tr_canBeSlot) (maxL := 4) (ret := (some .boolean)) (by decide) rfl ?_
  intro p e s m args below meth c s₁ B0 hml hv
  obtain ⟨rfl, hP, hK⟩ := hv
  have hx := B0.exec
  have hb := B0.bytes
  have hr := B0.returns
  have hlocks := B0.notSynchronized
  have hg : ∀ w ∈ gG, w.before _ s = true := fun w h => atoms_spec B0.pre w (List.mem_cons_of_mem _ h)
  have hown : s.vm.findClass R_Tr = some m.cls := findClass_of_methodNamed B0.named
  have hP : va_P D cls [(t, .inr (2, [.ref pL, .ref cL, .ref bA])), (pL, .inr (1, [.ref pF, .int (nI n)])), (pF, .inl (cI, 96, .inl P)), (cL, .inr (1, [.ref cF, .int (nI k)])), (cF, .inl (cI, 868, .inl F)), (bA, .inl (cI, 25, .inl B))] s.heap := hP
  have hl := lv_entry ([.ref t, .int (nI q)]) (n := 4) (Nat.le_of_ble_eq_true rfl)
  rw [lg_entry_eq]
  generalize (lg_sl ([.ref t, .int (nI q)]) ++ List.replicate (4 - (lg_sl ([.ref t, .int (nI q)])).length) Slot.unset).toArray = ls at hl ⊢
  have hl : lv_has ls 4 [(0, .ref t), (1, .int (nI q))] := hl
  refine lv_aload_n hx hb d_Tr_canBeSlot_0 rfl (lv_at hl 0 rfl) ?_
  refine va_get (D := D) (ci := 2) (v := .ref pL) (C := R_Tr) (T := F_Tr) (N := 3) hx hb hg f_Tr hown hK.1 hP 0 rfl rfl 0 (by decide) (hg _ q50) (fun _ h9 => h9) rfl d_Tr_canBeSlot_1 ?_
  refine lv_iload_n hx hb d_Tr_canBeSlot_4 rfl (lv_at hl 1 rfl) ?_
  refine xr_V (C := R_Li) (As := [.int (nI q)]) (rest := []) ⟨hx, hb, hml, hown, hg⟩ (c_Li_hasN l D cI cZ cJ pL pF 96 P n q (by omega) (by omega)) m_Li_has q191 q193 ⟨rfl, rfl⟩ ⟨Nat.le_of_ble_eq_true rfl, Nat.le_of_ble_eq_true rfl⟩ hK hP [1, 2] rfl (va_recv (q0 := 1) hK.1 hP rfl rfl) rfl hl.1 rfl (Nat.le_of_ble_eq_true rfl) d_Tr_canBeSlot_5 ⟨Nat.zero_le _, Nat.zero_le _⟩ ?_
  refine lv_if_ne (tgt := 13) hx hb d_Tr_canBeSlot_8 rfl (fun hc => ?_) (fun hc => ?_)
  · have hc := xq_y hc
    refine lv_aload_n hx hb d_Tr_canBeSlot_13 rfl (lv_at hl 0 rfl) ?_
    refine va_get (D := D) (ci := 2) (v := .ref pL) (C := R_Tr) (T := F_Tr) (N := 3) hx hb hg f_Tr hown hK.1 hP 0 rfl rfl 0 (by decide) (hg _ q50) (fun _ h9 => h9) rfl d_Tr_canBeSlot_14 ?_
    refine lv_iload_n hx hb d_Tr_canBeSlot_17 rfl (lv_at hl 1 rfl) ?_
    refine xr_V (C := R_Li) (As := [.int (nI q)]) (rest := []) ⟨hx, hb, hml, hown, hg⟩ (c_Li_operation l D cI cZ cJ pL pF 96 P (nI n) q (by omega) (by omega)) m_Li_operation q179 q181 ⟨rfl, rfl⟩ ⟨Nat.le_of_ble_eq_true rfl, Nat.le_of_ble_eq_true rfl⟩ hK hP [1, 2] rfl (va_recv (q0 := 1) hK.1 hP rfl rfl) rfl hl.1 rfl (Nat.le_of_ble_eq_true rfl) d_Tr_canBeSlot_18 ⟨Nat.zero_le _, Nat.zero_le _⟩ ?_
    refine lv_istore_n hx hb d_Tr_canBeSlot_21 rfl hl (by decide) rfl (fun ls hl => ?_)
    have hl : lv_has ls 4 [(2, .int (P (4 * q))), (0, .ref t), (1, .int (nI q))] := hl
    refine lv_iload_n hx hb d_Tr_canBeSlot_22 rfl (lv_at hl 0 rfl) ?_
    refine lv_bipush (v := 9) hx hb d_Tr_canBeSlot_23 (by decide) ?_
    refine lv_icmp_lt (tgt := 38) hx hb d_Tr_canBeSlot_25 rfl (fun h18 => ?_) (fun h18 => ?_)
    · refine lv_iconst (v := 0) hx hb d_Tr_canBeSlot_38 (by decide) ?_
      refine lv_istore_n hx hb d_Tr_canBeSlot_39 rfl hl (by decide) rfl (fun ls hl => ?_)
      have hl : lv_has ls 4 [(3, .int 0), (2, .int (P (4 * q))), (0, .ref t), (1, .int (nI q))] := hl
      refine lv_iload_n hx hb d_Tr_canBeSlot_40 rfl (lv_at hl 1 rfl) ?_
      refine lv_if_eq (tgt := 52) hx hb d_Tr_canBeSlot_41 rfl (fun h19 => ?_) (fun h19 => ?_)
      · refine lv_iconst (v := 0) hx hb d_Tr_canBeSlot_52 (by decide) ?_
        exact W.zret (v := 0) hx hb hr (rfl) (fun t9 ht9 hW9 => ⟨0, rfl, by simp [tm_cb, hc, h18, h19], ht9⟩) (fun _ h => by cases h) d_Tr_canBeSlot_53
      · refine lv_iload_n hx hb d_Tr_canBeSlot_44 rfl (lv_at hl 0 rfl) ?_
        refine lv_if_ne (tgt := 52) hx hb d_Tr_canBeSlot_45 rfl (fun hz9 => absurd (by decide) hz9) (fun _ => ?_)
        refine lv_iconst (v := 1) hx hb d_Tr_canBeSlot_48 (by decide) ?_
        refine lv_goto (tgt := 53) hx hb d_Tr_canBeSlot_49 rfl ?_
        exact W.zret (v := 1) hx hb hr (rfl) (fun t9 ht9 hW9 => ⟨1, rfl, by simp [tm_cb, hc, h18, h19], ht9⟩) (fun _ h => by cases h) d_Tr_canBeSlot_53
    · refine lv_iload_n hx hb d_Tr_canBeSlot_28 rfl (lv_at hl 0 rfl) ?_
      refine lv_bipush (v := 13) hx hb d_Tr_canBeSlot_29 (by decide) ?_
      refine lv_icmp_gt (tgt := 38) hx hb d_Tr_canBeSlot_31 rfl (fun h20 => ?_) (fun h20 => ?_)
      · refine lv_iconst (v := 0) hx hb d_Tr_canBeSlot_38 (by decide) ?_
        refine lv_istore_n hx hb d_Tr_canBeSlot_39 rfl hl (by decide) rfl (fun ls hl => ?_)
        have hl : lv_has ls 4 [(3, .int 0), (2, .int (P (4 * q))), (0, .ref t), (1, .int (nI q))] := hl
        refine lv_iload_n hx hb d_Tr_canBeSlot_40 rfl (lv_at hl 1 rfl) ?_
        refine lv_if_eq (tgt := 52) hx hb d_Tr_canBeSlot_41 rfl (fun h21 => ?_) (fun h21 => ?_)
        · refine lv_iconst (v := 0) hx hb d_Tr_canBeSlot_52 (by decide) ?_
          exact W.zret (v := 0) hx hb hr (rfl) (fun t9 ht9 hW9 => ⟨0, rfl, by simp [tm_cb, hc, h18, h20, h21], ht9⟩) (fun _ h => by cases h) d_Tr_canBeSlot_53
        · refine lv_iload_n hx hb d_Tr_canBeSlot_44 rfl (lv_at hl 0 rfl) ?_
          refine lv_if_ne (tgt := 52) hx hb d_Tr_canBeSlot_45 rfl (fun hz9 => absurd (by decide) hz9) (fun _ => ?_)
          refine lv_iconst (v := 1) hx hb d_Tr_canBeSlot_48 (by decide) ?_
          refine lv_goto (tgt := 53) hx hb d_Tr_canBeSlot_49 rfl ?_
          exact W.zret (v := 1) hx hb hr (rfl) (fun t9 ht9 hW9 => ⟨1, rfl, by simp [tm_cb, hc, h18, h20, h21], ht9⟩) (fun _ h => by cases h) d_Tr_canBeSlot_53
      · refine lv_iconst (v := 1) hx hb d_Tr_canBeSlot_34 (by decide) ?_
        refine lv_goto (tgt := 39) hx hb d_Tr_canBeSlot_35 rfl ?_
        refine lv_istore_n hx hb d_Tr_canBeSlot_39 rfl hl (by decide) rfl (fun ls hl => ?_)
        have hl : lv_has ls 4 [(3, .int 1), (2, .int (P (4 * q))), (0, .ref t), (1, .int (nI q))] := hl
        refine lv_iload_n hx hb d_Tr_canBeSlot_40 rfl (lv_at hl 1 rfl) ?_
        refine lv_if_eq (tgt := 52) hx hb d_Tr_canBeSlot_41 rfl (fun h22 => ?_) (fun h22 => ?_)
        · refine lv_iconst (v := 0) hx hb d_Tr_canBeSlot_52 (by decide) ?_
          exact W.zret (v := 0) hx hb hr (rfl) (fun t9 ht9 hW9 => ⟨0, rfl, by simp [tm_cb, hc, h18, h20, h22], ht9⟩) (fun _ h => by cases h) d_Tr_canBeSlot_53
        · refine lv_iload_n hx hb d_Tr_canBeSlot_44 rfl (lv_at hl 0 rfl) ?_
          refine lv_if_ne (tgt := 52) hx hb d_Tr_canBeSlot_45 rfl (fun _ => ?_) (fun hz9 => absurd hz9 (by decide))
          refine lv_iconst (v := 0) hx hb d_Tr_canBeSlot_52 (by decide) ?_
          exact W.zret (v := 0) hx hb hr (rfl) (fun t9 ht9 hW9 => ⟨0, rfl, by simp [tm_cb, hc, h18, h20, h22], ht9⟩) (fun _ h => by cases h) d_Tr_canBeSlot_53
  · have hc := xq_n hc
    refine lv_iconst (v := 0) hx hb d_Tr_canBeSlot_11 (by decide) ?_
    exact W.zret (v := 0) hx hb hr (rfl) (fun t9 ht9 hW9 => ⟨0, rfl, by simp [tm_cb, hc], ht9⟩) (fun _ h => by cases h) d_Tr_canBeSlot_12

set_option maxHeartbeats 4000000 in
set_option maxRecDepth 100000 in
theorem c_Tr_reasonAgainst (l : Launch) (D : va_G) (cI cZ cJ : ClassId) (t pL pF cL cF bA : Nat) (P F B : Nat → Int32) (n k : Nat) (q : Nat) (hn : n ≤ 24) (hq : q < n) : xr_Met l y_Tr_reasonAgainst b_Tr_reasonAgainst 3 (some .int) { frames := 3, cells := 0, slots := 0, locals := 66 } [.ref t, .int (nI q)] (xb D cls [(t, .inr (2, [.ref pL, .ref cL, .ref bA])), (pL, .inr (1, [.ref pF, .int (nI n)])), (pF, .inl (cI, 96, .inl P)), (cL, .inr (1, [.ref cF, .int (nI k)])), (cF, .inl (cI, 868, .inl F)), (bA, .inl (cI, 25, .inl B))] (tyL cI cZ cJ)) (tm_re P n q) := by
  refine Met.ofW (cc := b_Tr_reasonAgainst) (maxL := 3) (ret := (some .int)) (by decide) rfl ?_
  intro p e s m args below meth c s₁ B0 hml hv
  obtain ⟨rfl, hP, hK⟩ := hv
  have hx := B0.exec
  have hb := B0.bytes
  have hr := B0.returns
  have hlocks := B0.notSynchronized
  have hg : ∀ w ∈ gG, w.before _ s = true := fun w h => atoms_spec B0.pre w (List.mem_cons_of_mem _ h)
  have hown : s.vm.findClass R_Tr = some m.cls := findClass_of_methodNamed B0.named
  have hP : va_P D cls [(t, .inr (2, [.ref pL, .ref cL, .ref bA])), (pL, .inr (1, [.ref pF, .int (nI n)])), (pF, .inl (cI, 96, .inl P)), (cL, .inr (1, [.ref cF, .int (nI k)])), (cF, .inl (cI, 868, .inl F)), (bA, .inl (cI, 25, .inl B))] s.heap := hP
  have hl := lv_entry ([.ref t, .int (nI q)]) (n := 3) (Nat.le_of_ble_eq_true rfl)
  rw [lg_entry_eq]
  generalize (lg_sl ([.ref t, .int (nI q)]) ++ List.replicate (3 - (lg_sl ([.ref t, .int (nI q)])).length) Slot.unset).toArray = ls at hl ⊢
  have hl : lv_has ls 3 [(0, .ref t), (1, .int (nI q))] := hl
  refine lv_aload_n hx hb d_Tr_reasonAgainst_0 rfl (lv_at hl 0 rfl) ?_
  refine va_get (D := D) (ci := 2) (v := .ref pL) (C := R_Tr) (T := F_Tr) (N := 3) hx hb hg f_Tr hown hK.1 hP 0 rfl rfl 0 (by decide) (hg _ q50) (fun _ h9 => h9) rfl d_Tr_reasonAgainst_1 ?_
  refine lv_iload_n hx hb d_Tr_reasonAgainst_4 rfl (lv_at hl 1 rfl) ?_
  refine xr_V (C := R_Li) (As := [.int (nI q)]) (rest := []) ⟨hx, hb, hml, hown, hg⟩ (c_Li_operation l D cI cZ cJ pL pF 96 P (nI n) q (by omega) (by omega)) m_Li_operation q179 q181 ⟨rfl, rfl⟩ ⟨Nat.le_of_ble_eq_true rfl, Nat.le_of_ble_eq_true rfl⟩ hK hP [1, 2] rfl (va_recv (q0 := 1) hK.1 hP rfl rfl) rfl hl.1 rfl (Nat.le_of_ble_eq_true rfl) d_Tr_reasonAgainst_5 ⟨Nat.zero_le _, Nat.zero_le _⟩ ?_
  refine lv_istore_n hx hb d_Tr_reasonAgainst_8 rfl hl (by decide) rfl (fun ls hl => ?_)
  have hl : lv_has ls 3 [(2, .int (P (4 * q))), (0, .ref t), (1, .int (nI q))] := hl
  refine lv_iload_n hx hb d_Tr_reasonAgainst_9 rfl (lv_at hl 0 rfl) ?_
  refine lv_bipush (v := 13) hx hb d_Tr_reasonAgainst_10 (by decide) ?_
  refine lv_icmp_le (tgt := 17) hx hb d_Tr_reasonAgainst_12 rfl (fun h28 => ?_) (fun h28 => ?_)
  · refine lv_iload_n hx hb d_Tr_reasonAgainst_17 rfl (lv_at hl 0 rfl) ?_
    refine lv_bipush (v := 9) hx hb d_Tr_reasonAgainst_18 (by decide) ?_
    refine lv_icmp_ge (tgt := 25) hx hb d_Tr_reasonAgainst_20 rfl (fun h29 => ?_) (fun h29 => ?_)
    · refine lv_aload_n hx hb d_Tr_reasonAgainst_25 rfl (lv_at hl 1 rfl) ?_
      refine lv_iload_n hx hb d_Tr_reasonAgainst_26 rfl (lv_at hl 2 rfl) ?_
      refine lv_iconst (v := 1) hx hb d_Tr_reasonAgainst_27 (by decide) ?_
      refine lv_iadd hx hb d_Tr_reasonAgainst_28 ?_
      have eq9 : ((nI q) + 1 : Int32) = nI (q + 1) := nI_add q 1
      refine W.eq (g2 := F0 m 29 ls [.int (nI (q + 1)), .ref t]) (by rw [eq9]) ?_
      refine xr_V (C := R_Tr) (As := [.int (nI (q + 1))]) (rest := []) ⟨hx, hb, hml, hown, hg⟩ (c_Tr_canBeSlot l D cI cZ cJ t pL pF cL cF bA P F B n k (q + 1) (by omega) (by omega)) m_Tr_canBeSlot q187 sp_Tr_canBeSlot ⟨rfl, rfl⟩ ⟨Nat.le_of_ble_eq_true rfl, Nat.le_of_ble_eq_true rfl⟩ hK hP [0, 1, 2, 3, 4, 5] rfl (va_recv (q0 := 0) hK.1 hP rfl rfl) rfl hl.1 rfl (Nat.le_of_ble_eq_true rfl) d_Tr_reasonAgainst_29 ⟨Nat.zero_le _, Nat.zero_le _⟩ ?_
      refine lv_if_ne (tgt := 37) hx hb d_Tr_reasonAgainst_32 rfl (fun h30 => ?_) (fun h30 => ?_)
      · refine lv_iload_n hx hb d_Tr_reasonAgainst_37 rfl (lv_at hl 0 rfl) ?_
        refine lv_bipush (v := 13) hx hb d_Tr_reasonAgainst_38 (by decide) ?_
        refine lv_icmp_eq (tgt := 60) hx hb d_Tr_reasonAgainst_40 rfl (fun h31 => ?_) (fun h31 => ?_)
        · refine lv_iconst (v := 0) hx hb d_Tr_reasonAgainst_60 (by decide) ?_
          exact W.iret (v := 0) hx hb hr (fun t9 ht9 hW9 => ⟨0, rfl, by simp [tm_re, h28, h29, h30, h31], ht9⟩) (fun _ h => by cases h) d_Tr_reasonAgainst_61
        · refine lv_aload_n hx hb d_Tr_reasonAgainst_43 rfl (lv_at hl 1 rfl) ?_
          refine va_get (D := D) (ci := 2) (v := .ref pL) (C := R_Tr) (T := F_Tr) (N := 3) hx hb hg f_Tr hown hK.1 hP 0 rfl rfl 0 (by decide) (hg _ q50) (fun _ h9 => h9) rfl d_Tr_reasonAgainst_44 ?_
          refine lv_aload_n hx hb d_Tr_reasonAgainst_47 rfl (lv_at hl 1 rfl) ?_
          refine lv_iload_n hx hb d_Tr_reasonAgainst_48 rfl (lv_at hl 2 rfl) ?_
          refine xr_V (C := R_Tr) (As := [.int (nI q)]) (rest := [.ref pL]) ⟨hx, hb, hml, hown, hg⟩ (c_Tr_leadOf l D cI cZ cJ t pL pF cL cF bA P F B n k q (by omega) (by omega)) m_Tr_leadOf q195 sp_Tr_leadOf ⟨rfl, rfl⟩ ⟨Nat.le_of_ble_eq_true rfl, Nat.le_of_ble_eq_true rfl⟩ hK hP [0, 1, 2, 3, 4, 5] rfl (va_recv (q0 := 0) hK.1 hP rfl rfl) rfl hl.1 rfl (Nat.le_of_ble_eq_true rfl) d_Tr_reasonAgainst_49 ⟨Nat.zero_le _, Nat.zero_le _⟩ ?_
          refine xr_V (C := R_Li) (As := [.int (tm_ld P q)]) (rest := []) ⟨hx, hb, hml, hown, hg⟩ (c_Li_has l D cI cZ cJ pL pF 96 P n (tm_ld P q)) m_Li_has q191 q193 ⟨rfl, rfl⟩ ⟨Nat.le_of_ble_eq_true rfl, Nat.le_of_ble_eq_true rfl⟩ hK hP [1, 2] rfl (va_recv (q0 := 1) hK.1 hP rfl rfl) rfl hl.1 rfl (Nat.le_of_ble_eq_true rfl) d_Tr_reasonAgainst_52 ⟨Nat.zero_le _, Nat.zero_le _⟩ ?_
          refine lv_if_ne (tgt := 60) hx hb d_Tr_reasonAgainst_55 rfl (fun h32 => ?_) (fun h32 => ?_)
          · refine lv_iconst (v := 0) hx hb d_Tr_reasonAgainst_60 (by decide) ?_
            exact W.iret (v := 0) hx hb hr (fun t9 ht9 hW9 => ⟨0, rfl, by simp [tm_re, h28, h29, h30, h31, h32], ht9⟩) (fun _ h => by cases h) d_Tr_reasonAgainst_61
          · refine lv_iconst (v := 3) hx hb d_Tr_reasonAgainst_58 (by decide) ?_
            exact W.iret (v := 3) hx hb hr (fun t9 ht9 hW9 => ⟨3, rfl, by simp [tm_re, h28, h29, h30, h31, h32], ht9⟩) (fun _ h => by cases h) d_Tr_reasonAgainst_59
      · refine lv_iconst (v := 2) hx hb d_Tr_reasonAgainst_35 (by decide) ?_
        exact W.iret (v := 2) hx hb hr (fun t9 ht9 hW9 => ⟨2, rfl, by simp [tm_re, h28, h29, h30], ht9⟩) (fun _ h => by cases h) d_Tr_reasonAgainst_36
    · refine lv_iconst (v := 0) hx hb d_Tr_reasonAgainst_23 (by decide) ?_
      exact W.iret (v := 0) hx hb hr (fun t9 ht9 hW9 => ⟨0, rfl, by simp [tm_re, h28, h29], ht9⟩) (fun _ h => by cases h) d_Tr_reasonAgainst_24
  · refine lv_iconst (v := 1) hx hb d_Tr_reasonAgainst_15 (by decide) ?_
    exact W.iret (v := 1) hx hb hr (fun t9 ht9 hW9 => ⟨1, rfl, by simp [tm_re, h28], ht9⟩) (fun _ h => by cases h) d_Tr_reasonAgainst_16

set_option maxHeartbeats 4000000 in
set_option maxRecDepth 100000 in
theorem c_Tr_refusal (l : Launch) (D : va_G) (cI cZ cJ : ClassId) (t pL pF cL cF bA : Nat) (P F B : Nat → Int32) (n k : Nat) (hn : n ≤ 24) : xr_Met l y_Tr_refusal b_Tr_refusal 3 (some .int) { frames := 4, cells := 0, slots := 0, locals := 88 } [.ref t] (xb D cls [(t, .inr (2, [.ref pL, .ref cL, .ref bA])), (pL, .inr (1, [.ref pF, .int (nI n)])), (pF, .inl (cI, 96, .inl P)), (cL, .inr (1, [.ref cF, .int (nI k)])), (cF, .inl (cI, 868, .inl F)), (bA, .inl (cI, 25, .inl B))] (tyL cI cZ cJ)) (tm_ref P n) := by
  refine Met.ofW (cc := b_Tr_refusal) (maxL := 3) (ret := (some .int)) (by decide) rfl ?_
  intro p e s m args below meth c s₁ B0 hml hv
  obtain ⟨rfl, hP, hK⟩ := hv
  have hx := B0.exec
  have hb := B0.bytes
  have hr := B0.returns
  have hlocks := B0.notSynchronized
  have hg : ∀ w ∈ gG, w.before _ s = true := fun w h => atoms_spec B0.pre w (List.mem_cons_of_mem _ h)
  have hown : s.vm.findClass R_Tr = some m.cls := findClass_of_methodNamed B0.named
  have hP : va_P D cls [(t, .inr (2, [.ref pL, .ref cL, .ref bA])), (pL, .inr (1, [.ref pF, .int (nI n)])), (pF, .inl (cI, 96, .inl P)), (cL, .inr (1, [.ref cF, .int (nI k)])), (cF, .inl (cI, 868, .inl F)), (bA, .inl (cI, 25, .inl B))] s.heap := hP
  have hl := lv_entry ([.ref t]) (n := 3) (Nat.le_of_ble_eq_true rfl)
  rw [lg_entry_eq]
  generalize (lg_sl ([.ref t]) ++ List.replicate (3 - (lg_sl ([.ref t])).length) Slot.unset).toArray = ls at hl ⊢
  have hl : lv_has ls 3 [(0, .ref t)] := hl
  refine lv_iconst (v := 0) hx hb d_Tr_refusal_0 (by decide) ?_
  refine lv_istore_n hx hb d_Tr_refusal_1 rfl hl (by decide) rfl (fun ls hl => ?_)
  have hl : lv_has ls 3 [(1, .int 0), (0, .ref t)] := hl
  have loop : ∀ (g j : Nat), j + g = n → tm_ref P n = tm_rfl P n g j → ∀ ls : Array Slot, lv_has ls 3 [(1, .int (nI j)), (0, .ref t)] → W p l e (headSpec (Cond.code y_Tr_refusal b_Tr_refusal 3 (some .int) :: gG) { frames := 4, cells := 0, slots := 0, locals := 88 }).room s m ([.ref t] : List Value).toArray below meth c s.heap [] 0 0 (MQ below (vp_Si (fun z => z = (tm_ref P n))) ([.ref t] : List Value).toArray s 0 0 (fun _ => False)) (F0 m 2 ls []) := by
    intro g
    induction g with
    | zero =>
      intro j hj hres ls hl
      refine lv_iload_n hx hb d_Tr_refusal_2 rfl (lv_at hl 0 rfl) ?_
      refine lv_aload_n hx hb d_Tr_refusal_3 rfl (lv_at hl 1 rfl) ?_
      refine va_get (D := D) (ci := 2) (v := .ref pL) (C := R_Tr) (T := F_Tr) (N := 3) hx hb hg f_Tr hown hK.1 hP 0 rfl rfl 0 (by decide) (hg _ q50) (fun _ h9 => h9) rfl d_Tr_refusal_4 ?_
      refine va_get (D := D) (ci := 1) (v := .int (nI n)) (C := R_Li) (T := F_Li) (N := 2) hx hb hg f_Li hown hK.1 hP 1 rfl rfl 1 (by decide) (hg _ q33) (fun _ h9 => h9) rfl d_Tr_refusal_7 ?_
      refine lv_icmp_ge (tgt := 36) hx hb d_Tr_refusal_10 rfl (fun _ => ?_) (fun hz9 => absurd (nI_le (by omega) (by omega)) hz9)
      refine lv_iconst (v := 0) hx hb d_Tr_refusal_36 (by decide) ?_
      exact W.iret (v := 0) hx hb hr (fun t9 ht9 hW9 => ⟨0, rfl, by rw [hres]; rfl, ht9⟩) (fun _ h => by cases h) d_Tr_refusal_37
    | succ g ih =>
      intro j hj hres ls hl
      refine lv_iload_n hx hb d_Tr_refusal_2 rfl (lv_at hl 0 rfl) ?_
      refine lv_aload_n hx hb d_Tr_refusal_3 rfl (lv_at hl 1 rfl) ?_
      refine va_get (D := D) (ci := 2) (v := .ref pL) (C := R_Tr) (T := F_Tr) (N := 3) hx hb hg f_Tr hown hK.1 hP 0 rfl rfl 0 (by decide) (hg _ q50) (fun _ h9 => h9) rfl d_Tr_refusal_4 ?_
      refine va_get (D := D) (ci := 1) (v := .int (nI n)) (C := R_Li) (T := F_Li) (N := 2) hx hb hg f_Li hown hK.1 hP 1 rfl rfl 1 (by decide) (hg _ q33) (fun _ h9 => h9) rfl d_Tr_refusal_7 ?_
      refine lv_icmp_ge (tgt := 36) hx hb d_Tr_refusal_10 rfl (fun hz9 => absurd hz9 (nI_ge (by omega) (by omega))) (fun _ => ?_)
      refine lv_aload_n hx hb d_Tr_refusal_13 rfl (lv_at hl 1 rfl) ?_
      refine lv_iload_n hx hb d_Tr_refusal_14 rfl (lv_at hl 0 rfl) ?_
      refine xr_V (C := R_Tr) (As := [.int (nI j)]) (rest := []) ⟨hx, hb, hml, hown, hg⟩ (c_Tr_reasonAgainst l D cI cZ cJ t pL pF cL cF bA P F B n k j (by omega) (by omega)) m_Tr_reasonAgainst q175 sp_Tr_reasonAgainst ⟨rfl, rfl⟩ ⟨Nat.le_of_ble_eq_true rfl, Nat.le_of_ble_eq_true rfl⟩ hK hP [0, 1, 2, 3, 4, 5] rfl (va_recv (q0 := 0) hK.1 hP rfl rfl) rfl hl.1 rfl (Nat.le_of_ble_eq_true rfl) d_Tr_refusal_15 ⟨Nat.zero_le _, Nat.zero_le _⟩ ?_
      refine lv_istore_n hx hb d_Tr_refusal_18 rfl hl (by decide) rfl (fun ls hl => ?_)
      have hl : lv_has ls 3 [(2, .int (tm_re P n j)), (1, .int (nI j)), (0, .ref t)] := hl
      refine lv_iload_n hx hb d_Tr_refusal_19 rfl (lv_at hl 0 rfl) ?_
      refine lv_if_eq (tgt := 30) hx hb d_Tr_refusal_20 rfl (fun h34 => ?_) (fun h34 => ?_)
      · refine lv_iinc (k := 1) (v := nI (j + 1)) hx hb d_Tr_refusal_30 hl rfl (xn_inc j 1 (by decide)) (by decide) rfl (fun ls hl => ?_)
        have hl : lv_has ls 3 [(1, .int (nI (j + 1))), (2, .int (tm_re P n j)), (0, .ref t)] := hl
        refine lv_goto (tgt := 2) hx hb d_Tr_refusal_33 rfl ?_
        exact ih (j + 1) (by omega) (by rw [hres]; simp [tm_rfl, h34]) ls (lv_sub hl [0, 2] rfl)
      · refine lv_iload_n hx hb d_Tr_refusal_23 rfl (lv_at hl 0 rfl) ?_
        refine lv_bipush (v := 16) hx hb d_Tr_refusal_24 (by decide) ?_
        refine lv_iload_n hx hb d_Tr_refusal_26 rfl (lv_at hl 1 rfl) ?_
        refine lv_imul hx hb d_Tr_refusal_27 ?_
        have eq9 : (16 * (nI j) : Int32) = nI (16 * j) := pk_mul 16 j
        refine W.eq (g2 := F0 m 28 ls [.int (nI (16 * j)), .int (tm_re P n j)]) (by rw [eq9]) ?_
        refine lv_iadd hx hb d_Tr_refusal_28 ?_
        exact W.iret (v := (tm_re P n j) + (nI (16 * j))) hx hb hr (fun t9 ht9 hW9 => ⟨(tm_re P n j) + (nI (16 * j)), rfl, by rw [hres]; simp [tm_rfl, h34], ht9⟩) (fun _ h => by cases h) d_Tr_refusal_29
  exact loop n 0 (by omega) rfl ls hl

set_option maxHeartbeats 4000000 in
set_option maxRecDepth 100000 in
theorem c_Tr_readInto (l : Launch) (D : va_G) (cI cZ cJ : ClassId) (t pL pF cL cF bA : Nat) (P F B : Nat → Int32) (n k : Nat) (an : Nat) (u r : Int32) (hk : k + 1 ≤ 217) : xi_Met l y_Tr_readInto b_Tr_readInto 3 (some .int) { frames := 1, cells := 0, slots := 0, locals := 25 } [.ref t, .int u, .int r] D cls (tyL cI cZ cJ) [(t, .inr (2, [.ref pL, .ref cL, .ref bA])), (pL, .inr (1, [.ref pF, .int (nI n)])), (pF, .inl (cI, 96, .inl P)), (cL, .inr (1, [.ref cF, .int (nI k)])), (cF, .inl (cI, 868, .inl F)), (bA, .inl (cI, 25, .inl B))] [(t, .inr (2, [.ref pL, .ref cL, .ref bA])), (pL, .inr (1, [.ref pF, .int (nI n)])), (pF, .inl (cI, 96, .inl P)), (cL, .inr (1, [.ref cF, .int (nI (k + (tm_rd an u r).length))])), (cF, .inl (cI, 868, .inl (tm_pa (tm_rs B) F k (tm_rd an u r)))), (bA, .inl (cI, 25, .inl B))] (tm_rg u r) := by
  intro sz
  refine Met.ofW (cc := b_Tr_readInto) (maxL := 3) (ret := (some .int)) (by decide) rfl ?_
  intro p e s m args below meth c s₁ B0 hml hv
  obtain ⟨rfl, hsz, hP, hK, hD0⟩ := hv
  have hx := B0.exec
  have hb := B0.bytes
  have hr := B0.returns
  have hlocks := B0.notSynchronized
  have hg : ∀ w ∈ gG, w.before _ s = true := fun w h => atoms_spec B0.pre w (List.mem_cons_of_mem _ h)
  have hown : s.vm.findClass R_Tr = some m.cls := findClass_of_methodNamed B0.named
  subst hsz
  have hD := hD0.self (sz := s.heap.size)
  generalize hAe : va_A [(t, .inr (2, [.ref pL, .ref cL, .ref bA])), (pL, .inr (1, [.ref pF, .int (nI n)])), (pF, .inl (cI, 96, .inl P)), (cL, .inr (1, [.ref cF, .int (nI k)])), (cF, .inl (cI, 868, .inl F)), (bA, .inl (cI, 25, .inl B))] s.heap.size = A at hD ⊢
  have hA : ∀ q : Nat, s.heap.size ≤ q → A q := fun q h => by rw [← hAe]; exact Or.inr h
  have hS : va_S A s.heap s.heap [] := va_S.rf
  have hP : va_P D cls [(t, .inr (2, [.ref pL, .ref cL, .ref bA])), (pL, .inr (1, [.ref pF, .int (nI n)])), (pF, .inl (cI, 96, .inl P)), (cL, .inr (1, [.ref cF, .int (nI k)])), (cF, .inl (cI, 868, .inl F)), (bA, .inl (cI, 25, .inl B))] s.heap := hP
  have hl := lv_entry ([.ref t, .int u, .int r]) (n := 3) (Nat.le_of_ble_eq_true rfl)
  rw [lg_entry_eq]
  generalize (lg_sl ([.ref t, .int u, .int r]) ++ List.replicate (3 - (lg_sl ([.ref t, .int u, .int r])).length) Slot.unset).toArray = ls at hl ⊢
  have hl : lv_has ls 3 [(0, .ref t), (1, .int u), (2, .int r)] := hl
  refine lv_iload_n hx hb d_Tr_readInto_0 rfl (lv_at hl 2 rfl) ?_
  refine lv_iconst (v := 4) hx hb d_Tr_readInto_1 (by decide) ?_
  refine lv_icmp_ge (tgt := 7) hx hb d_Tr_readInto_2 rfl (fun h36 => ?_) (fun h36 => ?_)
  · refine lv_aload_n hx hb d_Tr_readInto_7 rfl (lv_at hl 0 rfl) ?_
    refine va_get (D := D) (ci := 2) (v := .ref cL) (C := R_Tr) (T := F_Tr) (N := 3) hx hb hg f_Tr hown hK.1 hP 0 rfl rfl 1 (by decide) (hg _ q53) (fun _ h9 => h9) rfl d_Tr_readInto_8 ?_
    refine lv_bipush (v := 7) hx hb d_Tr_readInto_11 (by decide) ?_
    refine lv_iload_n hx hb d_Tr_readInto_13 rfl (lv_at hl 1 rfl) ?_
    refine lv_iconst (v := 0) hx hb d_Tr_readInto_14 (by decide) ?_
    refine lv_bipush (v := 32) hx hb d_Tr_readInto_15 (by decide) ?_
    refine lv_iload_n hx hb d_Tr_readInto_17 rfl (lv_at hl 2 rfl) ?_
    refine lv_iadd hx hb d_Tr_readInto_18 ?_
    refine xw_go (w2 := [(t, .inr (2, [.ref pL, .ref cL, .ref bA])), (pL, .inr (1, [.ref pF, .int (nI n)])), (pF, .inl (cI, 96, .inl P)), (cL, .inr (1, [.ref cF, .int (nI (k + 1))])), (cF, .inl (cI, 868, .inl (tm_w4 F k 7 u 0 (32 + r)))), (bA, .inl (cI, 25, .inl B))]) (wr := [(t, .inr (2, [.ref pL, .ref cL, .ref bA])), (pL, .inr (1, [.ref pF, .int (nI n)])), (pF, .inl (cI, 96, .inl P)), (bA, .inl (cI, 25, .inl B))]) (w1 := [(cL, .inr (1, [.ref cF, .int (nI (k + 1))])), (cF, .inl (cI, 868, .inl (tm_w4 F k 7 u 0 (32 + r))))]) (va_runV (As := [.int 7, .int u, .int 0, .int (32 + r)]) (rest := []) (C := R_Li) ⟨hx, hb, hml, hown, hg⟩ (c_Li_append l D cI cZ cJ cL cF 868 F k 7 u 0 (32 + r) (by omega) (by omega) s.heap.size) ⟨xg_B hg m_Li_append.1 m_Li_append.2.2.1 m_Li_append.2.2.2.1 m_Li_append.2.2.2.2 q212 rfl rfl ⟨Nat.le_of_ble_eq_true rfl, Nat.le_of_ble_eq_true rfl⟩, hg _ m_Li_append.2.1, hg _ q214⟩ ⟨xw_blind, (va_recv (q0 := 3) hK.1 hP rfl rfl), xw_pre hK hP hD [3, 4] (by decide) rfl⟩ rfl rfl hl.1 rfl (lv_room (Nat.le_of_ble_eq_true rfl)) d_Tr_readInto_19 ⟨Nat.zero_le _, Nat.zero_le _⟩) hP hD hS hA [3, 4] [0, 1, 2, 5] [0, 1, 2, 4, 5, 3] rfl rfl (by decide) (by decide) rfl (by decide) (fun H locs hP hD hS => ?_)
    refine lv_iload_n hx hb d_Tr_readInto_22 rfl (lv_at hl 1 rfl) ?_
    have ew1 : nI (k + 1) = nI (k + (tm_rd an u r).length) := congrArg nI (by first | (simp [tm_rd, tm_rg, tm_pa, tm_pa_app, tm_rs, h36]; done) | (simp [tm_rd, tm_rg, tm_pa, tm_pa_app, tm_rs, h36]; omega) | omega)
    have ew2 : tm_w4 F k 7 u 0 (32 + r) = tm_pa (tm_rs B) F k (tm_rd an u r) := by first | rfl | simp [tm_rd, tm_rg, tm_pa, tm_pa_app, tm_rs, h36]
    have hP : va_P D cls [(t, .inr (2, [.ref pL, .ref cL, .ref bA])), (pL, .inr (1, [.ref pF, .int (nI n)])), (pF, .inl (cI, 96, .inl P)), (cL, .inr (1, [.ref cF, .int (nI (k + (tm_rd an u r).length))])), (cF, .inl (cI, 868, .inl (tm_pa (tm_rs B) F k (tm_rd an u r)))), (bA, .inl (cI, 25, .inl B))] H := by rw [← ew1, ← ew2]; exact hP
    have hD : va_D A [(t, .inr (2, [.ref pL, .ref cL, .ref bA])), (pL, .inr (1, [.ref pF, .int (nI n)])), (pF, .inl (cI, 96, .inl P)), (cL, .inr (1, [.ref cF, .int (nI (k + (tm_rd an u r).length))])), (cF, .inl (cI, 868, .inl (tm_pa (tm_rs B) F k (tm_rd an u r)))), (bA, .inl (cI, 25, .inl B))] := by rw [← ew1, ← ew2]; exact hD
    exact W.iret (v := u) hx hb hr (fun t9 ht9 hW9 => ⟨⟨u, (), rfl, by simp [tm_rd, tm_rg, tm_pa, tm_pa_app, tm_rs, h36], by rw [ht9]; exact hP, hD⟩, hS.F ht9⟩) hS.2.2 d_Tr_readInto_23
  · refine lv_iload_n hx hb d_Tr_readInto_5 rfl (lv_at hl 2 rfl) ?_
    have ew1 : nI k = nI (k + (tm_rd an u r).length) := congrArg nI (by first | (simp [tm_rd, tm_rg, tm_pa, tm_pa_app, tm_rs, h36]; done) | (simp [tm_rd, tm_rg, tm_pa, tm_pa_app, tm_rs, h36]; omega) | omega)
    have ew2 : F = tm_pa (tm_rs B) F k (tm_rd an u r) := by first | rfl | simp [tm_rd, tm_rg, tm_pa, tm_pa_app, tm_rs, h36]
    have hP : va_P D cls [(t, .inr (2, [.ref pL, .ref cL, .ref bA])), (pL, .inr (1, [.ref pF, .int (nI n)])), (pF, .inl (cI, 96, .inl P)), (cL, .inr (1, [.ref cF, .int (nI (k + (tm_rd an u r).length))])), (cF, .inl (cI, 868, .inl (tm_pa (tm_rs B) F k (tm_rd an u r)))), (bA, .inl (cI, 25, .inl B))] s.heap := by rw [← ew1, ← ew2]; exact hP
    have hD : va_D A [(t, .inr (2, [.ref pL, .ref cL, .ref bA])), (pL, .inr (1, [.ref pF, .int (nI n)])), (pF, .inl (cI, 96, .inl P)), (cL, .inr (1, [.ref cF, .int (nI (k + (tm_rd an u r).length))])), (cF, .inl (cI, 868, .inl (tm_pa (tm_rs B) F k (tm_rd an u r)))), (bA, .inl (cI, 25, .inl B))] := by rw [← ew1, ← ew2]; exact hD
    exact W.iret (v := r) hx hb hr (fun t9 ht9 hW9 => ⟨⟨r, (), rfl, by simp [tm_rd, tm_rg, tm_pa, tm_pa_app, tm_rs, h36], by rw [ht9]; exact hP, hD⟩, hS.F ht9⟩) hS.2.2 d_Tr_readInto_6

set_option maxHeartbeats 4000000 in
set_option maxRecDepth 100000 in
theorem c_Tr_writeInto (l : Launch) (D : va_G) (cI cZ cJ : ClassId) (t pL pF cL cF bA : Nat) (P F B : Nat → Int32) (n k : Nat) (an : Nat) (r u v z : Int32) (hk : k + 2 ≤ 217) : xw_Met l y_Tr_writeInto b_Tr_writeInto 6 none { frames := 1, cells := 0, slots := 0, locals := 25 } [.ref t, .int r, .int u, .int v, .int z] D cls (tyL cI cZ cJ) [(t, .inr (2, [.ref pL, .ref cL, .ref bA])), (pL, .inr (1, [.ref pF, .int (nI n)])), (pF, .inl (cI, 96, .inl P)), (cL, .inr (1, [.ref cF, .int (nI k)])), (cF, .inl (cI, 868, .inl F)), (bA, .inl (cI, 25, .inl B))] [(t, .inr (2, [.ref pL, .ref cL, .ref bA])), (pL, .inr (1, [.ref pF, .int (nI n)])), (pF, .inl (cI, 96, .inl P)), (cL, .inr (1, [.ref cF, .int (nI (k + (tm_wt an u r v z).length))])), (cF, .inl (cI, 868, .inl (tm_pa (tm_rs B) F k (tm_wt an u r v z)))), (bA, .inl (cI, 25, .inl B))] := by
  intro sz
  refine Met.ofW (cc := b_Tr_writeInto) (maxL := 6) (ret := none) (by decide) rfl ?_
  intro p e s m args below meth c s₁ B0 hml hv
  obtain ⟨rfl, hsz, hP, hK, hD0⟩ := hv
  have hx := B0.exec
  have hb := B0.bytes
  have hr := B0.returns
  have hlocks := B0.notSynchronized
  have hg : ∀ w ∈ gG, w.before _ s = true := fun w h => atoms_spec B0.pre w (List.mem_cons_of_mem _ h)
  have hown : s.vm.findClass R_Tr = some m.cls := findClass_of_methodNamed B0.named
  subst hsz
  have hD := hD0.self (sz := s.heap.size)
  generalize hAe : va_A [(t, .inr (2, [.ref pL, .ref cL, .ref bA])), (pL, .inr (1, [.ref pF, .int (nI n)])), (pF, .inl (cI, 96, .inl P)), (cL, .inr (1, [.ref cF, .int (nI k)])), (cF, .inl (cI, 868, .inl F)), (bA, .inl (cI, 25, .inl B))] s.heap.size = A at hD ⊢
  have hA : ∀ q : Nat, s.heap.size ≤ q → A q := fun q h => by rw [← hAe]; exact Or.inr h
  have hS : va_S A s.heap s.heap [] := va_S.rf
  have hP : va_P D cls [(t, .inr (2, [.ref pL, .ref cL, .ref bA])), (pL, .inr (1, [.ref pF, .int (nI n)])), (pF, .inl (cI, 96, .inl P)), (cL, .inr (1, [.ref cF, .int (nI k)])), (cF, .inl (cI, 868, .inl F)), (bA, .inl (cI, 25, .inl B))] s.heap := hP
  have hl := lv_entry ([.ref t, .int r, .int u, .int v, .int z]) (n := 6) (Nat.le_of_ble_eq_true rfl)
  rw [lg_entry_eq]
  generalize (lg_sl ([.ref t, .int r, .int u, .int v, .int z]) ++ List.replicate (6 - (lg_sl ([.ref t, .int r, .int u, .int v, .int z])).length) Slot.unset).toArray = ls at hl ⊢
  have hl : lv_has ls 6 [(0, .ref t), (1, .int r), (2, .int u), (3, .int v), (4, .int z)] := hl
  refine lv_iload_n hx hb d_Tr_writeInto_0 rfl (lv_at hl 1 rfl) ?_
  refine lv_if_le (tgt := 13) hx hb d_Tr_writeInto_1 rfl (fun h42 => ?_) (fun h42 => ?_)
  · refine lv_iconst (v := 0) hx hb d_Tr_writeInto_13 (by decide) ?_
    refine lv_istore hx hb d_Tr_writeInto_14 hl (by decide) rfl (fun ls hl => ?_)
    have hl : lv_has ls 6 [(5, .int 0), (0, .ref t), (1, .int r), (2, .int u), (3, .int v), (4, .int z)] := hl
    refine lv_aload_n hx hb d_Tr_writeInto_16 rfl (lv_at hl 1 rfl) ?_
    refine va_get (D := D) (ci := 2) (v := .ref cL) (C := R_Tr) (T := F_Tr) (N := 3) hx hb hg f_Tr hown hK.1 hP 0 rfl rfl 1 (by decide) (hg _ q53) (fun _ h9 => h9) rfl d_Tr_writeInto_17 ?_
    refine lv_iload_n hx hb d_Tr_writeInto_20 rfl (lv_at hl 3 rfl) ?_
    refine lv_iload hx hb d_Tr_writeInto_21 (lv_at hl 0 rfl) ?_
    refine lv_if_eq (tgt := 30) hx hb d_Tr_writeInto_23 rfl (fun _ => ?_) (fun hz9 => absurd (by decide) hz9)
    refine lv_iconst (v := 4) hx hb d_Tr_writeInto_30 (by decide) ?_
    refine lv_iload_n hx hb d_Tr_writeInto_31 rfl (lv_at hl 4 rfl) ?_
    refine lv_iload hx hb d_Tr_writeInto_32 (lv_at hl 5 rfl) ?_
    refine xw_go (w2 := [(t, .inr (2, [.ref pL, .ref cL, .ref bA])), (pL, .inr (1, [.ref pF, .int (nI n)])), (pF, .inl (cI, 96, .inl P)), (cL, .inr (1, [.ref cF, .int (nI (k + 1))])), (cF, .inl (cI, 868, .inl (tm_w4 F k u 4 v z))), (bA, .inl (cI, 25, .inl B))]) (wr := [(t, .inr (2, [.ref pL, .ref cL, .ref bA])), (pL, .inr (1, [.ref pF, .int (nI n)])), (pF, .inl (cI, 96, .inl P)), (bA, .inl (cI, 25, .inl B))]) (w1 := [(cL, .inr (1, [.ref cF, .int (nI (k + 1))])), (cF, .inl (cI, 868, .inl (tm_w4 F k u 4 v z)))]) (va_runV (As := [.int u, .int 4, .int v, .int z]) (rest := []) (C := R_Li) ⟨hx, hb, hml, hown, hg⟩ (c_Li_append l D cI cZ cJ cL cF 868 F k u 4 v z (by omega) (by omega) s.heap.size) ⟨xg_B hg m_Li_append.1 m_Li_append.2.2.1 m_Li_append.2.2.2.1 m_Li_append.2.2.2.2 q212 rfl rfl ⟨Nat.le_of_ble_eq_true rfl, Nat.le_of_ble_eq_true rfl⟩, hg _ m_Li_append.2.1, hg _ q214⟩ ⟨xw_blind, (va_recv (q0 := 3) hK.1 hP rfl rfl), xw_pre hK hP hD [3, 4] (by decide) rfl⟩ rfl rfl hl.1 rfl (lv_room (Nat.le_of_ble_eq_true rfl)) d_Tr_writeInto_34 ⟨Nat.zero_le _, Nat.zero_le _⟩) hP hD hS hA [3, 4] [0, 1, 2, 5] [0, 1, 2, 4, 5, 3] rfl rfl (by decide) (by decide) rfl (by decide) (fun H locs hP hD hS => ?_)
    refine lv_iload_n hx hb d_Tr_writeInto_37 rfl (lv_at hl 2 rfl) ?_
    refine lv_iconst (v := 4) hx hb d_Tr_writeInto_38 (by decide) ?_
    refine lv_icmp_lt (tgt := 57) hx hb d_Tr_writeInto_39 rfl (fun h43 => ?_) (fun h43 => ?_)
    · have ew1 : nI (k + 1) = nI (k + (tm_wt an u r v z).length) := congrArg nI (by first | (simp [tm_wt, tm_pa, tm_pa_app, tm_rs, h42, h43]; done) | (simp [tm_wt, tm_pa, tm_pa_app, tm_rs, h42, h43]; omega) | omega)
      have ew2 : tm_w4 F k u 4 v z = tm_pa (tm_rs B) F k (tm_wt an u r v z) := by first | rfl | simp [tm_wt, tm_pa, tm_pa_app, tm_rs, h42, h43]
      have hP : va_P D cls [(t, .inr (2, [.ref pL, .ref cL, .ref bA])), (pL, .inr (1, [.ref pF, .int (nI n)])), (pF, .inl (cI, 96, .inl P)), (cL, .inr (1, [.ref cF, .int (nI (k + (tm_wt an u r v z).length))])), (cF, .inl (cI, 868, .inl (tm_pa (tm_rs B) F k (tm_wt an u r v z)))), (bA, .inl (cI, 25, .inl B))] H := by rw [← ew1, ← ew2]; exact hP
      have hD : va_D A [(t, .inr (2, [.ref pL, .ref cL, .ref bA])), (pL, .inr (1, [.ref pF, .int (nI n)])), (pF, .inl (cI, 96, .inl P)), (cL, .inr (1, [.ref cF, .int (nI (k + (tm_wt an u r v z).length))])), (cF, .inl (cI, 868, .inl (tm_pa (tm_rs B) F k (tm_wt an u r v z)))), (bA, .inl (cI, 25, .inl B))] := by rw [← ew1, ← ew2]; exact hD
      exact W.vret hx hb hr (fun t9 ht9 hW9 => ⟨⟨(), rfl, trivial, by rw [ht9]; exact hP, hD⟩, hS.F ht9⟩) hS.2.2 d_Tr_writeInto_57
    · refine lv_aload_n hx hb d_Tr_writeInto_42 rfl (lv_at hl 1 rfl) ?_
      refine va_get (D := D) (ci := 2) (v := .ref cL) (C := R_Tr) (T := F_Tr) (N := 3) hx hb hg f_Tr hown hK.1 hP 0 rfl rfl 1 (by decide) (hg _ q53) (fun _ h9 => h9) rfl d_Tr_writeInto_43 ?_
      refine lv_bipush (v := 8) hx hb d_Tr_writeInto_46 (by decide) ?_
      refine lv_iconst (v := 4) hx hb d_Tr_writeInto_48 (by decide) ?_
      refine lv_iconst (v := 0) hx hb d_Tr_writeInto_49 (by decide) ?_
      refine lv_bipush (v := 32) hx hb d_Tr_writeInto_50 (by decide) ?_
      refine lv_iload_n hx hb d_Tr_writeInto_52 rfl (lv_at hl 2 rfl) ?_
      refine lv_iadd hx hb d_Tr_writeInto_53 ?_
      refine xw_go (w2 := [(t, .inr (2, [.ref pL, .ref cL, .ref bA])), (pL, .inr (1, [.ref pF, .int (nI n)])), (pF, .inl (cI, 96, .inl P)), (cL, .inr (1, [.ref cF, .int (nI ((k + 1) + 1))])), (cF, .inl (cI, 868, .inl (tm_w4 (tm_w4 F k u 4 v z) (k + 1) 8 4 0 (32 + r)))), (bA, .inl (cI, 25, .inl B))]) (wr := [(t, .inr (2, [.ref pL, .ref cL, .ref bA])), (pL, .inr (1, [.ref pF, .int (nI n)])), (pF, .inl (cI, 96, .inl P)), (bA, .inl (cI, 25, .inl B))]) (w1 := [(cL, .inr (1, [.ref cF, .int (nI ((k + 1) + 1))])), (cF, .inl (cI, 868, .inl (tm_w4 (tm_w4 F k u 4 v z) (k + 1) 8 4 0 (32 + r))))]) (va_runV (As := [.int 8, .int 4, .int 0, .int (32 + r)]) (rest := []) (C := R_Li) ⟨hx, hb, hml, hown, hg⟩ (c_Li_append l D cI cZ cJ cL cF 868 (tm_w4 F k u 4 v z) (k + 1) 8 4 0 (32 + r) (by omega) (by omega) H.size) ⟨xg_B hg m_Li_append.1 m_Li_append.2.2.1 m_Li_append.2.2.2.1 m_Li_append.2.2.2.2 q212 rfl rfl ⟨Nat.le_of_ble_eq_true rfl, Nat.le_of_ble_eq_true rfl⟩, hg _ m_Li_append.2.1, hg _ q214⟩ ⟨xw_blind, (va_recv (q0 := 3) hK.1 hP rfl rfl), xw_pre hK hP hD [3, 4] (by decide) rfl⟩ rfl rfl hl.1 rfl (lv_room (Nat.le_of_ble_eq_true rfl)) d_Tr_writeInto_54 ⟨Nat.zero_le _, Nat.zero_le _⟩) hP hD hS hA [3, 4] [0, 1, 2, 5] [0, 1, 2, 4, 5, 3] rfl rfl (by decide) (by decide) rfl (by decide) (fun H locs hP hD hS => ?_)
      have ew1 : nI ((k + 1) + 1) = nI (k + (tm_wt an u r v z).length) := congrArg nI (by first | (simp [tm_wt, tm_pa, tm_pa_app, tm_rs, h42, h43]; done) | (simp [tm_wt, tm_pa, tm_pa_app, tm_rs, h42, h43]; omega) | omega)
      have ew2 : tm_w4 (tm_w4 F k u 4 v z) (k + 1) 8 4 0 (32 + r) = tm_pa (tm_rs B) F k (tm_wt an u r v z) := by first | rfl | simp [tm_wt, tm_pa, tm_pa_app, tm_rs, h42, h43]
      have hP : va_P D cls [(t, .inr (2, [.ref pL, .ref cL, .ref bA])), (pL, .inr (1, [.ref pF, .int (nI n)])), (pF, .inl (cI, 96, .inl P)), (cL, .inr (1, [.ref cF, .int (nI (k + (tm_wt an u r v z).length))])), (cF, .inl (cI, 868, .inl (tm_pa (tm_rs B) F k (tm_wt an u r v z)))), (bA, .inl (cI, 25, .inl B))] H := by rw [← ew1, ← ew2]; exact hP
      have hD : va_D A [(t, .inr (2, [.ref pL, .ref cL, .ref bA])), (pL, .inr (1, [.ref pF, .int (nI n)])), (pF, .inl (cI, 96, .inl P)), (cL, .inr (1, [.ref cF, .int (nI (k + (tm_wt an u r v z).length))])), (cF, .inl (cI, 868, .inl (tm_pa (tm_rs B) F k (tm_wt an u r v z)))), (bA, .inl (cI, 25, .inl B))] := by rw [← ew1, ← ew2]; exact hD
      exact W.vret hx hb hr (fun t9 ht9 hW9 => ⟨⟨(), rfl, trivial, by rw [ht9]; exact hP, hD⟩, hS.F ht9⟩) hS.2.2 d_Tr_writeInto_57
  · refine lv_iload_n hx hb d_Tr_writeInto_4 rfl (lv_at hl 1 rfl) ?_
    refine lv_iconst (v := 4) hx hb d_Tr_writeInto_5 (by decide) ?_
    refine lv_icmp_ge (tgt := 13) hx hb d_Tr_writeInto_6 rfl (fun h44 => ?_) (fun h44 => ?_)
    · refine lv_iconst (v := 0) hx hb d_Tr_writeInto_13 (by decide) ?_
      refine lv_istore hx hb d_Tr_writeInto_14 hl (by decide) rfl (fun ls hl => ?_)
      have hl : lv_has ls 6 [(5, .int 0), (0, .ref t), (1, .int r), (2, .int u), (3, .int v), (4, .int z)] := hl
      refine lv_aload_n hx hb d_Tr_writeInto_16 rfl (lv_at hl 1 rfl) ?_
      refine va_get (D := D) (ci := 2) (v := .ref cL) (C := R_Tr) (T := F_Tr) (N := 3) hx hb hg f_Tr hown hK.1 hP 0 rfl rfl 1 (by decide) (hg _ q53) (fun _ h9 => h9) rfl d_Tr_writeInto_17 ?_
      refine lv_iload_n hx hb d_Tr_writeInto_20 rfl (lv_at hl 3 rfl) ?_
      refine lv_iload hx hb d_Tr_writeInto_21 (lv_at hl 0 rfl) ?_
      refine lv_if_eq (tgt := 30) hx hb d_Tr_writeInto_23 rfl (fun _ => ?_) (fun hz9 => absurd (by decide) hz9)
      refine lv_iconst (v := 4) hx hb d_Tr_writeInto_30 (by decide) ?_
      refine lv_iload_n hx hb d_Tr_writeInto_31 rfl (lv_at hl 4 rfl) ?_
      refine lv_iload hx hb d_Tr_writeInto_32 (lv_at hl 5 rfl) ?_
      refine xw_go (w2 := [(t, .inr (2, [.ref pL, .ref cL, .ref bA])), (pL, .inr (1, [.ref pF, .int (nI n)])), (pF, .inl (cI, 96, .inl P)), (cL, .inr (1, [.ref cF, .int (nI (k + 1))])), (cF, .inl (cI, 868, .inl (tm_w4 F k u 4 v z))), (bA, .inl (cI, 25, .inl B))]) (wr := [(t, .inr (2, [.ref pL, .ref cL, .ref bA])), (pL, .inr (1, [.ref pF, .int (nI n)])), (pF, .inl (cI, 96, .inl P)), (bA, .inl (cI, 25, .inl B))]) (w1 := [(cL, .inr (1, [.ref cF, .int (nI (k + 1))])), (cF, .inl (cI, 868, .inl (tm_w4 F k u 4 v z)))]) (va_runV (As := [.int u, .int 4, .int v, .int z]) (rest := []) (C := R_Li) ⟨hx, hb, hml, hown, hg⟩ (c_Li_append l D cI cZ cJ cL cF 868 F k u 4 v z (by omega) (by omega) s.heap.size) ⟨xg_B hg m_Li_append.1 m_Li_append.2.2.1 m_Li_append.2.2.2.1 m_Li_append.2.2.2.2 q212 rfl rfl ⟨Nat.le_of_ble_eq_true rfl, Nat.le_of_ble_eq_true rfl⟩, hg _ m_Li_append.2.1, hg _ q214⟩ ⟨xw_blind, (va_recv (q0 := 3) hK.1 hP rfl rfl), xw_pre hK hP hD [3, 4] (by decide) rfl⟩ rfl rfl hl.1 rfl (lv_room (Nat.le_of_ble_eq_true rfl)) d_Tr_writeInto_34 ⟨Nat.zero_le _, Nat.zero_le _⟩) hP hD hS hA [3, 4] [0, 1, 2, 5] [0, 1, 2, 4, 5, 3] rfl rfl (by decide) (by decide) rfl (by decide) (fun H locs hP hD hS => ?_)
      refine lv_iload_n hx hb d_Tr_writeInto_37 rfl (lv_at hl 2 rfl) ?_
      refine lv_iconst (v := 4) hx hb d_Tr_writeInto_38 (by decide) ?_
      refine lv_icmp_lt (tgt := 57) hx hb d_Tr_writeInto_39 rfl (fun h45 => ?_) (fun h45 => ?_)
      · have ew1 : nI (k + 1) = nI (k + (tm_wt an u r v z).length) := congrArg nI (by first | (simp [tm_wt, tm_pa, tm_pa_app, tm_rs, h42, h44, h45]; done) | (simp [tm_wt, tm_pa, tm_pa_app, tm_rs, h42, h44, h45]; omega) | omega)
        have ew2 : tm_w4 F k u 4 v z = tm_pa (tm_rs B) F k (tm_wt an u r v z) := by first | rfl | simp [tm_wt, tm_pa, tm_pa_app, tm_rs, h42, h44, h45]
        have hP : va_P D cls [(t, .inr (2, [.ref pL, .ref cL, .ref bA])), (pL, .inr (1, [.ref pF, .int (nI n)])), (pF, .inl (cI, 96, .inl P)), (cL, .inr (1, [.ref cF, .int (nI (k + (tm_wt an u r v z).length))])), (cF, .inl (cI, 868, .inl (tm_pa (tm_rs B) F k (tm_wt an u r v z)))), (bA, .inl (cI, 25, .inl B))] H := by rw [← ew1, ← ew2]; exact hP
        have hD : va_D A [(t, .inr (2, [.ref pL, .ref cL, .ref bA])), (pL, .inr (1, [.ref pF, .int (nI n)])), (pF, .inl (cI, 96, .inl P)), (cL, .inr (1, [.ref cF, .int (nI (k + (tm_wt an u r v z).length))])), (cF, .inl (cI, 868, .inl (tm_pa (tm_rs B) F k (tm_wt an u r v z)))), (bA, .inl (cI, 25, .inl B))] := by rw [← ew1, ← ew2]; exact hD
        exact W.vret hx hb hr (fun t9 ht9 hW9 => ⟨⟨(), rfl, trivial, by rw [ht9]; exact hP, hD⟩, hS.F ht9⟩) hS.2.2 d_Tr_writeInto_57
      · refine lv_aload_n hx hb d_Tr_writeInto_42 rfl (lv_at hl 1 rfl) ?_
        refine va_get (D := D) (ci := 2) (v := .ref cL) (C := R_Tr) (T := F_Tr) (N := 3) hx hb hg f_Tr hown hK.1 hP 0 rfl rfl 1 (by decide) (hg _ q53) (fun _ h9 => h9) rfl d_Tr_writeInto_43 ?_
        refine lv_bipush (v := 8) hx hb d_Tr_writeInto_46 (by decide) ?_
        refine lv_iconst (v := 4) hx hb d_Tr_writeInto_48 (by decide) ?_
        refine lv_iconst (v := 0) hx hb d_Tr_writeInto_49 (by decide) ?_
        refine lv_bipush (v := 32) hx hb d_Tr_writeInto_50 (by decide) ?_
        refine lv_iload_n hx hb d_Tr_writeInto_52 rfl (lv_at hl 2 rfl) ?_
        refine lv_iadd hx hb d_Tr_writeInto_53 ?_
        refine xw_go (w2 := [(t, .inr (2, [.ref pL, .ref cL, .ref bA])), (pL, .inr (1, [.ref pF, .int (nI n)])), (pF, .inl (cI, 96, .inl P)), (cL, .inr (1, [.ref cF, .int (nI ((k + 1) + 1))])), (cF, .inl (cI, 868, .inl (tm_w4 (tm_w4 F k u 4 v z) (k + 1) 8 4 0 (32 + r)))), (bA, .inl (cI, 25, .inl B))]) (wr := [(t, .inr (2, [.ref pL, .ref cL, .ref bA])), (pL, .inr (1, [.ref pF, .int (nI n)])), (pF, .inl (cI, 96, .inl P)), (bA, .inl (cI, 25, .inl B))]) (w1 := [(cL, .inr (1, [.ref cF, .int (nI ((k + 1) + 1))])), (cF, .inl (cI, 868, .inl (tm_w4 (tm_w4 F k u 4 v z) (k + 1) 8 4 0 (32 + r))))]) (va_runV (As := [.int 8, .int 4, .int 0, .int (32 + r)]) (rest := []) (C := R_Li) ⟨hx, hb, hml, hown, hg⟩ (c_Li_append l D cI cZ cJ cL cF 868 (tm_w4 F k u 4 v z) (k + 1) 8 4 0 (32 + r) (by omega) (by omega) H.size) ⟨xg_B hg m_Li_append.1 m_Li_append.2.2.1 m_Li_append.2.2.2.1 m_Li_append.2.2.2.2 q212 rfl rfl ⟨Nat.le_of_ble_eq_true rfl, Nat.le_of_ble_eq_true rfl⟩, hg _ m_Li_append.2.1, hg _ q214⟩ ⟨xw_blind, (va_recv (q0 := 3) hK.1 hP rfl rfl), xw_pre hK hP hD [3, 4] (by decide) rfl⟩ rfl rfl hl.1 rfl (lv_room (Nat.le_of_ble_eq_true rfl)) d_Tr_writeInto_54 ⟨Nat.zero_le _, Nat.zero_le _⟩) hP hD hS hA [3, 4] [0, 1, 2, 5] [0, 1, 2, 4, 5, 3] rfl rfl (by decide) (by decide) rfl (by decide) (fun H locs hP hD hS => ?_)
        have ew1 : nI ((k + 1) + 1) = nI (k + (tm_wt an u r v z).length) := congrArg nI (by first | (simp [tm_wt, tm_pa, tm_pa_app, tm_rs, h42, h44, h45]; done) | (simp [tm_wt, tm_pa, tm_pa_app, tm_rs, h42, h44, h45]; omega) | omega)
        have ew2 : tm_w4 (tm_w4 F k u 4 v z) (k + 1) 8 4 0 (32 + r) = tm_pa (tm_rs B) F k (tm_wt an u r v z) := by first | rfl | simp [tm_wt, tm_pa, tm_pa_app, tm_rs, h42, h44, h45]
        have hP : va_P D cls [(t, .inr (2, [.ref pL, .ref cL, .ref bA])), (pL, .inr (1, [.ref pF, .int (nI n)])), (pF, .inl (cI, 96, .inl P)), (cL, .inr (1, [.ref cF, .int (nI (k + (tm_wt an u r v z).length))])), (cF, .inl (cI, 868, .inl (tm_pa (tm_rs B) F k (tm_wt an u r v z)))), (bA, .inl (cI, 25, .inl B))] H := by rw [← ew1, ← ew2]; exact hP
        have hD : va_D A [(t, .inr (2, [.ref pL, .ref cL, .ref bA])), (pL, .inr (1, [.ref pF, .int (nI n)])), (pF, .inl (cI, 96, .inl P)), (cL, .inr (1, [.ref cF, .int (nI (k + (tm_wt an u r v z).length))])), (cF, .inl (cI, 868, .inl (tm_pa (tm_rs B) F k (tm_wt an u r v z)))), (bA, .inl (cI, 25, .inl B))] := by rw [← ew1, ← ew2]; exact hD
        exact W.vret hx hb hr (fun t9 ht9 hW9 => ⟨⟨(), rfl, trivial, by rw [ht9]; exact hP, hD⟩, hS.F ht9⟩) hS.2.2 d_Tr_writeInto_57
    · refine lv_iconst (v := 1) hx hb d_Tr_writeInto_9 (by decide) ?_
      refine lv_goto (tgt := 14) hx hb d_Tr_writeInto_10 rfl ?_
      refine lv_istore hx hb d_Tr_writeInto_14 hl (by decide) rfl (fun ls hl => ?_)
      have hl : lv_has ls 6 [(5, .int 1), (0, .ref t), (1, .int r), (2, .int u), (3, .int v), (4, .int z)] := hl
      refine lv_aload_n hx hb d_Tr_writeInto_16 rfl (lv_at hl 1 rfl) ?_
      refine va_get (D := D) (ci := 2) (v := .ref cL) (C := R_Tr) (T := F_Tr) (N := 3) hx hb hg f_Tr hown hK.1 hP 0 rfl rfl 1 (by decide) (hg _ q53) (fun _ h9 => h9) rfl d_Tr_writeInto_17 ?_
      refine lv_iload_n hx hb d_Tr_writeInto_20 rfl (lv_at hl 3 rfl) ?_
      refine lv_iload hx hb d_Tr_writeInto_21 (lv_at hl 0 rfl) ?_
      refine lv_if_eq (tgt := 30) hx hb d_Tr_writeInto_23 rfl (fun hz9 => absurd hz9 (by decide)) (fun _ => ?_)
      refine lv_iload_n hx hb d_Tr_writeInto_26 rfl (lv_at hl 2 rfl) ?_
      refine lv_goto (tgt := 31) hx hb d_Tr_writeInto_27 rfl ?_
      refine lv_iload_n hx hb d_Tr_writeInto_31 rfl (lv_at hl 4 rfl) ?_
      refine lv_iload hx hb d_Tr_writeInto_32 (lv_at hl 5 rfl) ?_
      refine xw_go (w2 := [(t, .inr (2, [.ref pL, .ref cL, .ref bA])), (pL, .inr (1, [.ref pF, .int (nI n)])), (pF, .inl (cI, 96, .inl P)), (cL, .inr (1, [.ref cF, .int (nI (k + 1))])), (cF, .inl (cI, 868, .inl (tm_w4 F k u r v z))), (bA, .inl (cI, 25, .inl B))]) (wr := [(t, .inr (2, [.ref pL, .ref cL, .ref bA])), (pL, .inr (1, [.ref pF, .int (nI n)])), (pF, .inl (cI, 96, .inl P)), (bA, .inl (cI, 25, .inl B))]) (w1 := [(cL, .inr (1, [.ref cF, .int (nI (k + 1))])), (cF, .inl (cI, 868, .inl (tm_w4 F k u r v z)))]) (va_runV (As := [.int u, .int r, .int v, .int z]) (rest := []) (C := R_Li) ⟨hx, hb, hml, hown, hg⟩ (c_Li_append l D cI cZ cJ cL cF 868 F k u r v z (by omega) (by omega) s.heap.size) ⟨xg_B hg m_Li_append.1 m_Li_append.2.2.1 m_Li_append.2.2.2.1 m_Li_append.2.2.2.2 q212 rfl rfl ⟨Nat.le_of_ble_eq_true rfl, Nat.le_of_ble_eq_true rfl⟩, hg _ m_Li_append.2.1, hg _ q214⟩ ⟨xw_blind, (va_recv (q0 := 3) hK.1 hP rfl rfl), xw_pre hK hP hD [3, 4] (by decide) rfl⟩ rfl rfl hl.1 rfl (lv_room (Nat.le_of_ble_eq_true rfl)) d_Tr_writeInto_34 ⟨Nat.zero_le _, Nat.zero_le _⟩) hP hD hS hA [3, 4] [0, 1, 2, 5] [0, 1, 2, 4, 5, 3] rfl rfl (by decide) (by decide) rfl (by decide) (fun H locs hP hD hS => ?_)
      refine lv_iload_n hx hb d_Tr_writeInto_37 rfl (lv_at hl 2 rfl) ?_
      refine lv_iconst (v := 4) hx hb d_Tr_writeInto_38 (by decide) ?_
      refine lv_icmp_lt (tgt := 57) hx hb d_Tr_writeInto_39 rfl (fun h46 => ?_) (fun h46 => ?_)
      · have ew1 : nI (k + 1) = nI (k + (tm_wt an u r v z).length) := congrArg nI (by first | (simp [tm_wt, tm_pa, tm_pa_app, tm_rs, h42, h44, h46]; done) | (simp [tm_wt, tm_pa, tm_pa_app, tm_rs, h42, h44, h46]; omega) | omega)
        have ew2 : tm_w4 F k u r v z = tm_pa (tm_rs B) F k (tm_wt an u r v z) := by first | rfl | simp [tm_wt, tm_pa, tm_pa_app, tm_rs, h42, h44, h46]
        have hP : va_P D cls [(t, .inr (2, [.ref pL, .ref cL, .ref bA])), (pL, .inr (1, [.ref pF, .int (nI n)])), (pF, .inl (cI, 96, .inl P)), (cL, .inr (1, [.ref cF, .int (nI (k + (tm_wt an u r v z).length))])), (cF, .inl (cI, 868, .inl (tm_pa (tm_rs B) F k (tm_wt an u r v z)))), (bA, .inl (cI, 25, .inl B))] H := by rw [← ew1, ← ew2]; exact hP
        have hD : va_D A [(t, .inr (2, [.ref pL, .ref cL, .ref bA])), (pL, .inr (1, [.ref pF, .int (nI n)])), (pF, .inl (cI, 96, .inl P)), (cL, .inr (1, [.ref cF, .int (nI (k + (tm_wt an u r v z).length))])), (cF, .inl (cI, 868, .inl (tm_pa (tm_rs B) F k (tm_wt an u r v z)))), (bA, .inl (cI, 25, .inl B))] := by rw [← ew1, ← ew2]; exact hD
        exact W.vret hx hb hr (fun t9 ht9 hW9 => ⟨⟨(), rfl, trivial, by rw [ht9]; exact hP, hD⟩, hS.F ht9⟩) hS.2.2 d_Tr_writeInto_57
      · refine lv_aload_n hx hb d_Tr_writeInto_42 rfl (lv_at hl 1 rfl) ?_
        refine va_get (D := D) (ci := 2) (v := .ref cL) (C := R_Tr) (T := F_Tr) (N := 3) hx hb hg f_Tr hown hK.1 hP 0 rfl rfl 1 (by decide) (hg _ q53) (fun _ h9 => h9) rfl d_Tr_writeInto_43 ?_
        refine lv_bipush (v := 8) hx hb d_Tr_writeInto_46 (by decide) ?_
        refine lv_iconst (v := 4) hx hb d_Tr_writeInto_48 (by decide) ?_
        refine lv_iconst (v := 0) hx hb d_Tr_writeInto_49 (by decide) ?_
        refine lv_bipush (v := 32) hx hb d_Tr_writeInto_50 (by decide) ?_
        refine lv_iload_n hx hb d_Tr_writeInto_52 rfl (lv_at hl 2 rfl) ?_
        refine lv_iadd hx hb d_Tr_writeInto_53 ?_
        refine xw_go (w2 := [(t, .inr (2, [.ref pL, .ref cL, .ref bA])), (pL, .inr (1, [.ref pF, .int (nI n)])), (pF, .inl (cI, 96, .inl P)), (cL, .inr (1, [.ref cF, .int (nI ((k + 1) + 1))])), (cF, .inl (cI, 868, .inl (tm_w4 (tm_w4 F k u r v z) (k + 1) 8 4 0 (32 + r)))), (bA, .inl (cI, 25, .inl B))]) (wr := [(t, .inr (2, [.ref pL, .ref cL, .ref bA])), (pL, .inr (1, [.ref pF, .int (nI n)])), (pF, .inl (cI, 96, .inl P)), (bA, .inl (cI, 25, .inl B))]) (w1 := [(cL, .inr (1, [.ref cF, .int (nI ((k + 1) + 1))])), (cF, .inl (cI, 868, .inl (tm_w4 (tm_w4 F k u r v z) (k + 1) 8 4 0 (32 + r))))]) (va_runV (As := [.int 8, .int 4, .int 0, .int (32 + r)]) (rest := []) (C := R_Li) ⟨hx, hb, hml, hown, hg⟩ (c_Li_append l D cI cZ cJ cL cF 868 (tm_w4 F k u r v z) (k + 1) 8 4 0 (32 + r) (by omega) (by omega) H.size) ⟨xg_B hg m_Li_append.1 m_Li_append.2.2.1 m_Li_append.2.2.2.1 m_Li_append.2.2.2.2 q212 rfl rfl ⟨Nat.le_of_ble_eq_true rfl, Nat.le_of_ble_eq_true rfl⟩, hg _ m_Li_append.2.1, hg _ q214⟩ ⟨xw_blind, (va_recv (q0 := 3) hK.1 hP rfl rfl), xw_pre hK hP hD [3, 4] (by decide) rfl⟩ rfl rfl hl.1 rfl (lv_room (Nat.le_of_ble_eq_true rfl)) d_Tr_writeInto_54 ⟨Nat.zero_le _, Nat.zero_le _⟩) hP hD hS hA [3, 4] [0, 1, 2, 5] [0, 1, 2, 4, 5, 3] rfl rfl (by decide) (by decide) rfl (by decide) (fun H locs hP hD hS => ?_)
        have ew1 : nI ((k + 1) + 1) = nI (k + (tm_wt an u r v z).length) := congrArg nI (by first | (simp [tm_wt, tm_pa, tm_pa_app, tm_rs, h42, h44, h46]; done) | (simp [tm_wt, tm_pa, tm_pa_app, tm_rs, h42, h44, h46]; omega) | omega)
        have ew2 : tm_w4 (tm_w4 F k u r v z) (k + 1) 8 4 0 (32 + r) = tm_pa (tm_rs B) F k (tm_wt an u r v z) := by first | rfl | simp [tm_wt, tm_pa, tm_pa_app, tm_rs, h42, h44, h46]
        have hP : va_P D cls [(t, .inr (2, [.ref pL, .ref cL, .ref bA])), (pL, .inr (1, [.ref pF, .int (nI n)])), (pF, .inl (cI, 96, .inl P)), (cL, .inr (1, [.ref cF, .int (nI (k + (tm_wt an u r v z).length))])), (cF, .inl (cI, 868, .inl (tm_pa (tm_rs B) F k (tm_wt an u r v z)))), (bA, .inl (cI, 25, .inl B))] H := by rw [← ew1, ← ew2]; exact hP
        have hD : va_D A [(t, .inr (2, [.ref pL, .ref cL, .ref bA])), (pL, .inr (1, [.ref pF, .int (nI n)])), (pF, .inl (cI, 96, .inl P)), (cL, .inr (1, [.ref cF, .int (nI (k + (tm_wt an u r v z).length))])), (cF, .inl (cI, 868, .inl (tm_pa (tm_rs B) F k (tm_wt an u r v z)))), (bA, .inl (cI, 25, .inl B))] := by rw [← ew1, ← ew2]; exact hD
        exact W.vret hx hb hr (fun t9 ht9 hW9 => ⟨⟨(), rfl, trivial, by rw [ht9]; exact hP, hD⟩, hS.F ht9⟩) hS.2.2 d_Tr_writeInto_57

set_option maxHeartbeats 4000000 in
set_option maxRecDepth 100000 in
theorem c_Tr_writeJump (l : Launch) (D : va_G) (cI cZ cJ : ClassId) (t pL pF cL cF bA : Nat) (P F B : Nat → Int32) (n k : Nat) (q : Nat) (hn : n ≤ 24) (hq : q ≤ n) (hk : k + 1 ≤ 217) : xw_Met l y_Tr_writeJump b_Tr_writeJump 2 none { frames := 2, cells := 0, slots := 0, locals := 42 } [.ref t, .int (nI q)] D cls (tyL cI cZ cJ) [(t, .inr (2, [.ref pL, .ref cL, .ref bA])), (pL, .inr (1, [.ref pF, .int (nI n)])), (pF, .inl (cI, 96, .inl P)), (cL, .inr (1, [.ref cF, .int (nI k)])), (cF, .inl (cI, 868, .inl F)), (bA, .inl (cI, 25, .inl B))] [(t, .inr (2, [.ref pL, .ref cL, .ref bA])), (pL, .inr (1, [.ref pF, .int (nI n)])), (pF, .inl (cI, 96, .inl P)), (cL, .inr (1, [.ref cF, .int (nI (k + 1))])), (cF, .inl (cI, 868, .inl (tm_w4 F k 11 0 0 (B q)))), (bA, .inl (cI, 25, .inl B))] := by
  intro sz
  refine Met.ofW (cc := b_Tr_writeJump) (maxL := 2) (ret := none) (by decide) rfl ?_
  intro p e s m args below meth c s₁ B0 hml hv
  obtain ⟨rfl, hsz, hP, hK, hD0⟩ := hv
  have hx := B0.exec
  have hb := B0.bytes
  have hr := B0.returns
  have hlocks := B0.notSynchronized
  have hg : ∀ w ∈ gG, w.before _ s = true := fun w h => atoms_spec B0.pre w (List.mem_cons_of_mem _ h)
  have hown : s.vm.findClass R_Tr = some m.cls := findClass_of_methodNamed B0.named
  subst hsz
  have hD := hD0.self (sz := s.heap.size)
  generalize hAe : va_A [(t, .inr (2, [.ref pL, .ref cL, .ref bA])), (pL, .inr (1, [.ref pF, .int (nI n)])), (pF, .inl (cI, 96, .inl P)), (cL, .inr (1, [.ref cF, .int (nI k)])), (cF, .inl (cI, 868, .inl F)), (bA, .inl (cI, 25, .inl B))] s.heap.size = A at hD ⊢
  have hA : ∀ q : Nat, s.heap.size ≤ q → A q := fun q h => by rw [← hAe]; exact Or.inr h
  have hS : va_S A s.heap s.heap [] := va_S.rf
  have hP : va_P D cls [(t, .inr (2, [.ref pL, .ref cL, .ref bA])), (pL, .inr (1, [.ref pF, .int (nI n)])), (pF, .inl (cI, 96, .inl P)), (cL, .inr (1, [.ref cF, .int (nI k)])), (cF, .inl (cI, 868, .inl F)), (bA, .inl (cI, 25, .inl B))] s.heap := hP
  have hl := lv_entry ([.ref t, .int (nI q)]) (n := 2) (Nat.le_of_ble_eq_true rfl)
  rw [lg_entry_eq]
  generalize (lg_sl ([.ref t, .int (nI q)]) ++ List.replicate (2 - (lg_sl ([.ref t, .int (nI q)])).length) Slot.unset).toArray = ls at hl ⊢
  have hl : lv_has ls 2 [(0, .ref t), (1, .int (nI q))] := hl
  refine lv_aload_n hx hb d_Tr_writeJump_0 rfl (lv_at hl 0 rfl) ?_
  refine va_get (D := D) (ci := 2) (v := .ref cL) (C := R_Tr) (T := F_Tr) (N := 3) hx hb hg f_Tr hown hK.1 hP 0 rfl rfl 1 (by decide) (hg _ q53) (fun _ h9 => h9) rfl d_Tr_writeJump_1 ?_
  refine lv_bipush (v := 11) hx hb d_Tr_writeJump_4 (by decide) ?_
  refine lv_iconst (v := 0) hx hb d_Tr_writeJump_6 (by decide) ?_
  refine lv_iconst (v := 0) hx hb d_Tr_writeJump_7 (by decide) ?_
  refine lv_aload_n hx hb d_Tr_writeJump_8 rfl (lv_at hl 0 rfl) ?_
  refine lv_iload_n hx hb d_Tr_writeJump_9 rfl (lv_at hl 1 rfl) ?_
  refine xr_V (C := R_Tr) (As := [.int (nI q)]) (rest := [.int 0, .int 0, .int 11, .ref cL]) ⟨hx, hb, hml, hown, hg⟩ (c_Tr_beginningOf l D cI cZ cJ t pL pF cL cF bA P F B n k q (by omega) (by omega)) m_Tr_beginningOf q247 sp_Tr_beginningOf ⟨rfl, rfl⟩ ⟨Nat.le_of_ble_eq_true rfl, Nat.le_of_ble_eq_true rfl⟩ hK hP [0, 1, 2, 3, 4, 5] rfl (va_recv (q0 := 0) hK.1 hP rfl rfl) rfl hl.1 rfl (Nat.le_of_ble_eq_true rfl) d_Tr_writeJump_10 ⟨Nat.zero_le _, Nat.zero_le _⟩ ?_
  refine xw_go (w2 := [(t, .inr (2, [.ref pL, .ref cL, .ref bA])), (pL, .inr (1, [.ref pF, .int (nI n)])), (pF, .inl (cI, 96, .inl P)), (cL, .inr (1, [.ref cF, .int (nI (k + 1))])), (cF, .inl (cI, 868, .inl (tm_w4 F k 11 0 0 (B q)))), (bA, .inl (cI, 25, .inl B))]) (wr := [(t, .inr (2, [.ref pL, .ref cL, .ref bA])), (pL, .inr (1, [.ref pF, .int (nI n)])), (pF, .inl (cI, 96, .inl P)), (bA, .inl (cI, 25, .inl B))]) (w1 := [(cL, .inr (1, [.ref cF, .int (nI (k + 1))])), (cF, .inl (cI, 868, .inl (tm_w4 F k 11 0 0 (B q))))]) (va_runV (As := [.int 11, .int 0, .int 0, .int (B q)]) (rest := []) (C := R_Li) ⟨hx, hb, hml, hown, hg⟩ (c_Li_append l D cI cZ cJ cL cF 868 F k 11 0 0 (B q) (by omega) (by omega) s.heap.size) ⟨xg_B hg m_Li_append.1 m_Li_append.2.2.1 m_Li_append.2.2.2.1 m_Li_append.2.2.2.2 q212 rfl rfl ⟨Nat.le_of_ble_eq_true rfl, Nat.le_of_ble_eq_true rfl⟩, hg _ m_Li_append.2.1, hg _ q214⟩ ⟨xw_blind, (va_recv (q0 := 3) hK.1 hP rfl rfl), xw_pre hK hP hD [3, 4] (by decide) rfl⟩ rfl rfl hl.1 rfl (lv_room (Nat.le_of_ble_eq_true rfl)) d_Tr_writeJump_13 ⟨Nat.zero_le _, Nat.zero_le _⟩) hP hD hS hA [3, 4] [0, 1, 2, 5] [0, 1, 2, 4, 5, 3] rfl rfl (by decide) (by decide) rfl (by decide) (fun H locs hP hD hS => ?_)
  have hP : va_P D cls [(t, .inr (2, [.ref pL, .ref cL, .ref bA])), (pL, .inr (1, [.ref pF, .int (nI n)])), (pF, .inl (cI, 96, .inl P)), (cL, .inr (1, [.ref cF, .int (nI (k + 1))])), (cF, .inl (cI, 868, .inl (tm_w4 F k 11 0 0 (B q)))), (bA, .inl (cI, 25, .inl B))] H := by exact hP
  have hD : va_D A [(t, .inr (2, [.ref pL, .ref cL, .ref bA])), (pL, .inr (1, [.ref pF, .int (nI n)])), (pF, .inl (cI, 96, .inl P)), (cL, .inr (1, [.ref cF, .int (nI (k + 1))])), (cF, .inl (cI, 868, .inl (tm_w4 F k 11 0 0 (B q)))), (bA, .inl (cI, 25, .inl B))] := by exact hD
  exact W.vret hx hb hr (fun t9 ht9 hW9 => ⟨⟨(), rfl, trivial, by rw [ht9]; exact hP, hD⟩, hS.F ht9⟩) hS.2.2 d_Tr_writeJump_16
