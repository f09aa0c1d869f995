/-! LISTING: contracts (printed by wip/whole/gen/c07.py) -/
set_option maxHeartbeats 4000000 in
set_option maxRecDepth 100000 in
theorem c_Li_has (l : Launch) (D : va_G) (cI cZ cJ : ClassId) (h f N : Nat) (F : Nat → Int32) (k : Nat) (x : Int32) : xr_Met l y_Li_has b_Li_has 2 (some .boolean) { frames := 0, cells := 0, slots := 0, locals := 0 } [.ref h, .int x] (xb D cls [(h, .inr (1, [.ref f, .int (nI k)])), (f, .inl (cI, N, .inl F))] (tyL cI cZ cJ)) (tm_hs k x) := by
  refine Met.ofW (cc := b_Li_has) (maxL := 2) (ret := (some .boolean)) (by decide) rfl ?_
  intro p e s m args below meth c s₁ B0 hml hv
  obtain ⟨rfl, hP, hK⟩ := hv
  have hx := B0.exec
  have hb := B0.bytes
  have hr := B0.returns
  have hlocks := B0.notSynchronized
  have hg : ∀ w ∈ gG, w.before _ s = true := fun w h => atoms_spec B0.pre w (List.mem_cons_of_mem _ h)
  have hown : s.vm.findClass R_Li = some m.cls := findClass_of_methodNamed B0.named
  have hP : va_P D cls [(h, .inr (1, [.ref f, .int (nI k)])), (f, .inl (cI, N, .inl F))] s.heap := hP
  have hl := lv_entry ([.ref h, .int x]) (n := 2) (Nat.le_of_ble_eq_true rfl)
  rw [lg_entry_eq]
  generalize (lg_sl ([.ref h, .int x]) ++ List.replicate (2 - (lg_sl ([.ref h, .int x])).length) Slot.unset).toArray = ls at hl ⊢
  have hl : lv_has ls 2 [(0, .ref h), (1, .int x)] := hl
  refine lv_iload_n hx hb d_Li_has_0 rfl (lv_at hl 1 rfl) ?_
  refine lv_if_lt (tgt := 16) hx hb d_Li_has_1 rfl (fun h3 => ?_) (fun h3 => ?_)
  · refine lv_iconst (v := 0) hx hb d_Li_has_16 (by decide) ?_
    exact W.zret (v := 0) hx hb hr (rfl) (fun t9 ht9 hW9 => ⟨0, rfl, by simp [tm_hs, h3], ht9⟩) (fun _ h => by cases h) d_Li_has_17
  · refine lv_iload_n hx hb d_Li_has_4 rfl (lv_at hl 1 rfl) ?_
    refine lv_aload_n hx hb d_Li_has_5 rfl (lv_at hl 0 rfl) ?_
    refine va_get (D := D) (ci := 1) (v := .int (nI k)) (C := R_Li) (T := F_Li) (N := 2) hx hb hg f_Li hown hK.1 hP 0 rfl rfl 1 (by decide) (hg _ q32) (fun _ h9 => h9) rfl d_Li_has_6 ?_
    refine lv_icmp_ge (tgt := 16) hx hb d_Li_has_9 rfl (fun h4 => ?_) (fun h4 => ?_)
    · refine lv_iconst (v := 0) hx hb d_Li_has_16 (by decide) ?_
      exact W.zret (v := 0) hx hb hr (rfl) (fun t9 ht9 hW9 => ⟨0, rfl, by simp [tm_hs, h3, h4], ht9⟩) (fun _ h => by cases h) d_Li_has_17
    · refine lv_iconst (v := 1) hx hb d_Li_has_12 (by decide) ?_
      refine lv_goto (tgt := 17) hx hb d_Li_has_13 rfl ?_
      exact W.zret (v := 1) hx hb hr (rfl) (fun t9 ht9 hW9 => ⟨1, rfl, by simp [tm_hs, h3, h4], ht9⟩) (fun _ h => by cases h) d_Li_has_17

set_option maxHeartbeats 4000000 in
set_option maxRecDepth 100000 in
theorem c_Li_hasN (l : Launch) (D : va_G) (cI cZ cJ : ClassId) (h f N : Nat) (F : Nat → Int32) (k q : Nat) (hk : k < 2 ^ 31) (hq : q < 2 ^ 31) : xr_Met l y_Li_has b_Li_has 2 (some .boolean) { frames := 0, cells := 0, slots := 0, locals := 0 } [.ref h, .int (nI q)] (xb D cls [(h, .inr (1, [.ref f, .int (nI k)])), (f, .inl (cI, N, .inl F))] (tyL cI cZ cJ)) (if q < k then 1 else 0) := by
  refine Met.ofW (cc := b_Li_has) (maxL := 2) (ret := (some .boolean)) (by decide) rfl ?_
  intro p e s m args below meth c s₁ B0 hml hv
  obtain ⟨rfl, hP, hK⟩ := hv
  have hx := B0.exec
  have hb := B0.bytes
  have hr := B0.returns
  have hlocks := B0.notSynchronized
  have hg : ∀ w ∈ gG, w.before _ s = true := fun w h => atoms_spec B0.pre w (List.mem_cons_of_mem _ h)
  have hown : s.vm.findClass R_Li = some m.cls := findClass_of_methodNamed B0.named
  have hP : va_P D cls [(h, .inr (1, [.ref f, .int (nI k)])), (f, .inl (cI, N, .inl F))] s.heap := hP
  have hl := lv_entry ([.ref h, .int (nI q)]) (n := 2) (Nat.le_of_ble_eq_true rfl)
  rw [lg_entry_eq]
  generalize (lg_sl ([.ref h, .int (nI q)]) ++ List.replicate (2 - (lg_sl ([.ref h, .int (nI q)])).length) Slot.unset).toArray = ls at hl ⊢
  have hl : lv_has ls 2 [(0, .ref h), (1, .int (nI q))] := hl
  refine lv_iload_n hx hb d_Li_has_0 rfl (lv_at hl 1 rfl) ?_
  refine lv_if_lt (tgt := 16) hx hb d_Li_has_1 rfl (fun hz9 => absurd hz9 (nI_pos hq)) (fun _ => ?_)
  refine lv_iload_n hx hb d_Li_has_4 rfl (lv_at hl 1 rfl) ?_
  refine lv_aload_n hx hb d_Li_has_5 rfl (lv_at hl 0 rfl) ?_
  refine va_get (D := D) (ci := 1) (v := .int (nI k)) (C := R_Li) (T := F_Li) (N := 2) hx hb hg f_Li hown hK.1 hP 0 rfl rfl 1 (by decide) (hg _ q32) (fun _ h9 => h9) rfl d_Li_has_6 ?_
  refine lv_icmp_ge (tgt := 16) hx hb d_Li_has_9 rfl (fun hc => ?_) (fun hc => ?_)
  · have hc := Nat.not_lt.mpr ((nI_leI hk hq).mp hc)
    refine lv_iconst (v := 0) hx hb d_Li_has_16 (by decide) ?_
    exact W.zret (v := 0) hx hb hr (rfl) (fun t9 ht9 hW9 => ⟨0, rfl, by simp [hc], ht9⟩) (fun _ h => by cases h) d_Li_has_17
  · have hc := Nat.lt_of_not_le (mt (nI_leI hk hq).mpr hc)
    refine lv_iconst (v := 1) hx hb d_Li_has_12 (by decide) ?_
    refine lv_goto (tgt := 17) hx hb d_Li_has_13 rfl ?_
    exact W.zret (v := 1) hx hb hr (rfl) (fun t9 ht9 hW9 => ⟨1, rfl, by simp [hc], ht9⟩) (fun _ h => by cases h) d_Li_has_17

set_option maxHeartbeats 4000000 in
set_option maxRecDepth 100000 in
theorem c_Li_field (l : Launch) (D : va_G) (cI cZ cJ : ClassId) (h f N : Nat) (F : Nat → Int32) (cn : Int32) (q w : Nat) (hN : N < 2 ^ 31) (hq : 4 * q + w < N) : xr_Met l y_Li_field b_Li_field 3 (some .int) { frames := 0, cells := 0, slots := 0, locals := 0 } [.ref h, .int (nI q), .int (nI w)] (xb D cls [(h, .inr (1, [.ref f, .int cn])), (f, .inl (cI, N, .inl F))] (tyL cI cZ cJ)) (F (4 * q + w)) := by
  refine Met.ofW (cc := b_Li_field) (maxL := 3) (ret := (some .int)) (by decide) rfl ?_
  intro p e s m args below meth c s₁ B0 hml hv
  obtain ⟨rfl, hP, hK⟩ := hv
  have hx := B0.exec
  have hb := B0.bytes
  have hr := B0.returns
  have hlocks := B0.notSynchronized
  have hg : ∀ w ∈ gG, w.before _ s = true := fun w h => atoms_spec B0.pre w (List.mem_cons_of_mem _ h)
  have hown : s.vm.findClass R_Li = some m.cls := findClass_of_methodNamed B0.named
  have hP : va_P D cls [(h, .inr (1, [.ref f, .int cn])), (f, .inl (cI, N, .inl F))] s.heap := hP
  have hl := lv_entry ([.ref h, .int (nI q), .int (nI w)]) (n := 3) (Nat.le_of_ble_eq_true rfl)
  rw [lg_entry_eq]
  generalize (lg_sl ([.ref h, .int (nI q), .int (nI w)]) ++ List.replicate (3 - (lg_sl ([.ref h, .int (nI q), .int (nI w)])).length) Slot.unset).toArray = ls at hl ⊢
  have hl : lv_has ls 3 [(0, .ref h), (1, .int (nI q)), (2, .int (nI w))] := hl
  refine lv_aload_n hx hb d_Li_field_0 rfl (lv_at hl 0 rfl) ?_
  refine va_get (D := D) (ci := 1) (v := .ref f) (C := R_Li) (T := F_Li) (N := 2) hx hb hg f_Li hown hK.1 hP 0 rfl rfl 0 (by decide) (hg _ q31) (fun _ h9 => h9) rfl d_Li_field_1 ?_
  refine lv_iconst (v := 4) hx hb d_Li_field_4 (by decide) ?_
  refine lv_iload_n hx hb d_Li_field_5 rfl (lv_at hl 1 rfl) ?_
  refine lv_imul hx hb d_Li_field_6 ?_
  have eq9 : (4 * (nI q) : Int32) = nI (4 * q) := pk_mul 4 q
  refine W.eq (g2 := F0 m 7 ls [.int (nI (4 * q)), .ref f]) (by rw [eq9]) ?_
  refine lv_iload_n hx hb d_Li_field_7 rfl (lv_at hl 2 rfl) ?_
  refine lv_iadd hx hb d_Li_field_8 ?_
  have eq9 : ((nI (4 * q)) + (nI w) : Int32) = nI (4 * q + w) := nI_add (4 * q) w
  refine W.eq (g2 := F0 m 9 ls [.int (nI (4 * q + w)), .ref f]) (by rw [eq9]) ?_
  refine xa_ld hx hb hK hP 1 0 rfl rfl (kx := 4 * q + w) (rfl) (hq) (hN) d_Li_field_9 ?_
  exact W.iret (v := F (4 * q + w)) hx hb hr (fun t9 ht9 hW9 => ⟨F (4 * q + w), rfl, rfl, ht9⟩) (fun _ h => by cases h) d_Li_field_10

set_option maxHeartbeats 4000000 in
set_option maxRecDepth 100000 in
theorem c_Li_operation (l : Launch) (D : va_G) (cI cZ cJ : ClassId) (h f N : Nat) (F : Nat → Int32) (cn : Int32) (q : Nat) (hN : N < 2 ^ 31) (hq : 4 * q < N) : xr_Met l y_Li_operation b_Li_operation 2 (some .int) { frames := 1, cells := 0, slots := 0, locals := 22 } [.ref h, .int (nI q)] (xb D cls [(h, .inr (1, [.ref f, .int cn])), (f, .inl (cI, N, .inl F))] (tyL cI cZ cJ)) (F (4 * q)) := by
  refine Met.ofW (cc := b_Li_operation) (maxL := 2) (ret := (some .int)) (by decide) rfl ?_
  intro p e s m args below meth c s₁ B0 hml hv
  obtain ⟨rfl, hP, hK⟩ := hv
  have hx := B0.exec
  have hb := B0.bytes
  have hr := B0.returns
  have hlocks := B0.notSynchronized
  have hg : ∀ w ∈ gG, w.before _ s = true := fun w h => atoms_spec B0.pre w (List.mem_cons_of_mem _ h)
  have hown : s.vm.findClass R_Li = some m.cls := findClass_of_methodNamed B0.named
  have hP : va_P D cls [(h, .inr (1, [.ref f, .int cn])), (f, .inl (cI, N, .inl F))] s.heap := hP
  have hl := lv_entry ([.ref h, .int (nI q)]) (n := 2) (Nat.le_of_ble_eq_true rfl)
  rw [lg_entry_eq]
  generalize (lg_sl ([.ref h, .int (nI q)]) ++ List.replicate (2 - (lg_sl ([.ref h, .int (nI q)])).length) Slot.unset).toArray = ls at hl ⊢
  have hl : lv_has ls 2 [(0, .ref h), (1, .int (nI q))] := hl
  refine lv_aload_n hx hb d_Li_operation_0 rfl (lv_at hl 0 rfl) ?_
  refine lv_iload_n hx hb d_Li_operation_1 rfl (lv_at hl 1 rfl) ?_
  refine lv_iconst (v := 0) hx hb d_Li_operation_2 (by decide) ?_
  refine xr_V (C := R_Li) (As := [.int (nI q), .int 0]) (rest := []) ⟨hx, hb, hml, hown, hg⟩ (c_Li_field l D cI cZ cJ h f N F cn q 0 (by omega) (by omega)) m_Li_field q183 q185 ⟨rfl, rfl⟩ ⟨Nat.le_of_ble_eq_true rfl, Nat.le_of_ble_eq_true rfl⟩ hK hP [0, 1] rfl (va_recv (q0 := 0) hK.1 hP rfl rfl) rfl hl.1 rfl (Nat.le_of_ble_eq_true rfl) d_Li_operation_3 ⟨Nat.zero_le _, Nat.zero_le _⟩ ?_
  exact W.iret (v := F (4 * q + 0)) hx hb hr (fun t9 ht9 hW9 => ⟨F (4 * q + 0), rfl, by simp [], ht9⟩) (fun _ h => by cases h) d_Li_operation_6

set_option maxHeartbeats 4000000 in
set_option maxRecDepth 100000 in
theorem c_Li_first (l : Launch) (D : va_G) (cI cZ cJ : ClassId) (h f N : Nat) (F : Nat → Int32) (cn : Int32) (q : Nat) (hN : N < 2 ^ 31) (hq : 4 * q + 1 < N) : xr_Met l y_Li_first b_Li_first 2 (some .int) { frames := 1, cells := 0, slots := 0, locals := 22 } [.ref h, .int (nI q)] (xb D cls [(h, .inr (1, [.ref f, .int cn])), (f, .inl (cI, N, .inl F))] (tyL cI cZ cJ)) (F (4 * q + 1)) := by
  refine Met.ofW (cc := b_Li_first) (maxL := 2) (ret := (some .int)) (by decide) rfl ?_
  intro p e s m args below meth c s₁ B0 hml hv
  obtain ⟨rfl, hP, hK⟩ := hv
  have hx := B0.exec
  have hb := B0.bytes
  have hr := B0.returns
  have hlocks := B0.notSynchronized
  have hg : ∀ w ∈ gG, w.before _ s = true := fun w h => atoms_spec B0.pre w (List.mem_cons_of_mem _ h)
  have hown : s.vm.findClass R_Li = some m.cls := findClass_of_methodNamed B0.named
  have hP : va_P D cls [(h, .inr (1, [.ref f, .int cn])), (f, .inl (cI, N, .inl F))] s.heap := hP
  have hl := lv_entry ([.ref h, .int (nI q)]) (n := 2) (Nat.le_of_ble_eq_true rfl)
  rw [lg_entry_eq]
  generalize (lg_sl ([.ref h, .int (nI q)]) ++ List.replicate (2 - (lg_sl ([.ref h, .int (nI q)])).length) Slot.unset).toArray = ls at hl ⊢
  have hl : lv_has ls 2 [(0, .ref h), (1, .int (nI q))] := hl
  refine lv_aload_n hx hb d_Li_first_0 rfl (lv_at hl 0 rfl) ?_
  refine lv_iload_n hx hb d_Li_first_1 rfl (lv_at hl 1 rfl) ?_
  refine lv_iconst (v := 1) hx hb d_Li_first_2 (by decide) ?_
  refine xr_V (C := R_Li) (As := [.int (nI q), .int 1]) (rest := []) ⟨hx, hb, hml, hown, hg⟩ (c_Li_field l D cI cZ cJ h f N F cn q 1 (by omega) (by omega)) m_Li_field q183 q185 ⟨rfl, rfl⟩ ⟨Nat.le_of_ble_eq_true rfl, Nat.le_of_ble_eq_true rfl⟩ hK hP [0, 1] rfl (va_recv (q0 := 0) hK.1 hP rfl rfl) rfl hl.1 rfl (Nat.le_of_ble_eq_true rfl) d_Li_first_3 ⟨Nat.zero_le _, Nat.zero_le _⟩ ?_
  exact W.iret (v := F (4 * q + 1)) hx hb hr (fun t9 ht9 hW9 => ⟨F (4 * q + 1), rfl, rfl, ht9⟩) (fun _ h => by cases h) d_Li_first_6

set_option maxHeartbeats 4000000 in
set_option maxRecDepth 100000 in
theorem c_Li_second (l : Launch) (D : va_G) (cI cZ cJ : ClassId) (h f N : Nat) (F : Nat → Int32) (cn : Int32) (q : Nat) (hN : N < 2 ^ 31) (hq : 4 * q + 2 < N) : xr_Met l y_Li_second b_Li_second 2 (some .int) { frames := 1, cells := 0, slots := 0, locals := 22 } [.ref h, .int (nI q)] (xb D cls [(h, .inr (1, [.ref f, .int cn])), (f, .inl (cI, N, .inl F))] (tyL cI cZ cJ)) (F (4 * q + 2)) := by
  refine Met.ofW (cc := b_Li_second) (maxL := 2) (ret := (some .int)) (by decide) rfl ?_
  intro p e s m args below meth c s₁ B0 hml hv
  obtain ⟨rfl, hP, hK⟩ := hv
  have hx := B0.exec
  have hb := B0.bytes
  have hr := B0.returns
  have hlocks := B0.notSynchronized
  have hg : ∀ w ∈ gG, w.before _ s = true := fun w h => atoms_spec B0.pre w (List.mem_cons_of_mem _ h)
  have hown : s.vm.findClass R_Li = some m.cls := findClass_of_methodNamed B0.named
  have hP : va_P D cls [(h, .inr (1, [.ref f, .int cn])), (f, .inl (cI, N, .inl F))] s.heap := hP
  have hl := lv_entry ([.ref h, .int (nI q)]) (n := 2) (Nat.le_of_ble_eq_true rfl)
  rw [lg_entry_eq]
  generalize (lg_sl ([.ref h, .int (nI q)]) ++ List.replicate (2 - (lg_sl ([.ref h, .int (nI q)])).length) Slot.unset).toArray = ls at hl ⊢
  have hl : lv_has ls 2 [(0, .ref h), (1, .int (nI q))] := hl
  refine lv_aload_n hx hb d_Li_second_0 rfl (lv_at hl 0 rfl) ?_
  refine lv_iload_n hx hb d_Li_second_1 rfl (lv_at hl 1 rfl) ?_
  refine lv_iconst (v := 2) hx hb d_Li_second_2 (by decide) ?_
  refine xr_V (C := R_Li) (As := [.int (nI q), .int 2]) (rest := []) ⟨hx, hb, hml, hown, hg⟩ (c_Li_field l D cI cZ cJ h f N F cn q 2 (by omega) (by omega)) m_Li_field q183 q185 ⟨rfl, rfl⟩ ⟨Nat.le_of_ble_eq_true rfl, Nat.le_of_ble_eq_true rfl⟩ hK hP [0, 1] rfl (va_recv (q0 := 0) hK.1 hP rfl rfl) rfl hl.1 rfl (Nat.le_of_ble_eq_true rfl) d_Li_second_3 ⟨Nat.zero_le _, Nat.zero_le _⟩ ?_
  exact W.iret (v := F (4 * q + 2)) hx hb hr (fun t9 ht9 hW9 => ⟨F (4 * q + 2), rfl, rfl, ht9⟩) (fun _ h => by cases h) d_Li_second_6

set_option maxHeartbeats 4000000 in
set_option maxRecDepth 100000 in
theorem c_Li_third (l : Launch) (D : va_G) (cI cZ cJ : ClassId) (h f N : Nat) (F : Nat → Int32) (cn : Int32) (q : Nat) (hN : N < 2 ^ 31) (hq : 4 * q + 3 < N) : xr_Met l y_Li_third b_Li_third 2 (some .int) { frames := 1, cells := 0, slots := 0, locals := 22 } [.ref h, .int (nI q)] (xb D cls [(h, .inr (1, [.ref f, .int cn])), (f, .inl (cI, N, .inl F))] (tyL cI cZ cJ)) (F (4 * q + 3)) := by
  refine Met.ofW (cc := b_Li_third) (maxL := 2) (ret := (some .int)) (by decide) rfl ?_
  intro p e s m args below meth c s₁ B0 hml hv
  obtain ⟨rfl, hP, hK⟩ := hv
  have hx := B0.exec
  have hb := B0.bytes
  have hr := B0.returns
  have hlocks := B0.notSynchronized
  have hg : ∀ w ∈ gG, w.before _ s = true := fun w h => atoms_spec B0.pre w (List.mem_cons_of_mem _ h)
  have hown : s.vm.findClass R_Li = some m.cls := findClass_of_methodNamed B0.named
  have hP : va_P D cls [(h, .inr (1, [.ref f, .int cn])), (f, .inl (cI, N, .inl F))] s.heap := hP
  have hl := lv_entry ([.ref h, .int (nI q)]) (n := 2) (Nat.le_of_ble_eq_true rfl)
  rw [lg_entry_eq]
  generalize (lg_sl ([.ref h, .int (nI q)]) ++ List.replicate (2 - (lg_sl ([.ref h, .int (nI q)])).length) Slot.unset).toArray = ls at hl ⊢
  have hl : lv_has ls 2 [(0, .ref h), (1, .int (nI q))] := hl
  refine lv_aload_n hx hb d_Li_third_0 rfl (lv_at hl 0 rfl) ?_
  refine lv_iload_n hx hb d_Li_third_1 rfl (lv_at hl 1 rfl) ?_
  refine lv_iconst (v := 3) hx hb d_Li_third_2 (by decide) ?_
  refine xr_V (C := R_Li) (As := [.int (nI q), .int 3]) (rest := []) ⟨hx, hb, hml, hown, hg⟩ (c_Li_field l D cI cZ cJ h f N F cn q 3 (by omega) (by omega)) m_Li_field q183 q185 ⟨rfl, rfl⟩ ⟨Nat.le_of_ble_eq_true rfl, Nat.le_of_ble_eq_true rfl⟩ hK hP [0, 1] rfl (va_recv (q0 := 0) hK.1 hP rfl rfl) rfl hl.1 rfl (Nat.le_of_ble_eq_true rfl) d_Li_third_3 ⟨Nat.zero_le _, Nat.zero_le _⟩ ?_
  exact W.iret (v := F (4 * q + 3)) hx hb hr (fun t9 ht9 hW9 => ⟨F (4 * q + 3), rfl, rfl, ht9⟩) (fun _ h => by cases h) d_Li_third_6

set_option maxHeartbeats 4000000 in
set_option maxRecDepth 100000 in
theorem c_Li_append (l : Launch) (D : va_G) (cI cZ cJ : ClassId) (h f N : Nat) (F : Nat → Int32) (k : Nat) (u1 u2 u3 u4 : Int32) (hN : N < 2 ^ 30) (hk : 4 * k + 4 ≤ N) : xw_Met l y_Li_append b_Li_append 6 none { frames := 0, cells := 0, slots := 0, locals := 0 } [.ref h, .int u1, .int u2, .int u3, .int u4] D cls (tyL cI cZ cJ) [(h, .inr (1, [.ref f, .int (nI k)])), (f, .inl (cI, N, .inl F))] [(h, .inr (1, [.ref f, .int (nI (k + 1))])), (f, .inl (cI, N, .inl (tm_w4 F k u1 u2 u3 u4)))] := by
  intro sz
  refine Met.ofW (cc := b_Li_append) (maxL := 6) (ret := none) (by decide) rfl ?_
  intro p e s m args below meth c s₁ B0 hml hv
  obtain ⟨rfl, hsz, hP, hK, hD0⟩ := hv
  have hx := B0.exec
  have hb := B0.bytes
  have hr := B0.returns
  have hlocks := B0.notSynchronized
  have hg : ∀ w ∈ gG, w.before _ s = true := fun w h => atoms_spec B0.pre w (List.mem_cons_of_mem _ h)
  have hown : s.vm.findClass R_Li = some m.cls := findClass_of_methodNamed B0.named
  subst hsz
  have hD := hD0.self (sz := s.heap.size)
  generalize hAe : va_A [(h, .inr (1, [.ref f, .int (nI k)])), (f, .inl (cI, N, .inl F))] s.heap.size = A at hD ⊢
  have hA : ∀ q : Nat, s.heap.size ≤ q → A q := fun q h => by rw [← hAe]; exact Or.inr h
  have hS : va_S A s.heap s.heap [] := va_S.rf
  have hP : va_P D cls [(h, .inr (1, [.ref f, .int (nI k)])), (f, .inl (cI, N, .inl F))] s.heap := hP
  have hl := lv_entry ([.ref h, .int u1, .int u2, .int u3, .int u4]) (n := 6) (Nat.le_of_ble_eq_true rfl)
  rw [lg_entry_eq]
  generalize (lg_sl ([.ref h, .int u1, .int u2, .int u3, .int u4]) ++ List.replicate (6 - (lg_sl ([.ref h, .int u1, .int u2, .int u3, .int u4])).length) Slot.unset).toArray = ls at hl ⊢
  have hl : lv_has ls 6 [(0, .ref h), (1, .int u1), (2, .int u2), (3, .int u3), (4, .int u4)] := hl
  refine lv_iconst (v := 4) hx hb d_Li_append_0 (by decide) ?_
  refine lv_aload_n hx hb d_Li_append_1 rfl (lv_at hl 0 rfl) ?_
  refine va_get (D := D) (ci := 1) (v := .int (nI k)) (C := R_Li) (T := F_Li) (N := 2) hx hb hg f_Li hown hK.1 hP 0 rfl rfl 1 (by decide) (hg _ q32) (fun _ h9 => h9) rfl d_Li_append_2 ?_
  refine lv_imul hx hb d_Li_append_5 ?_
  have eq9 : (4 * (nI k) : Int32) = nI (4 * k) := pk_mul 4 k
  refine W.eq (g2 := F0 m 6 ls [.int (nI (4 * k))]) (by rw [eq9]) ?_
  refine lv_istore hx hb d_Li_append_6 hl (by decide) rfl (fun ls hl => ?_)
  have hl : lv_has ls 6 [(5, .int (nI (4 * k))), (0, .ref h), (1, .int u1), (2, .int u2), (3, .int u3), (4, .int u4)] := hl
  refine lv_iload hx hb d_Li_append_8 (lv_at hl 0 rfl) ?_
  refine lv_iconst (v := 4) hx hb d_Li_append_10 (by decide) ?_
  refine lv_iadd hx hb d_Li_append_11 ?_
  have eq9 : ((nI (4 * k)) + 4 : Int32) = nI (4 * k + 4) := nI_add (4 * k) 4
  refine W.eq (g2 := F0 m 12 ls [.int (nI (4 * k + 4))]) (by rw [eq9]) ?_
  refine lv_aload_n hx hb d_Li_append_12 rfl (lv_at hl 1 rfl) ?_
  refine va_get (D := D) (ci := 1) (v := .ref f) (C := R_Li) (T := F_Li) (N := 2) hx hb hg f_Li hown hK.1 hP 0 rfl rfl 0 (by decide) (hg _ q31) (fun _ h9 => h9) rfl d_Li_append_13 ?_
  refine va_alen (v := nI N) hx hb hK.1 hP 1 0 rfl rfl rfl d_Li_append_16 ?_
  refine lv_icmp_le (tgt := 21) hx hb d_Li_append_17 rfl (fun _ => ?_) (fun hz9 => absurd (nI_le (by omega) (by omega)) hz9)
  refine lv_aload_n hx hb d_Li_append_21 rfl (lv_at hl 1 rfl) ?_
  refine va_get (D := D) (ci := 1) (v := .ref f) (C := R_Li) (T := F_Li) (N := 2) hx hb hg f_Li hown hK.1 hP 0 rfl rfl 0 (by decide) (hg _ q31) (fun _ h9 => h9) rfl d_Li_append_22 ?_
  refine lv_iload hx hb d_Li_append_25 (lv_at hl 0 rfl) ?_
  refine lv_iload_n hx hb d_Li_append_27 rfl (lv_at hl 2 rfl) ?_
  refine xa_st hx hb hK hP hD hS 1 0 rfl rfl (kx := 4 * k) (rfl) (by omega) (by omega) d_Li_append_28 (fun H locs hP hD hS => ?_)
  have hP : va_P D cls [(h, .inr (1, [.ref f, .int (nI k)])), (f, .inl (cI, N, .inl (upd F (4 * k) u1)))] H := hP
  have hD : va_D A [(h, .inr (1, [.ref f, .int (nI k)])), (f, .inl (cI, N, .inl (upd F (4 * k) u1)))] := hD
  refine lv_aload_n hx hb d_Li_append_29 rfl (lv_at hl 1 rfl) ?_
  refine va_get (D := D) (ci := 1) (v := .ref f) (C := R_Li) (T := F_Li) (N := 2) hx hb hg f_Li hown hK.1 hP 0 rfl rfl 0 (by decide) (hg _ q31) (fun _ h9 => h9) rfl d_Li_append_30 ?_
  refine lv_iload hx hb d_Li_append_33 (lv_at hl 0 rfl) ?_
  refine lv_iconst (v := 1) hx hb d_Li_append_35 (by decide) ?_
  refine lv_iadd hx hb d_Li_append_36 ?_
  have eq9 : ((nI (4 * k)) + 1 : Int32) = nI (4 * k + 1) := nI_add (4 * k) 1
  refine W.eq (g2 := F0 m 37 ls [.int (nI (4 * k + 1)), .ref f]) (by rw [eq9]) ?_
  refine lv_iload_n hx hb d_Li_append_37 rfl (lv_at hl 3 rfl) ?_
  refine xa_st hx hb hK hP hD hS 1 0 rfl rfl (kx := 4 * k + 1) (rfl) (by omega) (by omega) d_Li_append_38 (fun H locs hP hD hS => ?_)
  have hP : va_P D cls [(h, .inr (1, [.ref f, .int (nI k)])), (f, .inl (cI, N, .inl (upd (upd F (4 * k) u1) (4 * k + 1) u2)))] H := hP
  have hD : va_D A [(h, .inr (1, [.ref f, .int (nI k)])), (f, .inl (cI, N, .inl (upd (upd F (4 * k) u1) (4 * k + 1) u2)))] := hD
  refine lv_aload_n hx hb d_Li_append_39 rfl (lv_at hl 1 rfl) ?_
  refine va_get (D := D) (ci := 1) (v := .ref f) (C := R_Li) (T := F_Li) (N := 2) hx hb hg f_Li hown hK.1 hP 0 rfl rfl 0 (by decide) (hg _ q31) (fun _ h9 => h9) rfl d_Li_append_40 ?_
  refine lv_iload hx hb d_Li_append_43 (lv_at hl 0 rfl) ?_
  refine lv_iconst (v := 2) hx hb d_Li_append_45 (by decide) ?_
  refine lv_iadd hx hb d_Li_append_46 ?_
  have eq9 : ((nI (4 * k)) + 2 : Int32) = nI (4 * k + 2) := nI_add (4 * k) 2
  refine W.eq (g2 := F0 m 47 ls [.int (nI (4 * k + 2)), .ref f]) (by rw [eq9]) ?_
  refine lv_iload_n hx hb d_Li_append_47 rfl (lv_at hl 4 rfl) ?_
  refine xa_st hx hb hK hP hD hS 1 0 rfl rfl (kx := 4 * k + 2) (rfl) (by omega) (by omega) d_Li_append_48 (fun H locs hP hD hS => ?_)
  have hP : va_P D cls [(h, .inr (1, [.ref f, .int (nI k)])), (f, .inl (cI, N, .inl (upd (upd (upd F (4 * k) u1) (4 * k + 1) u2) (4 * k + 2) u3)))] H := hP
  have hD : va_D A [(h, .inr (1, [.ref f, .int (nI k)])), (f, .inl (cI, N, .inl (upd (upd (upd F (4 * k) u1) (4 * k + 1) u2) (4 * k + 2) u3)))] := hD
  refine lv_aload_n hx hb d_Li_append_49 rfl (lv_at hl 1 rfl) ?_
  refine va_get (D := D) (ci := 1) (v := .ref f) (C := R_Li) (T := F_Li) (N := 2) hx hb hg f_Li hown hK.1 hP 0 rfl rfl 0 (by decide) (hg _ q31) (fun _ h9 => h9) rfl d_Li_append_50 ?_
  refine lv_iload hx hb d_Li_append_53 (lv_at hl 0 rfl) ?_
  refine lv_iconst (v := 3) hx hb d_Li_append_55 (by decide) ?_
  refine lv_iadd hx hb d_Li_append_56 ?_
  have eq9 : ((nI (4 * k)) + 3 : Int32) = nI (4 * k + 3) := nI_add (4 * k) 3
  refine W.eq (g2 := F0 m 57 ls [.int (nI (4 * k + 3)), .ref f]) (by rw [eq9]) ?_
  refine lv_iload hx hb d_Li_append_57 (lv_at hl 5 rfl) ?_
  refine xa_st hx hb hK hP hD hS 1 0 rfl rfl (kx := 4 * k + 3) (rfl) (by omega) (by omega) d_Li_append_59 (fun H locs hP hD hS => ?_)
  have hP : va_P D cls [(h, .inr (1, [.ref f, .int (nI k)])), (f, .inl (cI, N, .inl (upd (upd (upd (upd F (4 * k) u1) (4 * k + 1) u2) (4 * k + 2) u3) (4 * k + 3) u4)))] H := hP
  have hD : va_D A [(h, .inr (1, [.ref f, .int (nI k)])), (f, .inl (cI, N, .inl (upd (upd (upd (upd F (4 * k) u1) (4 * k + 1) u2) (4 * k + 2) u3) (4 * k + 3) u4)))] := hD
  refine lv_aload_n hx hb d_Li_append_60 rfl (lv_at hl 1 rfl) ?_
  refine lv_dup hx hb d_Li_append_61 rfl ?_
  refine va_get (D := D) (ci := 1) (v := .int (nI k)) (C := R_Li) (T := F_Li) (N := 2) hx hb hg f_Li hown hK.1 hP 0 rfl rfl 1 (by decide) (hg _ q32) (fun _ h9 => h9) rfl d_Li_append_62 ?_
  refine lv_iconst (v := 1) hx hb d_Li_append_65 (by decide) ?_
  refine lv_iadd hx hb d_Li_append_66 ?_
  have eq9 : ((nI k) + 1 : Int32) = nI (k + 1) := nI_add k 1
  refine W.eq (g2 := F0 m 67 ls [.int (nI (k + 1)), .ref h]) (by rw [eq9]) ?_
  refine va_put (D := D) (ci := 1) (v := .int (nI (k + 1))) (ty := .int) (C := R_Li) (T := F_Li) (N := 2) hx hb hg f_Li t_Li t_Li_ok n_Li hown hK.1 hP hD hS 0 rfl rfl 1 (by decide) (hg _ q32) (fun _ h9 => h9) rfl (by decide +kernel) rfl rfl (Nat.le_of_ble_eq_true rfl) d_Li_append_67 (fun H locs hP hD hS => ?_)
  have hP : va_P D cls [(h, .inr (1, [.ref f, .int (nI (k + 1))])), (f, .inl (cI, N, .inl (upd (upd (upd (upd F (4 * k) u1) (4 * k + 1) u2) (4 * k + 2) u3) (4 * k + 3) u4)))] H := hP
  have hD : va_D A [(h, .inr (1, [.ref f, .int (nI (k + 1))])), (f, .inl (cI, N, .inl (upd (upd (upd (upd F (4 * k) u1) (4 * k + 1) u2) (4 * k + 2) u3) (4 * k + 3) u4)))] := hD
  have ew1 : upd (upd (upd (upd F (4 * k) u1) (4 * k + 1) u2) (4 * k + 2) u3) (4 * k + 3) u4 = tm_w4 F k u1 u2 u3 u4 := by first | rfl | simp [tm_w4]
  have hP : va_P D cls [(h, .inr (1, [.ref f, .int (nI (k + 1))])), (f, .inl (cI, N, .inl (tm_w4 F k u1 u2 u3 u4)))] H := by rw [← ew1]; exact hP
  have hD : va_D A [(h, .inr (1, [.ref f, .int (nI (k + 1))])), (f, .inl (cI, N, .inl (tm_w4 F k u1 u2 u3 u4)))] := by rw [← ew1]; exact hD
  exact W.vret hx hb hr (fun t9 ht9 hW9 => ⟨⟨(), rfl, trivial, by rw [ht9]; exact hP, hD⟩, hS.F ht9⟩) hS.2.2 d_Li_append_70

set_option maxHeartbeats 4000000 in
set_option maxRecDepth 100000 in
theorem c_Li_drop (l : Launch) (D : va_G) (cI cZ cJ : ClassId) (h f N : Nat) (F : Nat → Int32) (cn : Int32) : xw_Met l y_Li_drop b_Li_drop 1 none { frames := 0, cells := 0, slots := 0, locals := 0 } [.ref h] D cls (tyL cI cZ cJ) [(h, .inr (1, [.ref f, .int cn])), (f, .inl (cI, N, .inl F))] [(h, .inr (1, [.ref f, .int 0])), (f, .inl (cI, N, .inl F))] := by
  intro sz
  refine Met.ofW (cc := b_Li_drop) (maxL := 1) (ret := none) (by decide) rfl ?_
  intro p e s m args below meth c s₁ B0 hml hv
  obtain ⟨rfl, hsz, hP, hK, hD0⟩ := hv
  have hx := B0.exec
  have hb := B0.bytes
  have hr := B0.returns
  have hlocks := B0.notSynchronized
  have hg : ∀ w ∈ gG, w.before _ s = true := fun w h => atoms_spec B0.pre w (List.mem_cons_of_mem _ h)
  have hown : s.vm.findClass R_Li = some m.cls := findClass_of_methodNamed B0.named
  subst hsz
  have hD := hD0.self (sz := s.heap.size)
  generalize hAe : va_A [(h, .inr (1, [.ref f, .int cn])), (f, .inl (cI, N, .inl F))] s.heap.size = A at hD ⊢
  have hA : ∀ q : Nat, s.heap.size ≤ q → A q := fun q h => by rw [← hAe]; exact Or.inr h
  have hS : va_S A s.heap s.heap [] := va_S.rf
  have hP : va_P D cls [(h, .inr (1, [.ref f, .int cn])), (f, .inl (cI, N, .inl F))] s.heap := hP
  have hl := lv_entry ([.ref h]) (n := 1) (Nat.le_of_ble_eq_true rfl)
  rw [lg_entry_eq]
  generalize (lg_sl ([.ref h]) ++ List.replicate (1 - (lg_sl ([.ref h])).length) Slot.unset).toArray = ls at hl ⊢
  have hl : lv_has ls 1 [(0, .ref h)] := hl
  refine lv_aload_n hx hb d_Li_drop_0 rfl (lv_at hl 0 rfl) ?_
  refine lv_iconst (v := 0) hx hb d_Li_drop_1 (by decide) ?_
  refine va_put (D := D) (ci := 1) (v := .int 0) (ty := .int) (C := R_Li) (T := F_Li) (N := 2) hx hb hg f_Li t_Li t_Li_ok n_Li hown hK.1 hP hD hS 0 rfl rfl 1 (by decide) (hg _ q32) (fun _ h9 => h9) rfl (by decide +kernel) rfl rfl (Nat.le_of_ble_eq_true rfl) d_Li_drop_2 (fun H locs hP hD hS => ?_)
  have hP : va_P D cls [(h, .inr (1, [.ref f, .int 0])), (f, .inl (cI, N, .inl F))] H := hP
  have hD : va_D A [(h, .inr (1, [.ref f, .int 0])), (f, .inl (cI, N, .inl F))] := hD
  have hP : va_P D cls [(h, .inr (1, [.ref f, .int 0])), (f, .inl (cI, N, .inl F))] H := by exact hP
  have hD : va_D A [(h, .inr (1, [.ref f, .int 0])), (f, .inl (cI, N, .inl F))] := by exact hD
  exact W.vret hx hb hr (fun t9 ht9 hW9 => ⟨⟨(), rfl, trivial, by rw [ht9]; exact hP, hD⟩, hS.F ht9⟩) hS.2.2 d_Li_drop_5
