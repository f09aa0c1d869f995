/-! MACHINES: the small methods, on a source (So) and on a target (Ta) (printed by wip/whole/gen/c12.py) -/
set_option maxHeartbeats 4000000 in
set_option maxRecDepth 100000 in
theorem c_Ma_wrapped (l : Launch) (D : va_G) (cI cZ cJ : ClassId) (x : Int32) : xr_Met l y_Ma_wrapped b_Ma_wrapped 1 (some .int) { frames := 0, cells := 0, slots := 0, locals := 0 } [.int x] (xb D cls [] (tyL cI cZ cJ)) (tm_wr x) := by
  refine Met.ofW (cc := b_Ma_wrapped) (maxL := 1) (ret := (some .int)) (by decide) rfl ?_
  intro p e s m args below meth c s₁ B0 hml hv
  obtain ⟨rfl, hP, hK⟩ := hv
  have hx := B0.exec
  have hb := B0.bytes
  have hr := B0.returns
  have hlocks := B0.notSynchronized
  have hg : ∀ w ∈ gG, w.before _ s = true := fun w h => atoms_spec B0.pre w (List.mem_cons_of_mem _ h)
  have hown : s.vm.findClass R_Ma = some m.cls := findClass_of_methodNamed B0.named
  have hP : va_P D cls [] s.heap := hP
  have hl := lv_entry ([.int x]) (n := 1) (Nat.le_of_ble_eq_true rfl)
  rw [lg_entry_eq]
  generalize (lg_sl ([.int x]) ++ List.replicate (1 - (lg_sl ([.int x])).length) Slot.unset).toArray = ls at hl ⊢
  have hl : lv_has ls 1 [(0, .int x)] := hl
  refine lv_iload_n hx hb d_Ma_wrapped_0 rfl (lv_at hl 0 rfl) ?_
  refine lv_i2s (v := tm_wr x) hx hb d_Ma_wrapped_1 rfl ?_
  exact W.iret (v := tm_wr x) hx hb hr (fun t9 ht9 hW9 => ⟨tm_wr x, rfl, rfl, ht9⟩) (fun _ h => by cases h) d_Ma_wrapped_2

set_option maxHeartbeats 4000000 in
set_option maxRecDepth 100000 in
theorem c_Ta_unsigned (l : Launch) (D : va_G) (cI cZ cJ : ClassId) (x : Int32) : xr_Met l y_Ta_unsigned b_Ta_unsigned 1 (some .int) { frames := 0, cells := 0, slots := 0, locals := 0 } [.int x] (xb D cls [] (tyL cI cZ cJ)) (x &&& 65535) := by
  refine Met.ofW (cc := b_Ta_unsigned) (maxL := 1) (ret := (some .int)) (by decide) rfl ?_
  intro p e s m args below meth c s₁ B0 hml hv
  obtain ⟨rfl, hP, hK⟩ := hv
  have hx := B0.exec
  have hb := B0.bytes
  have hr := B0.returns
  have hlocks := B0.notSynchronized
  have hg : ∀ w ∈ gG, w.before _ s = true := fun w h => atoms_spec B0.pre w (List.mem_cons_of_mem _ h)
  have hown : s.vm.findClass R_Ta = some m.cls := findClass_of_methodNamed B0.named
  have hP : va_P D cls [] s.heap := hP
  have hl := lv_entry ([.int x]) (n := 1) (Nat.le_of_ble_eq_true rfl)
  rw [lg_entry_eq]
  generalize (lg_sl ([.int x]) ++ List.replicate (1 - (lg_sl ([.int x])).length) Slot.unset).toArray = ls at hl ⊢
  have hl : lv_has ls 1 [(0, .int x)] := hl
  refine lv_iload_n hx hb d_Ta_unsigned_0 rfl (lv_at hl 0 rfl) ?_
  refine lv_ldc hx hb hown (hg _ q542) d_Ta_unsigned_1 ?_
  refine lv_iand hx hb d_Ta_unsigned_3 ?_
  exact W.iret (v := x &&& 65535) hx hb hr (fun t9 ht9 hW9 => ⟨x &&& 65535, rfl, rfl, ht9⟩) (fun _ h => by cases h) d_Ta_unsigned_4

set_option maxHeartbeats 4000000 in
set_option maxRecDepth 100000 in
theorem c_Ma_calculated (l : Launch) (D : va_G) (cI cZ cJ : ClassId) (v : Nat) (x y : Int32) (hv : v ≤ 13) : xr_Met l y_Ma_calculated b_Ma_calculated 3 (some .int) { frames := 1, cells := 0, slots := 0, locals := 20 } [.int (nI v), .int x, .int y] (xb D cls [] (tyL cI cZ cJ)) (tm_calc (nI v) x y) := by
  refine Met.ofW (cc := b_Ma_calculated) (maxL := 3) (ret := (some .int)) (by decide) rfl ?_
  intro p e s m args below meth c s₁ B0 hml hv
  obtain ⟨rfl, hP, hK⟩ := hv
  have hx := B0.exec
  have hb := B0.bytes
  have hr := B0.returns
  have hlocks := B0.notSynchronized
  have hg : ∀ w ∈ gG, w.before _ s = true := fun w h => atoms_spec B0.pre w (List.mem_cons_of_mem _ h)
  have hown : s.vm.findClass R_Ma = some m.cls := findClass_of_methodNamed B0.named
  have hP : va_P D cls [] s.heap := hP
  have hl := lv_entry ([.int (nI v), .int x, .int y]) (n := 3) (Nat.le_of_ble_eq_true rfl)
  rw [lg_entry_eq]
  generalize (lg_sl ([.int (nI v), .int x, .int y]) ++ List.replicate (3 - (lg_sl ([.int (nI v), .int x, .int y])).length) Slot.unset).toArray = ls at hl ⊢
  have hl : lv_has ls 3 [(0, .int (nI v)), (1, .int x), (2, .int y)] := hl
  refine lv_iload_n hx hb d_Ma_calculated_0 rfl (lv_at hl 0 rfl) ?_
  rcases (show v = 2 ∨ v = 3 ∨ v = 4 ∨ v = 5 ∨ v = 6 ∨ v < 2 ∨ 6 < v by omega) with e0 | e0 | e0 | e0 | e0 | e0 | e0
  · subst e0
    have hvv : nI 2 = (2 : Int32) := rfl
    refine lv_tableIn (x := nI 2) (off := 35) (tgt := 36) hx hb d_Ma_calculated_1 (by decide) (by decide) rfl rfl ?_
    refine lv_iload_n hx hb d_Ma_calculated_36 rfl (lv_at hl 1 rfl) ?_
    refine lv_iload_n hx hb d_Ma_calculated_37 rfl (lv_at hl 2 rfl) ?_
    refine lv_isub hx hb d_Ma_calculated_38 ?_
    refine xr_S (As := [.int (x - y)]) (rest := []) ⟨hx, hb, hml, hown, hg⟩ (c_Ma_wrapped l D cI cZ cJ (x - y)) m_Ma_wrapped q482 ⟨rfl, rfl⟩ ⟨Nat.le_of_ble_eq_true rfl, Nat.le_of_ble_eq_true rfl⟩ hK hP [] rfl rfl hl.1 rfl (Nat.le_of_ble_eq_true rfl) d_Ma_calculated_39 ⟨Nat.zero_le _, Nat.zero_le _⟩ ?_
    exact W.iret (v := tm_wr (x - y)) hx hb hr (fun t9 ht9 hW9 => ⟨tm_wr (x - y), rfl, by simp [tm_calc, hvv], ht9⟩) (fun _ h => by cases h) d_Ma_calculated_42
  · subst e0
    have hvv : nI 3 = (3 : Int32) := rfl
    refine lv_tableIn (x := nI 3) (off := 42) (tgt := 43) hx hb d_Ma_calculated_1 (by decide) (by decide) rfl rfl ?_
    refine lv_iload_n hx hb d_Ma_calculated_43 rfl (lv_at hl 1 rfl) ?_
    refine lv_iload_n hx hb d_Ma_calculated_44 rfl (lv_at hl 2 rfl) ?_
    refine lv_iand hx hb d_Ma_calculated_45 ?_
    exact W.iret (v := x &&& y) hx hb hr (fun t9 ht9 hW9 => ⟨x &&& y, rfl, by simp [tm_calc, hvv], ht9⟩) (fun _ h => by cases h) d_Ma_calculated_46
  · subst e0
    have hvv : nI 4 = (4 : Int32) := rfl
    refine lv_tableIn (x := nI 4) (off := 46) (tgt := 47) hx hb d_Ma_calculated_1 (by decide) (by decide) rfl rfl ?_
    refine lv_iload_n hx hb d_Ma_calculated_47 rfl (lv_at hl 1 rfl) ?_
    refine lv_iload_n hx hb d_Ma_calculated_48 rfl (lv_at hl 2 rfl) ?_
    refine lv_icmp_ge (tgt := 56) hx hb d_Ma_calculated_49 rfl (fun hc => ?_) (fun hc => ?_)
    · have hc := Int32.not_lt.mpr hc
      refine lv_iconst (v := 0) hx hb d_Ma_calculated_56 (by decide) ?_
      exact W.iret (v := 0) hx hb hr (fun t9 ht9 hW9 => ⟨0, rfl, by simp [tm_calc, hvv, hc], ht9⟩) (fun _ h => by cases h) d_Ma_calculated_57
    · have hc := Int32.not_le.mp hc
      refine lv_iconst (v := 1) hx hb d_Ma_calculated_52 (by decide) ?_
      refine lv_goto (tgt := 57) hx hb d_Ma_calculated_53 rfl ?_
      exact W.iret (v := 1) hx hb hr (fun t9 ht9 hW9 => ⟨1, rfl, by simp [tm_calc, hvv, hc], ht9⟩) (fun _ h => by cases h) d_Ma_calculated_57
  · subst e0
    have hvv : nI 5 = (5 : Int32) := rfl
    refine lv_tableIn (x := nI 5) (off := 66) (tgt := 67) hx hb d_Ma_calculated_1 (by decide) (by decide) rfl rfl ?_
    refine lv_iload_n hx hb d_Ma_calculated_67 rfl (lv_at hl 1 rfl) ?_
    refine lv_iload_n hx hb d_Ma_calculated_68 rfl (lv_at hl 2 rfl) ?_
    refine lv_iadd hx hb d_Ma_calculated_69 ?_
    refine xr_S (As := [.int (x + y)]) (rest := []) ⟨hx, hb, hml, hown, hg⟩ (c_Ma_wrapped l D cI cZ cJ (x + y)) m_Ma_wrapped q482 ⟨rfl, rfl⟩ ⟨Nat.le_of_ble_eq_true rfl, Nat.le_of_ble_eq_true rfl⟩ hK hP [] rfl rfl hl.1 rfl (Nat.le_of_ble_eq_true rfl) d_Ma_calculated_70 ⟨Nat.zero_le _, Nat.zero_le _⟩ ?_
    exact W.iret (v := tm_wr (x + y)) hx hb hr (fun t9 ht9 hW9 => ⟨tm_wr (x + y), rfl, by simp [tm_calc, hvv], ht9⟩) (fun _ h => by cases h) d_Ma_calculated_73
  · subst e0
    have hvv : nI 6 = (6 : Int32) := rfl
    refine lv_tableIn (x := nI 6) (off := 57) (tgt := 58) hx hb d_Ma_calculated_1 (by decide) (by decide) rfl rfl ?_
    refine lv_sipush (v := 256) hx hb d_Ma_calculated_58 (by decide) ?_
    refine lv_iload_n hx hb d_Ma_calculated_61 rfl (lv_at hl 2 rfl) ?_
    refine lv_imul hx hb d_Ma_calculated_62 ?_
    refine xr_S (As := [.int (256 * y)]) (rest := []) ⟨hx, hb, hml, hown, hg⟩ (c_Ma_wrapped l D cI cZ cJ (256 * y)) m_Ma_wrapped q482 ⟨rfl, rfl⟩ ⟨Nat.le_of_ble_eq_true rfl, Nat.le_of_ble_eq_true rfl⟩ hK hP [] rfl rfl hl.1 rfl (Nat.le_of_ble_eq_true rfl) d_Ma_calculated_63 ⟨Nat.zero_le _, Nat.zero_le _⟩ ?_
    exact W.iret (v := tm_wr (256 * y)) hx hb hr (fun t9 ht9 hW9 => ⟨tm_wr (256 * y), rfl, by simp [tm_calc, hvv], ht9⟩) (fun _ h => by cases h) d_Ma_calculated_66
  · have hti : (nI v).toInt = (v : Int) := nI_toInt (by omega)
    have n2 : ¬ nI v = 2 := xn_ne (w := 2) (by omega) (by decide) (by omega)
    have n3 : ¬ nI v = 3 := xn_ne (w := 3) (by omega) (by decide) (by omega)
    have n4 : ¬ nI v = 4 := xn_ne (w := 4) (by omega) (by decide) (by omega)
    have n6 : ¬ nI v = 6 := xn_ne (w := 6) (by omega) (by decide) (by omega)
    refine lv_tableOut (x := nI v) (tgt := 67) hx hb d_Ma_calculated_1 (Or.inl (by rw [hti]; omega)) rfl ?_
    refine lv_iload_n hx hb d_Ma_calculated_67 rfl (lv_at hl 1 rfl) ?_
    refine lv_iload_n hx hb d_Ma_calculated_68 rfl (lv_at hl 2 rfl) ?_
    refine lv_iadd hx hb d_Ma_calculated_69 ?_
    refine xr_S (As := [.int (x + y)]) (rest := []) ⟨hx, hb, hml, hown, hg⟩ (c_Ma_wrapped l D cI cZ cJ (x + y)) m_Ma_wrapped q482 ⟨rfl, rfl⟩ ⟨Nat.le_of_ble_eq_true rfl, Nat.le_of_ble_eq_true rfl⟩ hK hP [] rfl rfl hl.1 rfl (Nat.le_of_ble_eq_true rfl) d_Ma_calculated_70 ⟨Nat.zero_le _, Nat.zero_le _⟩ ?_
    exact W.iret (v := tm_wr (x + y)) hx hb hr (fun t9 ht9 hW9 => ⟨tm_wr (x + y), rfl, by simp [tm_calc, n2, n3, n4, n6], ht9⟩) (fun _ h => by cases h) d_Ma_calculated_73
  · have hti : (nI v).toInt = (v : Int) := nI_toInt (by omega)
    have n2 : ¬ nI v = 2 := xn_ne (w := 2) (by omega) (by decide) (by omega)
    have n3 : ¬ nI v = 3 := xn_ne (w := 3) (by omega) (by decide) (by omega)
    have n4 : ¬ nI v = 4 := xn_ne (w := 4) (by omega) (by decide) (by omega)
    have n6 : ¬ nI v = 6 := xn_ne (w := 6) (by omega) (by decide) (by omega)
    refine lv_tableOut (x := nI v) (tgt := 67) hx hb d_Ma_calculated_1 (Or.inr (by rw [hti]; omega)) rfl ?_
    refine lv_iload_n hx hb d_Ma_calculated_67 rfl (lv_at hl 1 rfl) ?_
    refine lv_iload_n hx hb d_Ma_calculated_68 rfl (lv_at hl 2 rfl) ?_
    refine lv_iadd hx hb d_Ma_calculated_69 ?_
    refine xr_S (As := [.int (x + y)]) (rest := []) ⟨hx, hb, hml, hown, hg⟩ (c_Ma_wrapped l D cI cZ cJ (x + y)) m_Ma_wrapped q482 ⟨rfl, rfl⟩ ⟨Nat.le_of_ble_eq_true rfl, Nat.le_of_ble_eq_true rfl⟩ hK hP [] rfl rfl hl.1 rfl (Nat.le_of_ble_eq_true rfl) d_Ma_calculated_70 ⟨Nat.zero_le _, Nat.zero_le _⟩ ?_
    exact W.iret (v := tm_wr (x + y)) hx hb hr (fun t9 ht9 hW9 => ⟨tm_wr (x + y), rfl, by simp [tm_calc, n2, n3, n4, n6], ht9⟩) (fun _ h => by cases h) d_Ma_calculated_73

set_option maxHeartbeats 4000000 in
set_option maxRecDepth 100000 in
theorem c_So_setRegister (l : Launch) (D : va_G) (cI cZ cJ : ClassId) (mo li ra ca aa lf : Nat) (Rg Ce Ac F : Nat → Int32) (n kp : Nat) (dn en nx : Int32) (he : Int32) (a : Nat) (v : Int32) (ha : a < 8) : xw_Met l y_Ma_setRegister b_Ma_setRegister 3 none { frames := 0, cells := 0, slots := 0, locals := 0 } [.ref mo, .int (nI a), .int v] D cls (tyL cI cZ cJ) [(mo, .inr (3, [.ref li, .ref ra, .ref ca, .ref aa, .int (nI kp), .int he, .int dn, .int en, .int nx])), (ra, .inl (cI, 8, .inl Rg)), (ca, .inl (cI, 32, .inl Ce)), (aa, .inl (cI, 120, .inl Ac)), (li, .inr (1, [.ref lf, .int (nI n)])), (lf, .inl (cI, 96, .inl F))] [(mo, .inr (3, [.ref li, .ref ra, .ref ca, .ref aa, .int (nI kp), .int he, .int dn, .int en, .int nx])), (ra, .inl (cI, 8, .inl (tm_set Rg (nI a) v))), (ca, .inl (cI, 32, .inl Ce)), (aa, .inl (cI, 120, .inl Ac)), (li, .inr (1, [.ref lf, .int (nI n)])), (lf, .inl (cI, 96, .inl F))] := by
  intro sz
  refine Met.ofW (cc := b_Ma_setRegister) (maxL := 3) (ret := none) (by decide) rfl ?_
  intro p e s m args below meth c s₁ B0 hml hv
  obtain ⟨rfl, hsz, hP, hK, hD0⟩ := hv
  have hx := B0.exec
  have hb := B0.bytes
  have hr := B0.returns
  have hlocks := B0.notSynchronized
  have hg : ∀ w ∈ gG, w.before _ s = true := fun w h => atoms_spec B0.pre w (List.mem_cons_of_mem _ h)
  have hown : s.vm.findClass R_Ma = some m.cls := findClass_of_methodNamed B0.named
  subst hsz
  have hD := hD0.self (sz := s.heap.size)
  generalize hAe : va_A [(mo, .inr (3, [.ref li, .ref ra, .ref ca, .ref aa, .int (nI kp), .int he, .int dn, .int en, .int nx])), (ra, .inl (cI, 8, .inl Rg)), (ca, .inl (cI, 32, .inl Ce)), (aa, .inl (cI, 120, .inl Ac)), (li, .inr (1, [.ref lf, .int (nI n)])), (lf, .inl (cI, 96, .inl F))] s.heap.size = A at hD ⊢
  have hA : ∀ q : Nat, s.heap.size ≤ q → A q := fun q h => by rw [← hAe]; exact Or.inr h
  have hS : va_S A s.heap s.heap [] := va_S.rf
  have hP : va_P D cls [(mo, .inr (3, [.ref li, .ref ra, .ref ca, .ref aa, .int (nI kp), .int he, .int dn, .int en, .int nx])), (ra, .inl (cI, 8, .inl Rg)), (ca, .inl (cI, 32, .inl Ce)), (aa, .inl (cI, 120, .inl Ac)), (li, .inr (1, [.ref lf, .int (nI n)])), (lf, .inl (cI, 96, .inl F))] s.heap := hP
  have hl := lv_entry ([.ref mo, .int (nI a), .int v]) (n := 3) (Nat.le_of_ble_eq_true rfl)
  rw [lg_entry_eq]
  generalize (lg_sl ([.ref mo, .int (nI a), .int v]) ++ List.replicate (3 - (lg_sl ([.ref mo, .int (nI a), .int v])).length) Slot.unset).toArray = ls at hl ⊢
  have hl : lv_has ls 3 [(0, .ref mo), (1, .int (nI a)), (2, .int v)] := hl
  have hc_a : (nI a).toNatClampNeg = a := nI_clamp (by omega)
  refine lv_iload_n hx hb d_Ma_setRegister_0 rfl (lv_at hl 1 rfl) ?_
  refine lv_if_eq (tgt := 11) hx hb d_Ma_setRegister_1 rfl (fun h56 => ?_) (fun h56 => ?_)
  · have ew1 : Rg = tm_set Rg (nI a) v := by first | rfl | simp [tm_set, hc_a, h56]
    have hP : va_P D cls [(mo, .inr (3, [.ref li, .ref ra, .ref ca, .ref aa, .int (nI kp), .int he, .int dn, .int en, .int nx])), (ra, .inl (cI, 8, .inl (tm_set Rg (nI a) v))), (ca, .inl (cI, 32, .inl Ce)), (aa, .inl (cI, 120, .inl Ac)), (li, .inr (1, [.ref lf, .int (nI n)])), (lf, .inl (cI, 96, .inl F))] s.heap := by rw [← ew1]; exact hP
    have hD : va_D A [(mo, .inr (3, [.ref li, .ref ra, .ref ca, .ref aa, .int (nI kp), .int he, .int dn, .int en, .int nx])), (ra, .inl (cI, 8, .inl (tm_set Rg (nI a) v))), (ca, .inl (cI, 32, .inl Ce)), (aa, .inl (cI, 120, .inl Ac)), (li, .inr (1, [.ref lf, .int (nI n)])), (lf, .inl (cI, 96, .inl F))] := by rw [← ew1]; exact hD
    exact W.vret hx hb hr (fun t9 ht9 hW9 => ⟨⟨(), rfl, trivial, by rw [ht9]; exact hP, hD⟩, hS.F ht9⟩) hS.2.2 d_Ma_setRegister_11
  · refine lv_aload_n hx hb d_Ma_setRegister_4 rfl (lv_at hl 0 rfl) ?_
    refine va_get (D := D) (ci := 3) (v := .ref ra) (C := R_So) (T := F_So) (N := 9) hx hb hg f_So hown hK.1 hP 0 rfl rfl 1 (by decide) (hg _ q80) (fun _ h9 => h9) rfl d_Ma_setRegister_5 ?_
    refine lv_iload_n hx hb d_Ma_setRegister_8 rfl (lv_at hl 1 rfl) ?_
    refine lv_iload_n hx hb d_Ma_setRegister_9 rfl (lv_at hl 2 rfl) ?_
    refine xa_st hx hb hK hP hD hS 1 0 rfl rfl (kx := a) (rfl) (by omega) (by decide) d_Ma_setRegister_10 (fun H locs hP hD hS => ?_)
    have hP : va_P D cls [(mo, .inr (3, [.ref li, .ref ra, .ref ca, .ref aa, .int (nI kp), .int he, .int dn, .int en, .int nx])), (ra, .inl (cI, 8, .inl (upd Rg a v))), (ca, .inl (cI, 32, .inl Ce)), (aa, .inl (cI, 120, .inl Ac)), (li, .inr (1, [.ref lf, .int (nI n)])), (lf, .inl (cI, 96, .inl F))] H := hP
    have hD : va_D A [(mo, .inr (3, [.ref li, .ref ra, .ref ca, .ref aa, .int (nI kp), .int he, .int dn, .int en, .int nx])), (ra, .inl (cI, 8, .inl (upd Rg a v))), (ca, .inl (cI, 32, .inl Ce)), (aa, .inl (cI, 120, .inl Ac)), (li, .inr (1, [.ref lf, .int (nI n)])), (lf, .inl (cI, 96, .inl F))] := hD
    have ew1 : upd Rg a v = tm_set Rg (nI a) v := by first | rfl | simp [tm_set, hc_a, h56]
    have hP : va_P D cls [(mo, .inr (3, [.ref li, .ref ra, .ref ca, .ref aa, .int (nI kp), .int he, .int dn, .int en, .int nx])), (ra, .inl (cI, 8, .inl (tm_set Rg (nI a) v))), (ca, .inl (cI, 32, .inl Ce)), (aa, .inl (cI, 120, .inl Ac)), (li, .inr (1, [.ref lf, .int (nI n)])), (lf, .inl (cI, 96, .inl F))] H := by rw [← ew1]; exact hP
    have hD : va_D A [(mo, .inr (3, [.ref li, .ref ra, .ref ca, .ref aa, .int (nI kp), .int he, .int dn, .int en, .int nx])), (ra, .inl (cI, 8, .inl (tm_set Rg (nI a) v))), (ca, .inl (cI, 32, .inl Ce)), (aa, .inl (cI, 120, .inl Ac)), (li, .inr (1, [.ref lf, .int (nI n)])), (lf, .inl (cI, 96, .inl F))] := by rw [← ew1]; exact hD
    exact W.vret hx hb hr (fun t9 ht9 hW9 => ⟨⟨(), rfl, trivial, by rw [ht9]; exact hP, hD⟩, hS.F ht9⟩) hS.2.2 d_Ma_setRegister_11

set_option maxHeartbeats 4000000 in
set_option maxRecDepth 100000 in
theorem c_So_keepAccess (l : Launch) (D : va_G) (cI cZ cJ : ClassId) (mo li ra ca aa lf : Nat) (Rg Ce Ac F : Nat → Int32) (n kp : Nat) (dn en nx : Int32) (he : Int32) (u v w : Int32) (hkp : kp ≤ 40) : xw_Met l y_Ma_keepAccess b_Ma_keepAccess 5 none { frames := 0, cells := 0, slots := 0, locals := 0 } [.ref mo, .int u, .int v, .int w] D cls (tyL cI cZ cJ) [(mo, .inr (3, [.ref li, .ref ra, .ref ca, .ref aa, .int (nI kp), .int he, .int dn, .int en, .int nx])), (ra, .inl (cI, 8, .inl Rg)), (ca, .inl (cI, 32, .inl Ce)), (aa, .inl (cI, 120, .inl Ac)), (li, .inr (1, [.ref lf, .int (nI n)])), (lf, .inl (cI, 96, .inl F))] [(mo, .inr (3, [.ref li, .ref ra, .ref ca, .ref aa, .int (nI (tm_kk kp)), .int he, .int dn, .int en, .int nx])), (ra, .inl (cI, 8, .inl Rg)), (ca, .inl (cI, 32, .inl Ce)), (aa, .inl (cI, 120, .inl (tm_ka Ac kp u v w))), (li, .inr (1, [.ref lf, .int (nI n)])), (lf, .inl (cI, 96, .inl F))] := by
  intro sz
  refine Met.ofW (cc := b_Ma_keepAccess) (maxL := 5) (ret := none) (by decide) rfl ?_
  intro p e s m args below meth c s₁ B0 hml hv
  obtain ⟨rfl, hsz, hP, hK, hD0⟩ := hv
  have hx := B0.exec
  have hb := B0.bytes
  have hr := B0.returns
  have hlocks := B0.notSynchronized
  have hg : ∀ w ∈ gG, w.before _ s = true := fun w h => atoms_spec B0.pre w (List.mem_cons_of_mem _ h)
  have hown : s.vm.findClass R_Ma = some m.cls := findClass_of_methodNamed B0.named
  subst hsz
  have hD := hD0.self (sz := s.heap.size)
  generalize hAe : va_A [(mo, .inr (3, [.ref li, .ref ra, .ref ca, .ref aa, .int (nI kp), .int he, .int dn, .int en, .int nx])), (ra, .inl (cI, 8, .inl Rg)), (ca, .inl (cI, 32, .inl Ce)), (aa, .inl (cI, 120, .inl Ac)), (li, .inr (1, [.ref lf, .int (nI n)])), (lf, .inl (cI, 96, .inl F))] s.heap.size = A at hD ⊢
  have hA : ∀ q : Nat, s.heap.size ≤ q → A q := fun q h => by rw [← hAe]; exact Or.inr h
  have hS : va_S A s.heap s.heap [] := va_S.rf
  have hP : va_P D cls [(mo, .inr (3, [.ref li, .ref ra, .ref ca, .ref aa, .int (nI kp), .int he, .int dn, .int en, .int nx])), (ra, .inl (cI, 8, .inl Rg)), (ca, .inl (cI, 32, .inl Ce)), (aa, .inl (cI, 120, .inl Ac)), (li, .inr (1, [.ref lf, .int (nI n)])), (lf, .inl (cI, 96, .inl F))] s.heap := hP
  have hl := lv_entry ([.ref mo, .int u, .int v, .int w]) (n := 5) (Nat.le_of_ble_eq_true rfl)
  rw [lg_entry_eq]
  generalize (lg_sl ([.ref mo, .int u, .int v, .int w]) ++ List.replicate (5 - (lg_sl ([.ref mo, .int u, .int v, .int w])).length) Slot.unset).toArray = ls at hl ⊢
  have hl : lv_has ls 5 [(0, .ref mo), (1, .int u), (2, .int v), (3, .int w)] := hl
  refine lv_aload_n hx hb d_Ma_keepAccess_0 rfl (lv_at hl 0 rfl) ?_
  refine va_get (D := D) (ci := 3) (v := .int (nI kp)) (C := R_So) (T := F_So) (N := 9) hx hb hg f_So hown hK.1 hP 0 rfl rfl 4 (by decide) (hg _ q91) (fun _ h9 => h9) rfl d_Ma_keepAccess_1 ?_
  refine lv_bipush (v := 40) hx hb d_Ma_keepAccess_4 (by decide) ?_
  refine lv_icmp_lt (tgt := 10) hx hb d_Ma_keepAccess_6 rfl (fun hc => ?_) (fun hc => ?_)
  · have hc := Nat.not_le.mpr ((nI_ltI (a := kp) (b := 40) (by omega) (by decide)).mp hc)
    refine lv_iconst (v := 3) hx hb d_Ma_keepAccess_10 (by decide) ?_
    refine lv_aload_n hx hb d_Ma_keepAccess_11 rfl (lv_at hl 0 rfl) ?_
    refine va_get (D := D) (ci := 3) (v := .int (nI kp)) (C := R_So) (T := F_So) (N := 9) hx hb hg f_So hown hK.1 hP 0 rfl rfl 4 (by decide) (hg _ q91) (fun _ h9 => h9) rfl d_Ma_keepAccess_12 ?_
    refine lv_imul hx hb d_Ma_keepAccess_15 ?_
    have eq9 : (3 * (nI kp) : Int32) = nI (3 * kp) := pk_mul 3 kp
    refine W.eq (g2 := F0 m 16 ls [.int (nI (3 * kp))]) (by rw [eq9]) ?_
    refine lv_istore hx hb d_Ma_keepAccess_16 hl (by decide) rfl (fun ls hl => ?_)
    have hl : lv_has ls 5 [(4, .int (nI (3 * kp))), (0, .ref mo), (1, .int u), (2, .int v), (3, .int w)] := hl
    refine lv_aload_n hx hb d_Ma_keepAccess_18 rfl (lv_at hl 1 rfl) ?_
    refine va_get (D := D) (ci := 3) (v := .ref aa) (C := R_So) (T := F_So) (N := 9) hx hb hg f_So hown hK.1 hP 0 rfl rfl 3 (by decide) (hg _ q89) (fun _ h9 => h9) rfl d_Ma_keepAccess_19 ?_
    refine lv_iload hx hb d_Ma_keepAccess_22 (lv_at hl 0 rfl) ?_
    refine lv_iload_n hx hb d_Ma_keepAccess_24 rfl (lv_at hl 2 rfl) ?_
    refine xa_st hx hb hK hP hD hS 3 0 rfl rfl (kx := 3 * kp) (rfl) (by omega) (by decide) d_Ma_keepAccess_25 (fun H locs hP hD hS => ?_)
    have hP : va_P D cls [(mo, .inr (3, [.ref li, .ref ra, .ref ca, .ref aa, .int (nI kp), .int he, .int dn, .int en, .int nx])), (ra, .inl (cI, 8, .inl Rg)), (ca, .inl (cI, 32, .inl Ce)), (aa, .inl (cI, 120, .inl (upd Ac (3 * kp) u))), (li, .inr (1, [.ref lf, .int (nI n)])), (lf, .inl (cI, 96, .inl F))] H := hP
    have hD : va_D A [(mo, .inr (3, [.ref li, .ref ra, .ref ca, .ref aa, .int (nI kp), .int he, .int dn, .int en, .int nx])), (ra, .inl (cI, 8, .inl Rg)), (ca, .inl (cI, 32, .inl Ce)), (aa, .inl (cI, 120, .inl (upd Ac (3 * kp) u))), (li, .inr (1, [.ref lf, .int (nI n)])), (lf, .inl (cI, 96, .inl F))] := hD
    refine lv_aload_n hx hb d_Ma_keepAccess_26 rfl (lv_at hl 1 rfl) ?_
    refine va_get (D := D) (ci := 3) (v := .ref aa) (C := R_So) (T := F_So) (N := 9) hx hb hg f_So hown hK.1 hP 0 rfl rfl 3 (by decide) (hg _ q89) (fun _ h9 => h9) rfl d_Ma_keepAccess_27 ?_
    refine lv_iload hx hb d_Ma_keepAccess_30 (lv_at hl 0 rfl) ?_
    refine lv_iconst (v := 1) hx hb d_Ma_keepAccess_32 (by decide) ?_
    refine lv_iadd hx hb d_Ma_keepAccess_33 ?_
    have eq9 : ((nI (3 * kp)) + 1 : Int32) = nI (3 * kp + 1) := nI_add (3 * kp) 1
    refine W.eq (g2 := F0 m 34 ls [.int (nI (3 * kp + 1)), .ref aa]) (by rw [eq9]) ?_
    refine lv_iload_n hx hb d_Ma_keepAccess_34 rfl (lv_at hl 3 rfl) ?_
    refine xa_st hx hb hK hP hD hS 3 0 rfl rfl (kx := 3 * kp + 1) (rfl) (by omega) (by decide) d_Ma_keepAccess_35 (fun H locs hP hD hS => ?_)
    have hP : va_P D cls [(mo, .inr (3, [.ref li, .ref ra, .ref ca, .ref aa, .int (nI kp), .int he, .int dn, .int en, .int nx])), (ra, .inl (cI, 8, .inl Rg)), (ca, .inl (cI, 32, .inl Ce)), (aa, .inl (cI, 120, .inl (upd (upd Ac (3 * kp) u) (3 * kp + 1) v))), (li, .inr (1, [.ref lf, .int (nI n)])), (lf, .inl (cI, 96, .inl F))] H := hP
    have hD : va_D A [(mo, .inr (3, [.ref li, .ref ra, .ref ca, .ref aa, .int (nI kp), .int he, .int dn, .int en, .int nx])), (ra, .inl (cI, 8, .inl Rg)), (ca, .inl (cI, 32, .inl Ce)), (aa, .inl (cI, 120, .inl (upd (upd Ac (3 * kp) u) (3 * kp + 1) v))), (li, .inr (1, [.ref lf, .int (nI n)])), (lf, .inl (cI, 96, .inl F))] := hD
    refine lv_aload_n hx hb d_Ma_keepAccess_36 rfl (lv_at hl 1 rfl) ?_
    refine va_get (D := D) (ci := 3) (v := .ref aa) (C := R_So) (T := F_So) (N := 9) hx hb hg f_So hown hK.1 hP 0 rfl rfl 3 (by decide) (hg _ q89) (fun _ h9 => h9) rfl d_Ma_keepAccess_37 ?_
    refine lv_iload hx hb d_Ma_keepAccess_40 (lv_at hl 0 rfl) ?_
    refine lv_iconst (v := 2) hx hb d_Ma_keepAccess_42 (by decide) ?_
    refine lv_iadd hx hb d_Ma_keepAccess_43 ?_
    have eq9 : ((nI (3 * kp)) + 2 : Int32) = nI (3 * kp + 2) := nI_add (3 * kp) 2
    refine W.eq (g2 := F0 m 44 ls [.int (nI (3 * kp + 2)), .ref aa]) (by rw [eq9]) ?_
    refine lv_iload_n hx hb d_Ma_keepAccess_44 rfl (lv_at hl 4 rfl) ?_
    refine xa_st hx hb hK hP hD hS 3 0 rfl rfl (kx := 3 * kp + 2) (rfl) (by omega) (by decide) d_Ma_keepAccess_45 (fun H locs hP hD hS => ?_)
    have hP : va_P D cls [(mo, .inr (3, [.ref li, .ref ra, .ref ca, .ref aa, .int (nI kp), .int he, .int dn, .int en, .int nx])), (ra, .inl (cI, 8, .inl Rg)), (ca, .inl (cI, 32, .inl Ce)), (aa, .inl (cI, 120, .inl (upd (upd (upd Ac (3 * kp) u) (3 * kp + 1) v) (3 * kp + 2) w))), (li, .inr (1, [.ref lf, .int (nI n)])), (lf, .inl (cI, 96, .inl F))] H := hP
    have hD : va_D A [(mo, .inr (3, [.ref li, .ref ra, .ref ca, .ref aa, .int (nI kp), .int he, .int dn, .int en, .int nx])), (ra, .inl (cI, 8, .inl Rg)), (ca, .inl (cI, 32, .inl Ce)), (aa, .inl (cI, 120, .inl (upd (upd (upd Ac (3 * kp) u) (3 * kp + 1) v) (3 * kp + 2) w))), (li, .inr (1, [.ref lf, .int (nI n)])), (lf, .inl (cI, 96, .inl F))] := hD
    refine lv_aload_n hx hb d_Ma_keepAccess_46 rfl (lv_at hl 1 rfl) ?_
    refine lv_dup hx hb d_Ma_keepAccess_47 rfl ?_
    refine va_get (D := D) (ci := 3) (v := .int (nI kp)) (C := R_So) (T := F_So) (N := 9) hx hb hg f_So hown hK.1 hP 0 rfl rfl 4 (by decide) (hg _ q91) (fun _ h9 => h9) rfl d_Ma_keepAccess_48 ?_
    refine lv_iconst (v := 1) hx hb d_Ma_keepAccess_51 (by decide) ?_
    refine lv_iadd hx hb d_Ma_keepAccess_52 ?_
    have eq9 : ((nI kp) + 1 : Int32) = nI (kp + 1) := nI_add kp 1
    refine W.eq (g2 := F0 m 53 ls [.int (nI (kp + 1)), .ref mo]) (by rw [eq9]) ?_
    refine va_put (D := D) (ci := 3) (v := .int (nI (kp + 1))) (ty := .int) (C := R_So) (T := F_So) (N := 9) hx hb hg f_So t_So t_So_ok n_So hown hK.1 hP hD hS 0 rfl rfl 4 (by decide) (hg _ q91) (fun _ h9 => h9) rfl (by decide +kernel) rfl rfl (Nat.le_of_ble_eq_true rfl) d_Ma_keepAccess_53 (fun H locs hP hD hS => ?_)
    have hP : va_P D cls [(mo, .inr (3, [.ref li, .ref ra, .ref ca, .ref aa, .int (nI (kp + 1)), .int he, .int dn, .int en, .int nx])), (ra, .inl (cI, 8, .inl Rg)), (ca, .inl (cI, 32, .inl Ce)), (aa, .inl (cI, 120, .inl (upd (upd (upd Ac (3 * kp) u) (3 * kp + 1) v) (3 * kp + 2) w))), (li, .inr (1, [.ref lf, .int (nI n)])), (lf, .inl (cI, 96, .inl F))] H := hP
    have hD : va_D A [(mo, .inr (3, [.ref li, .ref ra, .ref ca, .ref aa, .int (nI (kp + 1)), .int he, .int dn, .int en, .int nx])), (ra, .inl (cI, 8, .inl Rg)), (ca, .inl (cI, 32, .inl Ce)), (aa, .inl (cI, 120, .inl (upd (upd (upd Ac (3 * kp) u) (3 * kp + 1) v) (3 * kp + 2) w))), (li, .inr (1, [.ref lf, .int (nI n)])), (lf, .inl (cI, 96, .inl F))] := hD
    have ew1 : nI (kp + 1) = nI (tm_kk kp) := congrArg nI (by first | (simp [tm_ka, tm_kk, hc]; done) | (simp [tm_ka, tm_kk, hc]; omega) | omega)
    have ew2 : upd (upd (upd Ac (3 * kp) u) (3 * kp + 1) v) (3 * kp + 2) w = tm_ka Ac kp u v w := by first | rfl | simp [tm_ka, tm_kk, hc]
    have hP : va_P D cls [(mo, .inr (3, [.ref li, .ref ra, .ref ca, .ref aa, .int (nI (tm_kk kp)), .int he, .int dn, .int en, .int nx])), (ra, .inl (cI, 8, .inl Rg)), (ca, .inl (cI, 32, .inl Ce)), (aa, .inl (cI, 120, .inl (tm_ka Ac kp u v w))), (li, .inr (1, [.ref lf, .int (nI n)])), (lf, .inl (cI, 96, .inl F))] H := by rw [← ew1, ← ew2]; exact hP
    have hD : va_D A [(mo, .inr (3, [.ref li, .ref ra, .ref ca, .ref aa, .int (nI (tm_kk kp)), .int he, .int dn, .int en, .int nx])), (ra, .inl (cI, 8, .inl Rg)), (ca, .inl (cI, 32, .inl Ce)), (aa, .inl (cI, 120, .inl (tm_ka Ac kp u v w))), (li, .inr (1, [.ref lf, .int (nI n)])), (lf, .inl (cI, 96, .inl F))] := by rw [← ew1, ← ew2]; exact hD
    exact W.vret hx hb hr (fun t9 ht9 hW9 => ⟨⟨(), rfl, trivial, by rw [ht9]; exact hP, hD⟩, hS.F ht9⟩) hS.2.2 d_Ma_keepAccess_56
  · have hc := Nat.le_of_not_lt (mt (nI_ltI (a := kp) (b := 40) (by omega) (by decide)).mpr hc)
    have ew1 : nI kp = nI (tm_kk kp) := congrArg nI (by first | (simp [tm_ka, tm_kk, hc]; done) | (simp [tm_ka, tm_kk, hc]; omega) | omega)
    have ew2 : Ac = tm_ka Ac kp u v w := by first | rfl | simp [tm_ka, tm_kk, hc]
    have hP : va_P D cls [(mo, .inr (3, [.ref li, .ref ra, .ref ca, .ref aa, .int (nI (tm_kk kp)), .int he, .int dn, .int en, .int nx])), (ra, .inl (cI, 8, .inl Rg)), (ca, .inl (cI, 32, .inl Ce)), (aa, .inl (cI, 120, .inl (tm_ka Ac kp u v w))), (li, .inr (1, [.ref lf, .int (nI n)])), (lf, .inl (cI, 96, .inl F))] s.heap := by rw [← ew1, ← ew2]; exact hP
    have hD : va_D A [(mo, .inr (3, [.ref li, .ref ra, .ref ca, .ref aa, .int (nI (tm_kk kp)), .int he, .int dn, .int en, .int nx])), (ra, .inl (cI, 8, .inl Rg)), (ca, .inl (cI, 32, .inl Ce)), (aa, .inl (cI, 120, .inl (tm_ka Ac kp u v w))), (li, .inr (1, [.ref lf, .int (nI n)])), (lf, .inl (cI, 96, .inl F))] := by rw [← ew1, ← ew2]; exact hD
    exact W.vret hx hb hr (fun t9 ht9 hW9 => ⟨⟨(), rfl, trivial, by rw [ht9]; exact hP, hD⟩, hS.F ht9⟩) hS.2.2 d_Ma_keepAccess_9

set_option maxHeartbeats 4000000 in
set_option maxRecDepth 100000 in
theorem c_So_reachCell_out (l : Launch) (D : va_G) (cI cZ cJ : ClassId) (mo li ra ca aa lf : Nat) (Rg Ce Ac F : Nat → Int32) (n kp : Nat) (dn en nx : Int32) (he : Int32) (u v ad : Int32) (ho : ad < 0 ∨ nI 32 ≤ ad) : xi_Met l y_Ma_reachCell b_Ma_reachCell 5 (some .boolean) { frames := 0, cells := 0, slots := 0, locals := 0 } [.ref mo, .int u, .int v, .int ad] D cls (tyL cI cZ cJ) [(mo, .inr (3, [.ref li, .ref ra, .ref ca, .ref aa, .int (nI kp), .int he, .int dn, .int en, .int nx])), (ra, .inl (cI, 8, .inl Rg)), (ca, .inl (cI, 32, .inl Ce)), (aa, .inl (cI, 120, .inl Ac)), (li, .inr (1, [.ref lf, .int (nI n)])), (lf, .inl (cI, 96, .inl F))] [(mo, .inr (3, [.ref li, .ref ra, .ref ca, .ref aa, .int (nI kp), .int he, .int dn, .int en, .int nx])), (ra, .inl (cI, 8, .inl Rg)), (ca, .inl (cI, 32, .inl Ce)), (aa, .inl (cI, 120, .inl Ac)), (li, .inr (1, [.ref lf, .int (nI n)])), (lf, .inl (cI, 96, .inl F))] (0) := by
  intro sz
  refine Met.ofW (cc := b_Ma_reachCell) (maxL := 5) (ret := (some .boolean)) (by decide) rfl ?_
  intro p e s m args below meth c s₁ B0 hml hv
  obtain ⟨rfl, hsz, hP, hK, hD0⟩ := hv
  have hx := B0.exec
  have hb := B0.bytes
  have hr := B0.returns
  have hlocks := B0.notSynchronized
  have hg : ∀ w ∈ gG, w.before _ s = true := fun w h => atoms_spec B0.pre w (List.mem_cons_of_mem _ h)
  have hown : s.vm.findClass R_Ma = some m.cls := findClass_of_methodNamed B0.named
  subst hsz
  have hD := hD0.self (sz := s.heap.size)
  generalize hAe : va_A [(mo, .inr (3, [.ref li, .ref ra, .ref ca, .ref aa, .int (nI kp), .int he, .int dn, .int en, .int nx])), (ra, .inl (cI, 8, .inl Rg)), (ca, .inl (cI, 32, .inl Ce)), (aa, .inl (cI, 120, .inl Ac)), (li, .inr (1, [.ref lf, .int (nI n)])), (lf, .inl (cI, 96, .inl F))] s.heap.size = A at hD ⊢
  have hA : ∀ q : Nat, s.heap.size ≤ q → A q := fun q h => by rw [← hAe]; exact Or.inr h
  have hS : va_S A s.heap s.heap [] := va_S.rf
  have hP : va_P D cls [(mo, .inr (3, [.ref li, .ref ra, .ref ca, .ref aa, .int (nI kp), .int he, .int dn, .int en, .int nx])), (ra, .inl (cI, 8, .inl Rg)), (ca, .inl (cI, 32, .inl Ce)), (aa, .inl (cI, 120, .inl Ac)), (li, .inr (1, [.ref lf, .int (nI n)])), (lf, .inl (cI, 96, .inl F))] s.heap := hP
  have hl := lv_entry ([.ref mo, .int u, .int v, .int ad]) (n := 5) (Nat.le_of_ble_eq_true rfl)
  rw [lg_entry_eq]
  generalize (lg_sl ([.ref mo, .int u, .int v, .int ad]) ++ List.replicate (5 - (lg_sl ([.ref mo, .int u, .int v, .int ad])).length) Slot.unset).toArray = ls at hl ⊢
  have hl : lv_has ls 5 [(0, .ref mo), (1, .int u), (2, .int v), (3, .int ad)] := hl
  refine lv_iload_n hx hb d_Ma_reachCell_0 rfl (lv_at hl 3 rfl) ?_
  refine lv_if_lt (tgt := 13) hx hb d_Ma_reachCell_1 rfl (fun hb1 => ?_) (fun hb1 => ?_)
  · refine lv_iconst (v := 0) hx hb d_Ma_reachCell_13 (by decide) ?_
    have hP : va_P D cls [(mo, .inr (3, [.ref li, .ref ra, .ref ca, .ref aa, .int (nI kp), .int he, .int dn, .int en, .int nx])), (ra, .inl (cI, 8, .inl Rg)), (ca, .inl (cI, 32, .inl Ce)), (aa, .inl (cI, 120, .inl Ac)), (li, .inr (1, [.ref lf, .int (nI n)])), (lf, .inl (cI, 96, .inl F))] s.heap := by exact hP
    have hD : va_D A [(mo, .inr (3, [.ref li, .ref ra, .ref ca, .ref aa, .int (nI kp), .int he, .int dn, .int en, .int nx])), (ra, .inl (cI, 8, .inl Rg)), (ca, .inl (cI, 32, .inl Ce)), (aa, .inl (cI, 120, .inl Ac)), (li, .inr (1, [.ref lf, .int (nI n)])), (lf, .inl (cI, 96, .inl F))] := by exact hD
    exact W.zret (v := 0) hx hb hr (rfl) (fun t9 ht9 hW9 => ⟨⟨0, (), rfl, rfl, by rw [ht9]; exact hP, hD⟩, hS.F ht9⟩) hS.2.2 d_Ma_reachCell_14
  · refine lv_iload_n hx hb d_Ma_reachCell_4 rfl (lv_at hl 3 rfl) ?_
    refine lv_aload_n hx hb d_Ma_reachCell_5 rfl (lv_at hl 0 rfl) ?_
    refine va_get (D := D) (ci := 3) (v := .ref ca) (C := R_So) (T := F_So) (N := 9) hx hb hg f_So hown hK.1 hP 0 rfl rfl 2 (by decide) (hg _ q85) (fun _ h9 => h9) rfl d_Ma_reachCell_6 ?_
    refine va_alen (v := nI 32) hx hb hK.1 hP 2 0 rfl rfl rfl d_Ma_reachCell_9 ?_
    refine lv_icmp_lt (tgt := 15) hx hb d_Ma_reachCell_10 rfl (fun hc => ?_) (fun hc => ?_)
    · exact absurd hc (Int32.not_lt.mpr (ho.resolve_left hb1))
    · refine lv_iconst (v := 0) hx hb d_Ma_reachCell_13 (by decide) ?_
      have hP : va_P D cls [(mo, .inr (3, [.ref li, .ref ra, .ref ca, .ref aa, .int (nI kp), .int he, .int dn, .int en, .int nx])), (ra, .inl (cI, 8, .inl Rg)), (ca, .inl (cI, 32, .inl Ce)), (aa, .inl (cI, 120, .inl Ac)), (li, .inr (1, [.ref lf, .int (nI n)])), (lf, .inl (cI, 96, .inl F))] s.heap := by exact hP
      have hD : va_D A [(mo, .inr (3, [.ref li, .ref ra, .ref ca, .ref aa, .int (nI kp), .int he, .int dn, .int en, .int nx])), (ra, .inl (cI, 8, .inl Rg)), (ca, .inl (cI, 32, .inl Ce)), (aa, .inl (cI, 120, .inl Ac)), (li, .inr (1, [.ref lf, .int (nI n)])), (lf, .inl (cI, 96, .inl F))] := by exact hD
      exact W.zret (v := 0) hx hb hr (rfl) (fun t9 ht9 hW9 => ⟨⟨0, (), rfl, rfl, by rw [ht9]; exact hP, hD⟩, hS.F ht9⟩) hS.2.2 d_Ma_reachCell_14

set_option maxHeartbeats 4000000 in
set_option maxRecDepth 100000 in
theorem c_So_reachCell_in (l : Launch) (D : va_G) (cI cZ cJ : ClassId) (mo li ra ca aa lf : Nat) (Rg Ce Ac F : Nat → Int32) (n kp : Nat) (dn en nx : Int32) (he : Int32) (u : Int32) (a dd : Nat) (ha : a < 8) (hd : dd < 32) (hkp : kp ≤ 40) : xi_Met l y_Ma_reachCell b_Ma_reachCell 5 (some .boolean) { frames := 1, cells := 0, slots := 0, locals := 24 } [.ref mo, .int u, .int (nI a), .int (nI dd)] D cls (tyL cI cZ cJ) [(mo, .inr (3, [.ref li, .ref ra, .ref ca, .ref aa, .int (nI kp), .int he, .int dn, .int en, .int nx])), (ra, .inl (cI, 8, .inl Rg)), (ca, .inl (cI, 32, .inl Ce)), (aa, .inl (cI, 120, .inl Ac)), (li, .inr (1, [.ref lf, .int (nI n)])), (lf, .inl (cI, 96, .inl F))] [(mo, .inr (3, [.ref li, .ref ra, .ref ca, .ref aa, .int (nI (tm_dk kp (nI dd))), .int he, .int dn, .int en, .int nx])), (ra, .inl (cI, 8, .inl (if u = 8 then Rg else tm_set Rg (nI a) (Ce dd)))), (ca, .inl (cI, 32, .inl (if u = 8 then upd Ce dd (Rg a) else Ce))), (aa, .inl (cI, 120, .inl (tm_da Ac kp (nI dd) (if u = 8 then 1 else 0) (if u = 8 then Rg a else Ce dd)))), (li, .inr (1, [.ref lf, .int (nI n)])), (lf, .inl (cI, 96, .inl F))] (1) := by
  intro sz
  refine Met.ofW (cc := b_Ma_reachCell) (maxL := 5) (ret := (some .boolean)) (by decide) rfl ?_
  intro p e s m args below meth c s₁ B0 hml hv
  obtain ⟨rfl, hsz, hP, hK, hD0⟩ := hv
  have hx := B0.exec
  have hb := B0.bytes
  have hr := B0.returns
  have hlocks := B0.notSynchronized
  have hg : ∀ w ∈ gG, w.before _ s = true := fun w h => atoms_spec B0.pre w (List.mem_cons_of_mem _ h)
  have hown : s.vm.findClass R_Ma = some m.cls := findClass_of_methodNamed B0.named
  subst hsz
  have hD := hD0.self (sz := s.heap.size)
  generalize hAe : va_A [(mo, .inr (3, [.ref li, .ref ra, .ref ca, .ref aa, .int (nI kp), .int he, .int dn, .int en, .int nx])), (ra, .inl (cI, 8, .inl Rg)), (ca, .inl (cI, 32, .inl Ce)), (aa, .inl (cI, 120, .inl Ac)), (li, .inr (1, [.ref lf, .int (nI n)])), (lf, .inl (cI, 96, .inl F))] s.heap.size = A at hD ⊢
  have hA : ∀ q : Nat, s.heap.size ≤ q → A q := fun q h => by rw [← hAe]; exact Or.inr h
  have hS : va_S A s.heap s.heap [] := va_S.rf
  have hP : va_P D cls [(mo, .inr (3, [.ref li, .ref ra, .ref ca, .ref aa, .int (nI kp), .int he, .int dn, .int en, .int nx])), (ra, .inl (cI, 8, .inl Rg)), (ca, .inl (cI, 32, .inl Ce)), (aa, .inl (cI, 120, .inl Ac)), (li, .inr (1, [.ref lf, .int (nI n)])), (lf, .inl (cI, 96, .inl F))] s.heap := hP
  have hl := lv_entry ([.ref mo, .int u, .int (nI a), .int (nI dd)]) (n := 5) (Nat.le_of_ble_eq_true rfl)
  rw [lg_entry_eq]
  generalize (lg_sl ([.ref mo, .int u, .int (nI a), .int (nI dd)]) ++ List.replicate (5 - (lg_sl ([.ref mo, .int u, .int (nI a), .int (nI dd)])).length) Slot.unset).toArray = ls at hl ⊢
  have hl : lv_has ls 5 [(0, .ref mo), (1, .int u), (2, .int (nI a)), (3, .int (nI dd))] := hl
  refine lv_iload_n hx hb d_Ma_reachCell_0 rfl (lv_at hl 3 rfl) ?_
  refine lv_if_lt (tgt := 13) hx hb d_Ma_reachCell_1 rfl (fun hz9 => absurd hz9 (nI_pos (by omega))) (fun _ => ?_)
  refine lv_iload_n hx hb d_Ma_reachCell_4 rfl (lv_at hl 3 rfl) ?_
  refine lv_aload_n hx hb d_Ma_reachCell_5 rfl (lv_at hl 0 rfl) ?_
  refine va_get (D := D) (ci := 3) (v := .ref ca) (C := R_So) (T := F_So) (N := 9) hx hb hg f_So hown hK.1 hP 0 rfl rfl 2 (by decide) (hg _ q85) (fun _ h9 => h9) rfl d_Ma_reachCell_6 ?_
  refine va_alen (v := nI 32) hx hb hK.1 hP 2 0 rfl rfl rfl d_Ma_reachCell_9 ?_
  refine lv_icmp_lt (tgt := 15) hx hb d_Ma_reachCell_10 rfl (fun _ => ?_) (fun hz9 => absurd (nI_lt (by omega) (by omega)) hz9)
  refine lv_iload_n hx hb d_Ma_reachCell_15 rfl (lv_at hl 1 rfl) ?_
  refine lv_bipush (v := 8) hx hb d_Ma_reachCell_16 (by decide) ?_
  refine lv_icmp_ne (tgt := 25) hx hb d_Ma_reachCell_18 rfl (fun h60 => ?_) (fun h60 => ?_)
  · refine lv_iconst (v := 0) hx hb d_Ma_reachCell_25 (by decide) ?_
    refine lv_istore hx hb d_Ma_reachCell_26 hl (by decide) rfl (fun ls hl => ?_)
    have hl : lv_has ls 5 [(4, .int 0), (0, .ref mo), (1, .int u), (2, .int (nI a)), (3, .int (nI dd))] := hl
    refine lv_iload hx hb d_Ma_reachCell_28 (lv_at hl 0 rfl) ?_
    refine lv_if_eq (tgt := 48) hx hb d_Ma_reachCell_30 rfl (fun _ => ?_) (fun hz9 => absurd (by decide) hz9)
    refine lv_aload_n hx hb d_Ma_reachCell_48 rfl (lv_at hl 1 rfl) ?_
    refine lv_iload_n hx hb d_Ma_reachCell_49 rfl (lv_at hl 3 rfl) ?_
    refine lv_aload_n hx hb d_Ma_reachCell_50 rfl (lv_at hl 1 rfl) ?_
    refine va_get (D := D) (ci := 3) (v := .ref ca) (C := R_So) (T := F_So) (N := 9) hx hb hg f_So hown hK.1 hP 0 rfl rfl 2 (by decide) (hg _ q85) (fun _ h9 => h9) rfl d_Ma_reachCell_51 ?_
    refine lv_iload_n hx hb d_Ma_reachCell_54 rfl (lv_at hl 4 rfl) ?_
    refine xa_ld hx hb hK hP 2 0 rfl rfl (kx := dd) (rfl) (by omega) (by decide) d_Ma_reachCell_55 ?_
    refine xw_go (w2 := [(mo, .inr (3, [.ref li, .ref ra, .ref ca, .ref aa, .int (nI kp), .int he, .int dn, .int en, .int nx])), (ra, .inl (cI, 8, .inl (tm_set Rg (nI a) (Ce dd)))), (ca, .inl (cI, 32, .inl Ce)), (aa, .inl (cI, 120, .inl Ac)), (li, .inr (1, [.ref lf, .int (nI n)])), (lf, .inl (cI, 96, .inl F))]) (wr := []) (w1 := [(mo, .inr (3, [.ref li, .ref ra, .ref ca, .ref aa, .int (nI kp), .int he, .int dn, .int en, .int nx])), (ra, .inl (cI, 8, .inl (tm_set Rg (nI a) (Ce dd)))), (ca, .inl (cI, 32, .inl Ce)), (aa, .inl (cI, 120, .inl Ac)), (li, .inr (1, [.ref lf, .int (nI n)])), (lf, .inl (cI, 96, .inl F))]) (va_runU (As := [.int (nI a), .int (Ce dd)]) (rest := []) (C := R_So) ⟨hx, hb, hml, hown, hg⟩ (c_So_setRegister l D cI cZ cJ mo li ra ca aa lf Rg Ce Ac F n kp dn en nx he a (Ce dd) (by omega) s.heap.size) (xg_O (x := ⟨"TwoMachines$Machine", "setRegister", "(II)V"⟩) (owner := R_Ma) hg m_Ma_setRegister q489 q491 rfl m_Ma_setRegister q492 ⟨by decide, by decide, by decide +kernel⟩ rfl rfl ⟨Nat.le_of_ble_eq_true rfl, Nat.le_of_ble_eq_true rfl⟩) ⟨xw_blind, (va_recv (q0 := 0) hK.1 hP rfl rfl), xw_pre hK hP hD [0, 1, 2, 3, 4, 5] (by decide) rfl⟩ rfl rfl hl.1 rfl (lv_room (Nat.le_of_ble_eq_true rfl)) d_Ma_reachCell_56 ⟨Nat.zero_le _, Nat.zero_le _⟩) hP hD hS hA [0, 1, 2, 3, 4, 5] [] [0, 1, 2, 3, 4, 5] rfl rfl (by decide) (by decide) rfl (by decide) (fun H locs hP hD hS => ?_)
    refine lv_iload_n hx hb d_Ma_reachCell_59 rfl (lv_at hl 4 rfl) ?_
    refine lv_bipush (v := 32) hx hb d_Ma_reachCell_60 (by decide) ?_
    refine lv_icmp_ge (tgt := 86) hx hb d_Ma_reachCell_62 rfl (fun h61 => ?_) (fun h61 => ?_)
    · refine lv_iconst (v := 1) hx hb d_Ma_reachCell_86 (by decide) ?_
      have ew1 : nI kp = nI (tm_dk kp (nI dd)) := congrArg nI (by first | (simp [tm_da, tm_dk, pk_us, h60, h61]; done) | (simp [tm_da, tm_dk, pk_us, h60, h61]; omega) | omega)
      have ew2 : tm_set Rg (nI a) (Ce dd) = (if u = 8 then Rg else tm_set Rg (nI a) (Ce dd)) := by first | rfl | simp [tm_da, tm_dk, pk_us, h60, h61]
      have ew3 : Ce = (if u = 8 then upd Ce dd (Rg a) else Ce) := by first | rfl | simp [tm_da, tm_dk, pk_us, h60, h61]
      have ew4 : Ac = tm_da Ac kp (nI dd) (if u = 8 then 1 else 0) (if u = 8 then Rg a else Ce dd) := by first | rfl | simp [tm_da, tm_dk, pk_us, h60, h61]
      have hP : va_P D cls [(mo, .inr (3, [.ref li, .ref ra, .ref ca, .ref aa, .int (nI (tm_dk kp (nI dd))), .int he, .int dn, .int en, .int nx])), (ra, .inl (cI, 8, .inl (if u = 8 then Rg else tm_set Rg (nI a) (Ce dd)))), (ca, .inl (cI, 32, .inl (if u = 8 then upd Ce dd (Rg a) else Ce))), (aa, .inl (cI, 120, .inl (tm_da Ac kp (nI dd) (if u = 8 then 1 else 0) (if u = 8 then Rg a else Ce dd)))), (li, .inr (1, [.ref lf, .int (nI n)])), (lf, .inl (cI, 96, .inl F))] H := by rw [← ew1, ← ew2, ← ew3, ← ew4]; exact hP
      have hD : va_D A [(mo, .inr (3, [.ref li, .ref ra, .ref ca, .ref aa, .int (nI (tm_dk kp (nI dd))), .int he, .int dn, .int en, .int nx])), (ra, .inl (cI, 8, .inl (if u = 8 then Rg else tm_set Rg (nI a) (Ce dd)))), (ca, .inl (cI, 32, .inl (if u = 8 then upd Ce dd (Rg a) else Ce))), (aa, .inl (cI, 120, .inl (tm_da Ac kp (nI dd) (if u = 8 then 1 else 0) (if u = 8 then Rg a else Ce dd)))), (li, .inr (1, [.ref lf, .int (nI n)])), (lf, .inl (cI, 96, .inl F))] := by rw [← ew1, ← ew2, ← ew3, ← ew4]; exact hD
      exact W.zret (v := 1) hx hb hr (rfl) (fun t9 ht9 hW9 => ⟨⟨1, (), rfl, rfl, by rw [ht9]; exact hP, hD⟩, hS.F ht9⟩) hS.2.2 d_Ma_reachCell_87
    · refine lv_aload_n hx hb d_Ma_reachCell_65 rfl (lv_at hl 1 rfl) ?_
      refine lv_iload_n hx hb d_Ma_reachCell_66 rfl (lv_at hl 4 rfl) ?_
      refine lv_iload hx hb d_Ma_reachCell_67 (lv_at hl 0 rfl) ?_
      refine lv_if_eq (tgt := 76) hx hb d_Ma_reachCell_69 rfl (fun _ => ?_) (fun hz9 => absurd (by decide) hz9)
      refine lv_iconst (v := 0) hx hb d_Ma_reachCell_76 (by decide) ?_
      refine lv_aload_n hx hb d_Ma_reachCell_77 rfl (lv_at hl 1 rfl) ?_
      refine va_get (D := D) (ci := 3) (v := .ref ca) (C := R_So) (T := F_So) (N := 9) hx hb hg f_So hown hK.1 hP 0 rfl rfl 2 (by decide) (hg _ q85) (fun _ h9 => h9) rfl d_Ma_reachCell_78 ?_
      refine lv_iload_n hx hb d_Ma_reachCell_81 rfl (lv_at hl 4 rfl) ?_
      refine xa_ld hx hb hK hP 2 0 rfl rfl (kx := dd) (rfl) (by omega) (by decide) d_Ma_reachCell_82 ?_
      refine xw_go (w2 := [(mo, .inr (3, [.ref li, .ref ra, .ref ca, .ref aa, .int (nI (tm_kk kp)), .int he, .int dn, .int en, .int nx])), (ra, .inl (cI, 8, .inl (tm_set Rg (nI a) (Ce dd)))), (ca, .inl (cI, 32, .inl Ce)), (aa, .inl (cI, 120, .inl (tm_ka Ac kp (nI dd) 0 (Ce dd)))), (li, .inr (1, [.ref lf, .int (nI n)])), (lf, .inl (cI, 96, .inl F))]) (wr := []) (w1 := [(mo, .inr (3, [.ref li, .ref ra, .ref ca, .ref aa, .int (nI (tm_kk kp)), .int he, .int dn, .int en, .int nx])), (ra, .inl (cI, 8, .inl (tm_set Rg (nI a) (Ce dd)))), (ca, .inl (cI, 32, .inl Ce)), (aa, .inl (cI, 120, .inl (tm_ka Ac kp (nI dd) 0 (Ce dd)))), (li, .inr (1, [.ref lf, .int (nI n)])), (lf, .inl (cI, 96, .inl F))]) (va_runU (As := [.int (nI dd), .int 0, .int (Ce dd)]) (rest := []) (C := R_So) ⟨hx, hb, hml, hown, hg⟩ (c_So_keepAccess l D cI cZ cJ mo li ra ca aa lf (tm_set Rg (nI a) (Ce dd)) Ce Ac F n kp dn en nx he (nI dd) 0 (Ce dd) (by omega) H.size) (xg_O (x := ⟨"TwoMachines$Machine", "keepAccess", "(III)V"⟩) (owner := R_Ma) hg m_Ma_keepAccess q495 q761 rfl m_Ma_keepAccess sx_So_Ma_keepAccess ⟨by decide, by decide, by decide +kernel⟩ rfl rfl ⟨Nat.le_of_ble_eq_true rfl, Nat.le_of_ble_eq_true rfl⟩) ⟨xw_blind, (va_recv (q0 := 0) hK.1 hP rfl rfl), xw_pre hK hP hD [0, 1, 2, 3, 4, 5] (by decide) rfl⟩ rfl rfl hl.1 rfl (lv_room (Nat.le_of_ble_eq_true rfl)) d_Ma_reachCell_83 ⟨Nat.zero_le _, Nat.zero_le _⟩) hP hD hS hA [0, 1, 2, 3, 4, 5] [] [0, 1, 2, 3, 4, 5] rfl rfl (by decide) (by decide) rfl (by decide) (fun H locs hP hD hS => ?_)
      refine lv_iconst (v := 1) hx hb d_Ma_reachCell_86 (by decide) ?_
      have ew1 : nI (tm_kk kp) = nI (tm_dk kp (nI dd)) := congrArg nI (by first | (simp [tm_da, tm_dk, pk_us, h60, h61]; done) | (simp [tm_da, tm_dk, pk_us, h60, h61]; omega) | omega)
      have ew2 : tm_set Rg (nI a) (Ce dd) = (if u = 8 then Rg else tm_set Rg (nI a) (Ce dd)) := by first | rfl | simp [tm_da, tm_dk, pk_us, h60, h61]
      have ew3 : Ce = (if u = 8 then upd Ce dd (Rg a) else Ce) := by first | rfl | simp [tm_da, tm_dk, pk_us, h60, h61]
      have ew4 : tm_ka Ac kp (nI dd) 0 (Ce dd) = tm_da Ac kp (nI dd) (if u = 8 then 1 else 0) (if u = 8 then Rg a else Ce dd) := by first | rfl | simp [tm_da, tm_dk, pk_us, h60, h61]
      have hP : va_P D cls [(mo, .inr (3, [.ref li, .ref ra, .ref ca, .ref aa, .int (nI (tm_dk kp (nI dd))), .int he, .int dn, .int en, .int nx])), (ra, .inl (cI, 8, .inl (if u = 8 then Rg else tm_set Rg (nI a) (Ce dd)))), (ca, .inl (cI, 32, .inl (if u = 8 then upd Ce dd (Rg a) else Ce))), (aa, .inl (cI, 120, .inl (tm_da Ac kp (nI dd) (if u = 8 then 1 else 0) (if u = 8 then Rg a else Ce dd)))), (li, .inr (1, [.ref lf, .int (nI n)])), (lf, .inl (cI, 96, .inl F))] H := by rw [← ew1, ← ew2, ← ew3, ← ew4]; exact hP
      have hD : va_D A [(mo, .inr (3, [.ref li, .ref ra, .ref ca, .ref aa, .int (nI (tm_dk kp (nI dd))), .int he, .int dn, .int en, .int nx])), (ra, .inl (cI, 8, .inl (if u = 8 then Rg else tm_set Rg (nI a) (Ce dd)))), (ca, .inl (cI, 32, .inl (if u = 8 then upd Ce dd (Rg a) else Ce))), (aa, .inl (cI, 120, .inl (tm_da Ac kp (nI dd) (if u = 8 then 1 else 0) (if u = 8 then Rg a else Ce dd)))), (li, .inr (1, [.ref lf, .int (nI n)])), (lf, .inl (cI, 96, .inl F))] := by rw [← ew1, ← ew2, ← ew3, ← ew4]; exact hD
      exact W.zret (v := 1) hx hb hr (rfl) (fun t9 ht9 hW9 => ⟨⟨1, (), rfl, rfl, by rw [ht9]; exact hP, hD⟩, hS.F ht9⟩) hS.2.2 d_Ma_reachCell_87
  · refine lv_iconst (v := 1) hx hb d_Ma_reachCell_21 (by decide) ?_
    refine lv_goto (tgt := 26) hx hb d_Ma_reachCell_22 rfl ?_
    refine lv_istore hx hb d_Ma_reachCell_26 hl (by decide) rfl (fun ls hl => ?_)
    have hl : lv_has ls 5 [(4, .int 1), (0, .ref mo), (1, .int u), (2, .int (nI a)), (3, .int (nI dd))] := hl
    refine lv_iload hx hb d_Ma_reachCell_28 (lv_at hl 0 rfl) ?_
    refine lv_if_eq (tgt := 48) hx hb d_Ma_reachCell_30 rfl (fun hz9 => absurd hz9 (by decide)) (fun _ => ?_)
    refine lv_aload_n hx hb d_Ma_reachCell_33 rfl (lv_at hl 1 rfl) ?_
    refine va_get (D := D) (ci := 3) (v := .ref ca) (C := R_So) (T := F_So) (N := 9) hx hb hg f_So hown hK.1 hP 0 rfl rfl 2 (by decide) (hg _ q85) (fun _ h9 => h9) rfl d_Ma_reachCell_34 ?_
    refine lv_iload_n hx hb d_Ma_reachCell_37 rfl (lv_at hl 4 rfl) ?_
    refine lv_aload_n hx hb d_Ma_reachCell_38 rfl (lv_at hl 1 rfl) ?_
    refine va_get (D := D) (ci := 3) (v := .ref ra) (C := R_So) (T := F_So) (N := 9) hx hb hg f_So hown hK.1 hP 0 rfl rfl 1 (by decide) (hg _ q80) (fun _ h9 => h9) rfl d_Ma_reachCell_39 ?_
    refine lv_iload_n hx hb d_Ma_reachCell_42 rfl (lv_at hl 3 rfl) ?_
    refine xa_ld hx hb hK hP 1 0 rfl rfl (kx := a) (rfl) (by omega) (by decide) d_Ma_reachCell_43 ?_
    refine xa_st hx hb hK hP hD hS 2 0 rfl rfl (kx := dd) (rfl) (by omega) (by decide) d_Ma_reachCell_44 (fun H locs hP hD hS => ?_)
    have hP : va_P D cls [(mo, .inr (3, [.ref li, .ref ra, .ref ca, .ref aa, .int (nI kp), .int he, .int dn, .int en, .int nx])), (ra, .inl (cI, 8, .inl Rg)), (ca, .inl (cI, 32, .inl (upd Ce dd (Rg a)))), (aa, .inl (cI, 120, .inl Ac)), (li, .inr (1, [.ref lf, .int (nI n)])), (lf, .inl (cI, 96, .inl F))] H := hP
    have hD : va_D A [(mo, .inr (3, [.ref li, .ref ra, .ref ca, .ref aa, .int (nI kp), .int he, .int dn, .int en, .int nx])), (ra, .inl (cI, 8, .inl Rg)), (ca, .inl (cI, 32, .inl (upd Ce dd (Rg a)))), (aa, .inl (cI, 120, .inl Ac)), (li, .inr (1, [.ref lf, .int (nI n)])), (lf, .inl (cI, 96, .inl F))] := hD
    refine lv_goto (tgt := 59) hx hb d_Ma_reachCell_45 rfl ?_
    refine lv_iload_n hx hb d_Ma_reachCell_59 rfl (lv_at hl 4 rfl) ?_
    refine lv_bipush (v := 32) hx hb d_Ma_reachCell_60 (by decide) ?_
    refine lv_icmp_ge (tgt := 86) hx hb d_Ma_reachCell_62 rfl (fun h62 => ?_) (fun h62 => ?_)
    · refine lv_iconst (v := 1) hx hb d_Ma_reachCell_86 (by decide) ?_
      have ew1 : nI kp = nI (tm_dk kp (nI dd)) := congrArg nI (by first | (simp [tm_da, tm_dk, pk_us, h60, h62]; done) | (simp [tm_da, tm_dk, pk_us, h60, h62]; omega) | omega)
      have ew2 : Rg = (if u = 8 then Rg else tm_set Rg (nI a) (Ce dd)) := by first | rfl | simp [tm_da, tm_dk, pk_us, h60, h62]
      have ew3 : upd Ce dd (Rg a) = (if u = 8 then upd Ce dd (Rg a) else Ce) := by first | rfl | simp [tm_da, tm_dk, pk_us, h60, h62]
      have ew4 : Ac = tm_da Ac kp (nI dd) (if u = 8 then 1 else 0) (if u = 8 then Rg a else Ce dd) := by first | rfl | simp [tm_da, tm_dk, pk_us, h60, h62]
      have hP : va_P D cls [(mo, .inr (3, [.ref li, .ref ra, .ref ca, .ref aa, .int (nI (tm_dk kp (nI dd))), .int he, .int dn, .int en, .int nx])), (ra, .inl (cI, 8, .inl (if u = 8 then Rg else tm_set Rg (nI a) (Ce dd)))), (ca, .inl (cI, 32, .inl (if u = 8 then upd Ce dd (Rg a) else Ce))), (aa, .inl (cI, 120, .inl (tm_da Ac kp (nI dd) (if u = 8 then 1 else 0) (if u = 8 then Rg a else Ce dd)))), (li, .inr (1, [.ref lf, .int (nI n)])), (lf, .inl (cI, 96, .inl F))] H := by rw [← ew1, ← ew2, ← ew3, ← ew4]; exact hP
      have hD : va_D A [(mo, .inr (3, [.ref li, .ref ra, .ref ca, .ref aa, .int (nI (tm_dk kp (nI dd))), .int he, .int dn, .int en, .int nx])), (ra, .inl (cI, 8, .inl (if u = 8 then Rg else tm_set Rg (nI a) (Ce dd)))), (ca, .inl (cI, 32, .inl (if u = 8 then upd Ce dd (Rg a) else Ce))), (aa, .inl (cI, 120, .inl (tm_da Ac kp (nI dd) (if u = 8 then 1 else 0) (if u = 8 then Rg a else Ce dd)))), (li, .inr (1, [.ref lf, .int (nI n)])), (lf, .inl (cI, 96, .inl F))] := by rw [← ew1, ← ew2, ← ew3, ← ew4]; exact hD
      exact W.zret (v := 1) hx hb hr (rfl) (fun t9 ht9 hW9 => ⟨⟨1, (), rfl, rfl, by rw [ht9]; exact hP, hD⟩, hS.F ht9⟩) hS.2.2 d_Ma_reachCell_87
    · refine lv_aload_n hx hb d_Ma_reachCell_65 rfl (lv_at hl 1 rfl) ?_
      refine lv_iload_n hx hb d_Ma_reachCell_66 rfl (lv_at hl 4 rfl) ?_
      refine lv_iload hx hb d_Ma_reachCell_67 (lv_at hl 0 rfl) ?_
      refine lv_if_eq (tgt := 76) hx hb d_Ma_reachCell_69 rfl (fun hz9 => absurd hz9 (by decide)) (fun _ => ?_)
      refine lv_iconst (v := 1) hx hb d_Ma_reachCell_72 (by decide) ?_
      refine lv_goto (tgt := 77) hx hb d_Ma_reachCell_73 rfl ?_
      refine lv_aload_n hx hb d_Ma_reachCell_77 rfl (lv_at hl 1 rfl) ?_
      refine va_get (D := D) (ci := 3) (v := .ref ca) (C := R_So) (T := F_So) (N := 9) hx hb hg f_So hown hK.1 hP 0 rfl rfl 2 (by decide) (hg _ q85) (fun _ h9 => h9) rfl d_Ma_reachCell_78 ?_
      refine lv_iload_n hx hb d_Ma_reachCell_81 rfl (lv_at hl 4 rfl) ?_
      refine xa_ld hx hb hK hP 2 0 rfl rfl (kx := dd) (rfl) (by omega) (by decide) d_Ma_reachCell_82 ?_
      refine xw_go (w2 := [(mo, .inr (3, [.ref li, .ref ra, .ref ca, .ref aa, .int (nI (tm_kk kp)), .int he, .int dn, .int en, .int nx])), (ra, .inl (cI, 8, .inl Rg)), (ca, .inl (cI, 32, .inl (upd Ce dd (Rg a)))), (aa, .inl (cI, 120, .inl (tm_ka Ac kp (nI dd) 1 ((upd Ce dd (Rg a)) dd)))), (li, .inr (1, [.ref lf, .int (nI n)])), (lf, .inl (cI, 96, .inl F))]) (wr := []) (w1 := [(mo, .inr (3, [.ref li, .ref ra, .ref ca, .ref aa, .int (nI (tm_kk kp)), .int he, .int dn, .int en, .int nx])), (ra, .inl (cI, 8, .inl Rg)), (ca, .inl (cI, 32, .inl (upd Ce dd (Rg a)))), (aa, .inl (cI, 120, .inl (tm_ka Ac kp (nI dd) 1 ((upd Ce dd (Rg a)) dd)))), (li, .inr (1, [.ref lf, .int (nI n)])), (lf, .inl (cI, 96, .inl F))]) (va_runU (As := [.int (nI dd), .int 1, .int ((upd Ce dd (Rg a)) dd)]) (rest := []) (C := R_So) ⟨hx, hb, hml, hown, hg⟩ (c_So_keepAccess l D cI cZ cJ mo li ra ca aa lf Rg (upd Ce dd (Rg a)) Ac F n kp dn en nx he (nI dd) 1 ((upd Ce dd (Rg a)) dd) (by omega) H.size) (xg_O (x := ⟨"TwoMachines$Machine", "keepAccess", "(III)V"⟩) (owner := R_Ma) hg m_Ma_keepAccess q495 q761 rfl m_Ma_keepAccess sx_So_Ma_keepAccess ⟨by decide, by decide, by decide +kernel⟩ rfl rfl ⟨Nat.le_of_ble_eq_true rfl, Nat.le_of_ble_eq_true rfl⟩) ⟨xw_blind, (va_recv (q0 := 0) hK.1 hP rfl rfl), xw_pre hK hP hD [0, 1, 2, 3, 4, 5] (by decide) rfl⟩ rfl rfl hl.1 rfl (lv_room (Nat.le_of_ble_eq_true rfl)) d_Ma_reachCell_83 ⟨Nat.zero_le _, Nat.zero_le _⟩) hP hD hS hA [0, 1, 2, 3, 4, 5] [] [0, 1, 2, 3, 4, 5] rfl rfl (by decide) (by decide) rfl (by decide) (fun H locs hP hD hS => ?_)
      refine lv_iconst (v := 1) hx hb d_Ma_reachCell_86 (by decide) ?_
      have ew1 : nI (tm_kk kp) = nI (tm_dk kp (nI dd)) := congrArg nI (by first | (simp [tm_da, tm_dk, pk_us, h60, h62]; done) | (simp [tm_da, tm_dk, pk_us, h60, h62]; omega) | omega)
      have ew2 : Rg = (if u = 8 then Rg else tm_set Rg (nI a) (Ce dd)) := by first | rfl | simp [tm_da, tm_dk, pk_us, h60, h62]
      have ew3 : upd Ce dd (Rg a) = (if u = 8 then upd Ce dd (Rg a) else Ce) := by first | rfl | simp [tm_da, tm_dk, pk_us, h60, h62]
      have ew4 : tm_ka Ac kp (nI dd) 1 ((upd Ce dd (Rg a)) dd) = tm_da Ac kp (nI dd) (if u = 8 then 1 else 0) (if u = 8 then Rg a else Ce dd) := by first | rfl | simp [tm_da, tm_dk, pk_us, h60, h62]
      have hP : va_P D cls [(mo, .inr (3, [.ref li, .ref ra, .ref ca, .ref aa, .int (nI (tm_dk kp (nI dd))), .int he, .int dn, .int en, .int nx])), (ra, .inl (cI, 8, .inl (if u = 8 then Rg else tm_set Rg (nI a) (Ce dd)))), (ca, .inl (cI, 32, .inl (if u = 8 then upd Ce dd (Rg a) else Ce))), (aa, .inl (cI, 120, .inl (tm_da Ac kp (nI dd) (if u = 8 then 1 else 0) (if u = 8 then Rg a else Ce dd)))), (li, .inr (1, [.ref lf, .int (nI n)])), (lf, .inl (cI, 96, .inl F))] H := by rw [← ew1, ← ew2, ← ew3, ← ew4]; exact hP
      have hD : va_D A [(mo, .inr (3, [.ref li, .ref ra, .ref ca, .ref aa, .int (nI (tm_dk kp (nI dd))), .int he, .int dn, .int en, .int nx])), (ra, .inl (cI, 8, .inl (if u = 8 then Rg else tm_set Rg (nI a) (Ce dd)))), (ca, .inl (cI, 32, .inl (if u = 8 then upd Ce dd (Rg a) else Ce))), (aa, .inl (cI, 120, .inl (tm_da Ac kp (nI dd) (if u = 8 then 1 else 0) (if u = 8 then Rg a else Ce dd)))), (li, .inr (1, [.ref lf, .int (nI n)])), (lf, .inl (cI, 96, .inl F))] := by rw [← ew1, ← ew2, ← ew3, ← ew4]; exact hD
      exact W.zret (v := 1) hx hb hr (rfl) (fun t9 ht9 hW9 => ⟨⟨1, (), rfl, rfl, by rw [ht9]; exact hP, hD⟩, hS.F ht9⟩) hS.2.2 d_Ma_reachCell_87

set_option maxHeartbeats 4000000 in
set_option maxRecDepth 100000 in
theorem c_Ta_setRegister (l : Launch) (D : va_G) (cI cZ cJ : ClassId) (mo li ra ca aa lf tr : Nat) (Rg Ce Ac F : Nat → Int32) (n kp : Nat) (dn en : Int32) (he : Int32) (a : Nat) (v : Int32) (ha : a < 8) : xw_Met l y_Ma_setRegister b_Ma_setRegister 3 none { frames := 0, cells := 0, slots := 0, locals := 0 } [.ref mo, .int (nI a), .int v] D cls (tyL cI cZ cJ) [(mo, .inr (4, [.ref li, .ref ra, .ref ca, .ref aa, .int (nI kp), .int he, .int dn, .int en, .ref tr])), (ra, .inl (cI, 8, .inl Rg)), (ca, .inl (cI, 64, .inl Ce)), (aa, .inl (cI, 120, .inl Ac)), (li, .inr (1, [.ref lf, .int (nI n)])), (lf, .inl (cI, 868, .inl F))] [(mo, .inr (4, [.ref li, .ref ra, .ref ca, .ref aa, .int (nI kp), .int he, .int dn, .int en, .ref tr])), (ra, .inl (cI, 8, .inl (tm_set Rg (nI a) v))), (ca, .inl (cI, 64, .inl Ce)), (aa, .inl (cI, 120, .inl Ac)), (li, .inr (1, [.ref lf, .int (nI n)])), (lf, .inl (cI, 868, .inl F))] := by
  intro sz
  refine Met.ofW (cc := b_Ma_setRegister) (maxL := 3) (ret := none) (by decide) rfl ?_
  intro p e s m args below meth c s₁ B0 hml hv
  obtain ⟨rfl, hsz, hP, hK, hD0⟩ := hv
  have hx := B0.exec
  have hb := B0.bytes
  have hr := B0.returns
  have hlocks := B0.notSynchronized
  have hg : ∀ w ∈ gG, w.before _ s = true := fun w h => atoms_spec B0.pre w (List.mem_cons_of_mem _ h)
  have hown : s.vm.findClass R_Ma = some m.cls := findClass_of_methodNamed B0.named
  subst hsz
  have hD := hD0.self (sz := s.heap.size)
  generalize hAe : va_A [(mo, .inr (4, [.ref li, .ref ra, .ref ca, .ref aa, .int (nI kp), .int he, .int dn, .int en, .ref tr])), (ra, .inl (cI, 8, .inl Rg)), (ca, .inl (cI, 64, .inl Ce)), (aa, .inl (cI, 120, .inl Ac)), (li, .inr (1, [.ref lf, .int (nI n)])), (lf, .inl (cI, 868, .inl F))] s.heap.size = A at hD ⊢
  have hA : ∀ q : Nat, s.heap.size ≤ q → A q := fun q h => by rw [← hAe]; exact Or.inr h
  have hS : va_S A s.heap s.heap [] := va_S.rf
  have hP : va_P D cls [(mo, .inr (4, [.ref li, .ref ra, .ref ca, .ref aa, .int (nI kp), .int he, .int dn, .int en, .ref tr])), (ra, .inl (cI, 8, .inl Rg)), (ca, .inl (cI, 64, .inl Ce)), (aa, .inl (cI, 120, .inl Ac)), (li, .inr (1, [.ref lf, .int (nI n)])), (lf, .inl (cI, 868, .inl F))] s.heap := hP
  have hl := lv_entry ([.ref mo, .int (nI a), .int v]) (n := 3) (Nat.le_of_ble_eq_true rfl)
  rw [lg_entry_eq]
  generalize (lg_sl ([.ref mo, .int (nI a), .int v]) ++ List.replicate (3 - (lg_sl ([.ref mo, .int (nI a), .int v])).length) Slot.unset).toArray = ls at hl ⊢
  have hl : lv_has ls 3 [(0, .ref mo), (1, .int (nI a)), (2, .int v)] := hl
  have hc_a : (nI a).toNatClampNeg = a := nI_clamp (by omega)
  refine lv_iload_n hx hb d_Ma_setRegister_0 rfl (lv_at hl 1 rfl) ?_
  refine lv_if_eq (tgt := 11) hx hb d_Ma_setRegister_1 rfl (fun h64 => ?_) (fun h64 => ?_)
  · have ew1 : Rg = tm_set Rg (nI a) v := by first | rfl | simp [tm_set, hc_a, h64]
    have hP : va_P D cls [(mo, .inr (4, [.ref li, .ref ra, .ref ca, .ref aa, .int (nI kp), .int he, .int dn, .int en, .ref tr])), (ra, .inl (cI, 8, .inl (tm_set Rg (nI a) v))), (ca, .inl (cI, 64, .inl Ce)), (aa, .inl (cI, 120, .inl Ac)), (li, .inr (1, [.ref lf, .int (nI n)])), (lf, .inl (cI, 868, .inl F))] s.heap := by rw [← ew1]; exact hP
    have hD : va_D A [(mo, .inr (4, [.ref li, .ref ra, .ref ca, .ref aa, .int (nI kp), .int he, .int dn, .int en, .ref tr])), (ra, .inl (cI, 8, .inl (tm_set Rg (nI a) v))), (ca, .inl (cI, 64, .inl Ce)), (aa, .inl (cI, 120, .inl Ac)), (li, .inr (1, [.ref lf, .int (nI n)])), (lf, .inl (cI, 868, .inl F))] := by rw [← ew1]; exact hD
    exact W.vret hx hb hr (fun t9 ht9 hW9 => ⟨⟨(), rfl, trivial, by rw [ht9]; exact hP, hD⟩, hS.F ht9⟩) hS.2.2 d_Ma_setRegister_11
  · refine lv_aload_n hx hb d_Ma_setRegister_4 rfl (lv_at hl 0 rfl) ?_
    refine va_get (D := D) (ci := 4) (v := .ref ra) (C := R_Ta) (T := F_Ta) (N := 9) hx hb hg f_Ta hown hK.1 hP 0 rfl rfl 1 (by decide) (hg _ q80) (fun _ h9 => h9) rfl d_Ma_setRegister_5 ?_
    refine lv_iload_n hx hb d_Ma_setRegister_8 rfl (lv_at hl 1 rfl) ?_
    refine lv_iload_n hx hb d_Ma_setRegister_9 rfl (lv_at hl 2 rfl) ?_
    refine xa_st hx hb hK hP hD hS 1 0 rfl rfl (kx := a) (rfl) (by omega) (by decide) d_Ma_setRegister_10 (fun H locs hP hD hS => ?_)
    have hP : va_P D cls [(mo, .inr (4, [.ref li, .ref ra, .ref ca, .ref aa, .int (nI kp), .int he, .int dn, .int en, .ref tr])), (ra, .inl (cI, 8, .inl (upd Rg a v))), (ca, .inl (cI, 64, .inl Ce)), (aa, .inl (cI, 120, .inl Ac)), (li, .inr (1, [.ref lf, .int (nI n)])), (lf, .inl (cI, 868, .inl F))] H := hP
    have hD : va_D A [(mo, .inr (4, [.ref li, .ref ra, .ref ca, .ref aa, .int (nI kp), .int he, .int dn, .int en, .ref tr])), (ra, .inl (cI, 8, .inl (upd Rg a v))), (ca, .inl (cI, 64, .inl Ce)), (aa, .inl (cI, 120, .inl Ac)), (li, .inr (1, [.ref lf, .int (nI n)])), (lf, .inl (cI, 868, .inl F))] := hD
    have ew1 : upd Rg a v = tm_set Rg (nI a) v := by first | rfl | simp [tm_set, hc_a, h64]
    have hP : va_P D cls [(mo, .inr (4, [.ref li, .ref ra, .ref ca, .ref aa, .int (nI kp), .int he, .int dn, .int en, .ref tr])), (ra, .inl (cI, 8, .inl (tm_set Rg (nI a) v))), (ca, .inl (cI, 64, .inl Ce)), (aa, .inl (cI, 120, .inl Ac)), (li, .inr (1, [.ref lf, .int (nI n)])), (lf, .inl (cI, 868, .inl F))] H := by rw [← ew1]; exact hP
    have hD : va_D A [(mo, .inr (4, [.ref li, .ref ra, .ref ca, .ref aa, .int (nI kp), .int he, .int dn, .int en, .ref tr])), (ra, .inl (cI, 8, .inl (tm_set Rg (nI a) v))), (ca, .inl (cI, 64, .inl Ce)), (aa, .inl (cI, 120, .inl Ac)), (li, .inr (1, [.ref lf, .int (nI n)])), (lf, .inl (cI, 868, .inl F))] := by rw [← ew1]; exact hD
    exact W.vret hx hb hr (fun t9 ht9 hW9 => ⟨⟨(), rfl, trivial, by rw [ht9]; exact hP, hD⟩, hS.F ht9⟩) hS.2.2 d_Ma_setRegister_11

set_option maxHeartbeats 4000000 in
set_option maxRecDepth 100000 in
theorem c_Ta_keepAccess (l : Launch) (D : va_G) (cI cZ cJ : ClassId) (mo li ra ca aa lf tr : Nat) (Rg Ce Ac F : Nat → Int32) (n kp : Nat) (dn en : Int32) (he : Int32) (u v w : Int32) (hkp : kp ≤ 40) : xw_Met l y_Ma_keepAccess b_Ma_keepAccess 5 none { frames := 0, cells := 0, slots := 0, locals := 0 } [.ref mo, .int u, .int v, .int w] D cls (tyL cI cZ cJ) [(mo, .inr (4, [.ref li, .ref ra, .ref ca, .ref aa, .int (nI kp), .int he, .int dn, .int en, .ref tr])), (ra, .inl (cI, 8, .inl Rg)), (ca, .inl (cI, 64, .inl Ce)), (aa, .inl (cI, 120, .inl Ac)), (li, .inr (1, [.ref lf, .int (nI n)])), (lf, .inl (cI, 868, .inl F))] [(mo, .inr (4, [.ref li, .ref ra, .ref ca, .ref aa, .int (nI (tm_kk kp)), .int he, .int dn, .int en, .ref tr])), (ra, .inl (cI, 8, .inl Rg)), (ca, .inl (cI, 64, .inl Ce)), (aa, .inl (cI, 120, .inl (tm_ka Ac kp u v w))), (li, .inr (1, [.ref lf, .int (nI n)])), (lf, .inl (cI, 868, .inl F))] := by
  intro sz
  refine Met.ofW (cc := b_Ma_keepAccess) (maxL := 5) (ret := none) (by decide) rfl ?_
  intro p e s m args below meth c s₁ B0 hml hv
  obtain ⟨rfl, hsz, hP, hK, hD0⟩ := hv
  have hx := B0.exec
  have hb := B0.bytes
  have hr := B0.returns
  have hlocks := B0.notSynchronized
  have hg : ∀ w ∈ gG, w.before _ s = true := fun w h => atoms_spec B0.pre w (List.mem_cons_of_mem _ h)
  have hown : s.vm.findClass R_Ma = some m.cls := findClass_of_methodNamed B0.named
  subst hsz
  have hD := hD0.self (sz := s.heap.size)
  generalize hAe : va_A [(mo, .inr (4, [.ref li, .ref ra, .ref ca, .ref aa, .int (nI kp), .int he, .int dn, .int en, .ref tr])), (ra, .inl (cI, 8, .inl Rg)), (ca, .inl (cI, 64, .inl Ce)), (aa, .inl (cI, 120, .inl Ac)), (li, .inr (1, [.ref lf, .int (nI n)])), (lf, .inl (cI, 868, .inl F))] s.heap.size = A at hD ⊢
  have hA : ∀ q : Nat, s.heap.size ≤ q → A q := fun q h => by rw [← hAe]; exact Or.inr h
  have hS : va_S A s.heap s.heap [] := va_S.rf
  have hP : va_P D cls [(mo, .inr (4, [.ref li, .ref ra, .ref ca, .ref aa, .int (nI kp), .int he, .int dn, .int en, .ref tr])), (ra, .inl (cI, 8, .inl Rg)), (ca, .inl (cI, 64, .inl Ce)), (aa, .inl (cI, 120, .inl Ac)), (li, .inr (1, [.ref lf, .int (nI n)])), (lf, .inl (cI, 868, .inl F))] s.heap := hP
  have hl := lv_entry ([.ref mo, .int u, .int v, .int w]) (n := 5) (Nat.le_of_ble_eq_true rfl)
  rw [lg_entry_eq]
  generalize (lg_sl ([.ref mo, .int u, .int v, .int w]) ++ List.replicate (5 - (lg_sl ([.ref mo, .int u, .int v, .int w])).length) Slot.unset).toArray = ls at hl ⊢
  have hl : lv_has ls 5 [(0, .ref mo), (1, .int u), (2, .int v), (3, .int w)] := hl
  refine lv_aload_n hx hb d_Ma_keepAccess_0 rfl (lv_at hl 0 rfl) ?_
  refine va_get (D := D) (ci := 4) (v := .int (nI kp)) (C := R_Ta) (T := F_Ta) (N := 9) hx hb hg f_Ta hown hK.1 hP 0 rfl rfl 4 (by decide) (hg _ q91) (fun _ h9 => h9) rfl d_Ma_keepAccess_1 ?_
  refine lv_bipush (v := 40) hx hb d_Ma_keepAccess_4 (by decide) ?_
  refine lv_icmp_lt (tgt := 10) hx hb d_Ma_keepAccess_6 rfl (fun hc => ?_) (fun hc => ?_)
  · have hc := Nat.not_le.mpr ((nI_ltI (a := kp) (b := 40) (by omega) (by decide)).mp hc)
    refine lv_iconst (v := 3) hx hb d_Ma_keepAccess_10 (by decide) ?_
    refine lv_aload_n hx hb d_Ma_keepAccess_11 rfl (lv_at hl 0 rfl) ?_
    refine va_get (D := D) (ci := 4) (v := .int (nI kp)) (C := R_Ta) (T := F_Ta) (N := 9) hx hb hg f_Ta hown hK.1 hP 0 rfl rfl 4 (by decide) (hg _ q91) (fun _ h9 => h9) rfl d_Ma_keepAccess_12 ?_
    refine lv_imul hx hb d_Ma_keepAccess_15 ?_
    have eq9 : (3 * (nI kp) : Int32) = nI (3 * kp) := pk_mul 3 kp
    refine W.eq (g2 := F0 m 16 ls [.int (nI (3 * kp))]) (by rw [eq9]) ?_
    refine lv_istore hx hb d_Ma_keepAccess_16 hl (by decide) rfl (fun ls hl => ?_)
    have hl : lv_has ls 5 [(4, .int (nI (3 * kp))), (0, .ref mo), (1, .int u), (2, .int v), (3, .int w)] := hl
    refine lv_aload_n hx hb d_Ma_keepAccess_18 rfl (lv_at hl 1 rfl) ?_
    refine va_get (D := D) (ci := 4) (v := .ref aa) (C := R_Ta) (T := F_Ta) (N := 9) hx hb hg f_Ta hown hK.1 hP 0 rfl rfl 3 (by decide) (hg _ q89) (fun _ h9 => h9) rfl d_Ma_keepAccess_19 ?_
    refine lv_iload hx hb d_Ma_keepAccess_22 (lv_at hl 0 rfl) ?_
    refine lv_iload_n hx hb d_Ma_keepAccess_24 rfl (lv_at hl 2 rfl) ?_
    refine xa_st hx hb hK hP hD hS 3 0 rfl rfl (kx := 3 * kp) (rfl) (by omega) (by decide) d_Ma_keepAccess_25 (fun H locs hP hD hS => ?_)
    have hP : va_P D cls [(mo, .inr (4, [.ref li, .ref ra, .ref ca, .ref aa, .int (nI kp), .int he, .int dn, .int en, .ref tr])), (ra, .inl (cI, 8, .inl Rg)), (ca, .inl (cI, 64, .inl Ce)), (aa, .inl (cI, 120, .inl (upd Ac (3 * kp) u))), (li, .inr (1, [.ref lf, .int (nI n)])), (lf, .inl (cI, 868, .inl F))] H := hP
    have hD : va_D A [(mo, .inr (4, [.ref li, .ref ra, .ref ca, .ref aa, .int (nI kp), .int he, .int dn, .int en, .ref tr])), (ra, .inl (cI, 8, .inl Rg)), (ca, .inl (cI, 64, .inl Ce)), (aa, .inl (cI, 120, .inl (upd Ac (3 * kp) u))), (li, .inr (1, [.ref lf, .int (nI n)])), (lf, .inl (cI, 868, .inl F))] := hD
    refine lv_aload_n hx hb d_Ma_keepAccess_26 rfl (lv_at hl 1 rfl) ?_
    refine va_get (D := D) (ci := 4) (v := .ref aa) (C := R_Ta) (T := F_Ta) (N := 9) hx hb hg f_Ta hown hK.1 hP 0 rfl rfl 3 (by decide) (hg _ q89) (fun _ h9 => h9) rfl d_Ma_keepAccess_27 ?_
    refine lv_iload hx hb d_Ma_keepAccess_30 (lv_at hl 0 rfl) ?_
    refine lv_iconst (v := 1) hx hb d_Ma_keepAccess_32 (by decide) ?_
    refine lv_iadd hx hb d_Ma_keepAccess_33 ?_
    have eq9 : ((nI (3 * kp)) + 1 : Int32) = nI (3 * kp + 1) := nI_add (3 * kp) 1
    refine W.eq (g2 := F0 m 34 ls [.int (nI (3 * kp + 1)), .ref aa]) (by rw [eq9]) ?_
    refine lv_iload_n hx hb d_Ma_keepAccess_34 rfl (lv_at hl 3 rfl) ?_
    refine xa_st hx hb hK hP hD hS 3 0 rfl rfl (kx := 3 * kp + 1) (rfl) (by omega) (by decide) d_Ma_keepAccess_35 (fun H locs hP hD hS => ?_)
    have hP : va_P D cls [(mo, .inr (4, [.ref li, .ref ra, .ref ca, .ref aa, .int (nI kp), .int he, .int dn, .int en, .ref tr])), (ra, .inl (cI, 8, .inl Rg)), (ca, .inl (cI, 64, .inl Ce)), (aa, .inl (cI, 120, .inl (upd (upd Ac (3 * kp) u) (3 * kp + 1) v))), (li, .inr (1, [.ref lf, .int (nI n)])), (lf, .inl (cI, 868, .inl F))] H := hP
    have hD : va_D A [(mo, .inr (4, [.ref li, .ref ra, .ref ca, .ref aa, .int (nI kp), .int he, .int dn, .int en, .ref tr])), (ra, .inl (cI, 8, .inl Rg)), (ca, .inl (cI, 64, .inl Ce)), (aa, .inl (cI, 120, .inl (upd (upd Ac (3 * kp) u) (3 * kp + 1) v))), (li, .inr (1, [.ref lf, .int (nI n)])), (lf, .inl (cI, 868, .inl F))] := hD
    refine lv_aload_n hx hb d_Ma_keepAccess_36 rfl (lv_at hl 1 rfl) ?_
    refine va_get (D := D) (ci := 4) (v := .ref aa) (C := R_Ta) (T := F_Ta) (N := 9) hx hb hg f_Ta hown hK.1 hP 0 rfl rfl 3 (by decide) (hg _ q89) (fun _ h9 => h9) rfl d_Ma_keepAccess_37 ?_
    refine lv_iload hx hb d_Ma_keepAccess_40 (lv_at hl 0 rfl) ?_
    refine lv_iconst (v := 2) hx hb d_Ma_keepAccess_42 (by decide) ?_
    refine lv_iadd hx hb d_Ma_keepAccess_43 ?_
    have eq9 : ((nI (3 * kp)) + 2 : Int32) = nI (3 * kp + 2) := nI_add (3 * kp) 2
    refine W.eq (g2 := F0 m 44 ls [.int (nI (3 * kp + 2)), .ref aa]) (by rw [eq9]) ?_
    refine lv_iload_n hx hb d_Ma_keepAccess_44 rfl (lv_at hl 4 rfl) ?_
    refine xa_st hx hb hK hP hD hS 3 0 rfl rfl (kx := 3 * kp + 2) (rfl) (by omega) (by decide) d_Ma_keepAccess_45 (fun H locs hP hD hS => ?_)
    have hP : va_P D cls [(mo, .inr (4, [.ref li, .ref ra, .ref ca, .ref aa, .int (nI kp), .int he, .int dn, .int en, .ref tr])), (ra, .inl (cI, 8, .inl Rg)), (ca, .inl (cI, 64, .inl Ce)), (aa, .inl (cI, 120, .inl (upd (upd (upd Ac (3 * kp) u) (3 * kp + 1) v) (3 * kp + 2) w))), (li, .inr (1, [.ref lf, .int (nI n)])), (lf, .inl (cI, 868, .inl F))] H := hP
    have hD : va_D A [(mo, .inr (4, [.ref li, .ref ra, .ref ca, .ref aa, .int (nI kp), .int he, .int dn, .int en, .ref tr])), (ra, .inl (cI, 8, .inl Rg)), (ca, .inl (cI, 64, .inl Ce)), (aa, .inl (cI, 120, .inl (upd (upd (upd Ac (3 * kp) u) (3 * kp + 1) v) (3 * kp + 2) w))), (li, .inr (1, [.ref lf, .int (nI n)])), (lf, .inl (cI, 868, .inl F))] := hD
    refine lv_aload_n hx hb d_Ma_keepAccess_46 rfl (lv_at hl 1 rfl) ?_
    refine lv_dup hx hb d_Ma_keepAccess_47 rfl ?_
    refine va_get (D := D) (ci := 4) (v := .int (nI kp)) (C := R_Ta) (T := F_Ta) (N := 9) hx hb hg f_Ta hown hK.1 hP 0 rfl rfl 4 (by decide) (hg _ q91) (fun _ h9 => h9) rfl d_Ma_keepAccess_48 ?_
    refine lv_iconst (v := 1) hx hb d_Ma_keepAccess_51 (by decide) ?_
    refine lv_iadd hx hb d_Ma_keepAccess_52 ?_
    have eq9 : ((nI kp) + 1 : Int32) = nI (kp + 1) := nI_add kp 1
    refine W.eq (g2 := F0 m 53 ls [.int (nI (kp + 1)), .ref mo]) (by rw [eq9]) ?_
    refine va_put (D := D) (ci := 4) (v := .int (nI (kp + 1))) (ty := .int) (C := R_Ta) (T := F_Ta) (N := 9) hx hb hg f_Ta t_Ta t_Ta_ok n_Ta hown hK.1 hP hD hS 0 rfl rfl 4 (by decide) (hg _ q91) (fun _ h9 => h9) rfl (by decide +kernel) rfl rfl (Nat.le_of_ble_eq_true rfl) d_Ma_keepAccess_53 (fun H locs hP hD hS => ?_)
    have hP : va_P D cls [(mo, .inr (4, [.ref li, .ref ra, .ref ca, .ref aa, .int (nI (kp + 1)), .int he, .int dn, .int en, .ref tr])), (ra, .inl (cI, 8, .inl Rg)), (ca, .inl (cI, 64, .inl Ce)), (aa, .inl (cI, 120, .inl (upd (upd (upd Ac (3 * kp) u) (3 * kp + 1) v) (3 * kp + 2) w))), (li, .inr (1, [.ref lf, .int (nI n)])), (lf, .inl (cI, 868, .inl F))] H := hP
    have hD : va_D A [(mo, .inr (4, [.ref li, .ref ra, .ref ca, .ref aa, .int (nI (kp + 1)), .int he, .int dn, .int en, .ref tr])), (ra, .inl (cI, 8, .inl Rg)), (ca, .inl (cI, 64, .inl Ce)), (aa, .inl (cI, 120, .inl (upd (upd (upd Ac (3 * kp) u) (3 * kp + 1) v) (3 * kp + 2) w))), (li, .inr (1, [.ref lf, .int (nI n)])), (lf, .inl (cI, 868, .inl F))] := hD
    have ew1 : nI (kp + 1) = nI (tm_kk kp) := congrArg nI (by first | (simp [tm_ka, tm_kk, hc]; done) | (simp [tm_ka, tm_kk, hc]; omega) | omega)
    have ew2 : upd (upd (upd Ac (3 * kp) u) (3 * kp + 1) v) (3 * kp + 2) w = tm_ka Ac kp u v w := by first | rfl | simp [tm_ka, tm_kk, hc]
    have hP : va_P D cls [(mo, .inr (4, [.ref li, .ref ra, .ref ca, .ref aa, .int (nI (tm_kk kp)), .int he, .int dn, .int en, .ref tr])), (ra, .inl (cI, 8, .inl Rg)), (ca, .inl (cI, 64, .inl Ce)), (aa, .inl (cI, 120, .inl (tm_ka Ac kp u v w))), (li, .inr (1, [.ref lf, .int (nI n)])), (lf, .inl (cI, 868, .inl F))] H := by rw [← ew1, ← ew2]; exact hP
    have hD : va_D A [(mo, .inr (4, [.ref li, .ref ra, .ref ca, .ref aa, .int (nI (tm_kk kp)), .int he, .int dn, .int en, .ref tr])), (ra, .inl (cI, 8, .inl Rg)), (ca, .inl (cI, 64, .inl Ce)), (aa, .inl (cI, 120, .inl (tm_ka Ac kp u v w))), (li, .inr (1, [.ref lf, .int (nI n)])), (lf, .inl (cI, 868, .inl F))] := by rw [← ew1, ← ew2]; exact hD
    exact W.vret hx hb hr (fun t9 ht9 hW9 => ⟨⟨(), rfl, trivial, by rw [ht9]; exact hP, hD⟩, hS.F ht9⟩) hS.2.2 d_Ma_keepAccess_56
  · have hc := Nat.le_of_not_lt (mt (nI_ltI (a := kp) (b := 40) (by omega) (by decide)).mpr hc)
    have ew1 : nI kp = nI (tm_kk kp) := congrArg nI (by first | (simp [tm_ka, tm_kk, hc]; done) | (simp [tm_ka, tm_kk, hc]; omega) | omega)
    have ew2 : Ac = tm_ka Ac kp u v w := by first | rfl | simp [tm_ka, tm_kk, hc]
    have hP : va_P D cls [(mo, .inr (4, [.ref li, .ref ra, .ref ca, .ref aa, .int (nI (tm_kk kp)), .int he, .int dn, .int en, .ref tr])), (ra, .inl (cI, 8, .inl Rg)), (ca, .inl (cI, 64, .inl Ce)), (aa, .inl (cI, 120, .inl (tm_ka Ac kp u v w))), (li, .inr (1, [.ref lf, .int (nI n)])), (lf, .inl (cI, 868, .inl F))] s.heap := by rw [← ew1, ← ew2]; exact hP
    have hD : va_D A [(mo, .inr (4, [.ref li, .ref ra, .ref ca, .ref aa, .int (nI (tm_kk kp)), .int he, .int dn, .int en, .ref tr])), (ra, .inl (cI, 8, .inl Rg)), (ca, .inl (cI, 64, .inl Ce)), (aa, .inl (cI, 120, .inl (tm_ka Ac kp u v w))), (li, .inr (1, [.ref lf, .int (nI n)])), (lf, .inl (cI, 868, .inl F))] := by rw [← ew1, ← ew2]; exact hD
    exact W.vret hx hb hr (fun t9 ht9 hW9 => ⟨⟨(), rfl, trivial, by rw [ht9]; exact hP, hD⟩, hS.F ht9⟩) hS.2.2 d_Ma_keepAccess_9

set_option maxHeartbeats 4000000 in
set_option maxRecDepth 100000 in
theorem c_Ta_reachCell_out (l : Launch) (D : va_G) (cI cZ cJ : ClassId) (mo li ra ca aa lf tr : Nat) (Rg Ce Ac F : Nat → Int32) (n kp : Nat) (dn en : Int32) (he : Int32) (u v ad : Int32) (ho : ad < 0 ∨ nI 64 ≤ ad) : xi_Met l y_Ma_reachCell b_Ma_reachCell 5 (some .boolean) { frames := 0, cells := 0, slots := 0, locals := 0 } [.ref mo, .int u, .int v, .int ad] D cls (tyL cI cZ cJ) [(mo, .inr (4, [.ref li, .ref ra, .ref ca, .ref aa, .int (nI kp), .int he, .int dn, .int en, .ref tr])), (ra, .inl (cI, 8, .inl Rg)), (ca, .inl (cI, 64, .inl Ce)), (aa, .inl (cI, 120, .inl Ac)), (li, .inr (1, [.ref lf, .int (nI n)])), (lf, .inl (cI, 868, .inl F))] [(mo, .inr (4, [.ref li, .ref ra, .ref ca, .ref aa, .int (nI kp), .int he, .int dn, .int en, .ref tr])), (ra, .inl (cI, 8, .inl Rg)), (ca, .inl (cI, 64, .inl Ce)), (aa, .inl (cI, 120, .inl Ac)), (li, .inr (1, [.ref lf, .int (nI n)])), (lf, .inl (cI, 868, .inl F))] (0) := by
  intro sz
  refine Met.ofW (cc := b_Ma_reachCell) (maxL := 5) (ret := (some .boolean)) (by decide) rfl ?_
  intro p e s m args below meth c s₁ B0 hml hv
  obtain ⟨rfl, hsz, hP, hK, hD0⟩ := hv
  have hx := B0.exec
  have hb := B0.bytes
  have hr := B0.returns
  have hlocks := B0.notSynchronized
  have hg : ∀ w ∈ gG, w.before _ s = true := fun w h => atoms_spec B0.pre w (List.mem_cons_of_mem _ h)
  have hown : s.vm.findClass R_Ma = some m.cls := findClass_of_methodNamed B0.named
  subst hsz
  have hD := hD0.self (sz := s.heap.size)
  generalize hAe : va_A [(mo, .inr (4, [.ref li, .ref ra, .ref ca, .ref aa, .int (nI kp), .int he, .int dn, .int en, .ref tr])), (ra, .inl (cI, 8, .inl Rg)), (ca, .inl (cI, 64, .inl Ce)), (aa, .inl (cI, 120, .inl Ac)), (li, .inr (1, [.ref lf, .int (nI n)])), (lf, .inl (cI, 868, .inl F))] s.heap.size = A at hD ⊢
  have hA : ∀ q : Nat, s.heap.size ≤ q → A q := fun q h => by rw [← hAe]; exact Or.inr h
  have hS : va_S A s.heap s.heap [] := va_S.rf
  have hP : va_P D cls [(mo, .inr (4, [.ref li, .ref ra, .ref ca, .ref aa, .int (nI kp), .int he, .int dn, .int en, .ref tr])), (ra, .inl (cI, 8, .inl Rg)), (ca, .inl (cI, 64, .inl Ce)), (aa, .inl (cI, 120, .inl Ac)), (li, .inr (1, [.ref lf, .int (nI n)])), (lf, .inl (cI, 868, .inl F))] s.heap := hP
  have hl := lv_entry ([.ref mo, .int u, .int v, .int ad]) (n := 5) (Nat.le_of_ble_eq_true rfl)
  rw [lg_entry_eq]
  generalize (lg_sl ([.ref mo, .int u, .int v, .int ad]) ++ List.replicate (5 - (lg_sl ([.ref mo, .int u, .int v, .int ad])).length) Slot.unset).toArray = ls at hl ⊢
  have hl : lv_has ls 5 [(0, .ref mo), (1, .int u), (2, .int v), (3, .int ad)] := hl
  refine lv_iload_n hx hb d_Ma_reachCell_0 rfl (lv_at hl 3 rfl) ?_
  refine lv_if_lt (tgt := 13) hx hb d_Ma_reachCell_1 rfl (fun hb1 => ?_) (fun hb1 => ?_)
  · refine lv_iconst (v := 0) hx hb d_Ma_reachCell_13 (by decide) ?_
    have hP : va_P D cls [(mo, .inr (4, [.ref li, .ref ra, .ref ca, .ref aa, .int (nI kp), .int he, .int dn, .int en, .ref tr])), (ra, .inl (cI, 8, .inl Rg)), (ca, .inl (cI, 64, .inl Ce)), (aa, .inl (cI, 120, .inl Ac)), (li, .inr (1, [.ref lf, .int (nI n)])), (lf, .inl (cI, 868, .inl F))] s.heap := by exact hP
    have hD : va_D A [(mo, .inr (4, [.ref li, .ref ra, .ref ca, .ref aa, .int (nI kp), .int he, .int dn, .int en, .ref tr])), (ra, .inl (cI, 8, .inl Rg)), (ca, .inl (cI, 64, .inl Ce)), (aa, .inl (cI, 120, .inl Ac)), (li, .inr (1, [.ref lf, .int (nI n)])), (lf, .inl (cI, 868, .inl F))] := by exact hD
    exact W.zret (v := 0) hx hb hr (rfl) (fun t9 ht9 hW9 => ⟨⟨0, (), rfl, rfl, by rw [ht9]; exact hP, hD⟩, hS.F ht9⟩) hS.2.2 d_Ma_reachCell_14
  · refine lv_iload_n hx hb d_Ma_reachCell_4 rfl (lv_at hl 3 rfl) ?_
    refine lv_aload_n hx hb d_Ma_reachCell_5 rfl (lv_at hl 0 rfl) ?_
    refine va_get (D := D) (ci := 4) (v := .ref ca) (C := R_Ta) (T := F_Ta) (N := 9) hx hb hg f_Ta hown hK.1 hP 0 rfl rfl 2 (by decide) (hg _ q85) (fun _ h9 => h9) rfl d_Ma_reachCell_6 ?_
    refine va_alen (v := nI 64) hx hb hK.1 hP 2 0 rfl rfl rfl d_Ma_reachCell_9 ?_
    refine lv_icmp_lt (tgt := 15) hx hb d_Ma_reachCell_10 rfl (fun hc => ?_) (fun hc => ?_)
    · exact absurd hc (Int32.not_lt.mpr (ho.resolve_left hb1))
    · refine lv_iconst (v := 0) hx hb d_Ma_reachCell_13 (by decide) ?_
      have hP : va_P D cls [(mo, .inr (4, [.ref li, .ref ra, .ref ca, .ref aa, .int (nI kp), .int he, .int dn, .int en, .ref tr])), (ra, .inl (cI, 8, .inl Rg)), (ca, .inl (cI, 64, .inl Ce)), (aa, .inl (cI, 120, .inl Ac)), (li, .inr (1, [.ref lf, .int (nI n)])), (lf, .inl (cI, 868, .inl F))] s.heap := by exact hP
      have hD : va_D A [(mo, .inr (4, [.ref li, .ref ra, .ref ca, .ref aa, .int (nI kp), .int he, .int dn, .int en, .ref tr])), (ra, .inl (cI, 8, .inl Rg)), (ca, .inl (cI, 64, .inl Ce)), (aa, .inl (cI, 120, .inl Ac)), (li, .inr (1, [.ref lf, .int (nI n)])), (lf, .inl (cI, 868, .inl F))] := by exact hD
      exact W.zret (v := 0) hx hb hr (rfl) (fun t9 ht9 hW9 => ⟨⟨0, (), rfl, rfl, by rw [ht9]; exact hP, hD⟩, hS.F ht9⟩) hS.2.2 d_Ma_reachCell_14

set_option maxHeartbeats 4000000 in
set_option maxRecDepth 100000 in
theorem c_Ta_reachCell_in (l : Launch) (D : va_G) (cI cZ cJ : ClassId) (mo li ra ca aa lf tr : Nat) (Rg Ce Ac F : Nat → Int32) (n kp : Nat) (dn en : Int32) (he : Int32) (u : Int32) (a dd : Nat) (ha : a < 8) (hd : dd < 64) (hkp : kp ≤ 40) : xi_Met l y_Ma_reachCell b_Ma_reachCell 5 (some .boolean) { frames := 1, cells := 0, slots := 0, locals := 24 } [.ref mo, .int u, .int (nI a), .int (nI dd)] D cls (tyL cI cZ cJ) [(mo, .inr (4, [.ref li, .ref ra, .ref ca, .ref aa, .int (nI kp), .int he, .int dn, .int en, .ref tr])), (ra, .inl (cI, 8, .inl Rg)), (ca, .inl (cI, 64, .inl Ce)), (aa, .inl (cI, 120, .inl Ac)), (li, .inr (1, [.ref lf, .int (nI n)])), (lf, .inl (cI, 868, .inl F))] [(mo, .inr (4, [.ref li, .ref ra, .ref ca, .ref aa, .int (nI (tm_dk kp (nI dd))), .int he, .int dn, .int en, .ref tr])), (ra, .inl (cI, 8, .inl (if u = 8 then Rg else tm_set Rg (nI a) (Ce dd)))), (ca, .inl (cI, 64, .inl (if u = 8 then upd Ce dd (Rg a) else Ce))), (aa, .inl (cI, 120, .inl (tm_da Ac kp (nI dd) (if u = 8 then 1 else 0) (if u = 8 then Rg a else Ce dd)))), (li, .inr (1, [.ref lf, .int (nI n)])), (lf, .inl (cI, 868, .inl F))] (1) := by
  intro sz
  refine Met.ofW (cc := b_Ma_reachCell) (maxL := 5) (ret := (some .boolean)) (by decide) rfl ?_
  intro p e s m args below meth c s₁ B0 hml hv
  obtain ⟨rfl, hsz, hP, hK, hD0⟩ := hv
  have hx := B0.exec
  have hb := B0.bytes
  have hr := B0.returns
  have hlocks := B0.notSynchronized
  have hg : ∀ w ∈ gG, w.before _ s = true := fun w h => atoms_spec B0.pre w (List.mem_cons_of_mem _ h)
  have hown : s.vm.findClass R_Ma = some m.cls := findClass_of_methodNamed B0.named
  subst hsz
  have hD := hD0.self (sz := s.heap.size)
  generalize hAe : va_A [(mo, .inr (4, [.ref li, .ref ra, .ref ca, .ref aa, .int (nI kp), .int he, .int dn, .int en, .ref tr])), (ra, .inl (cI, 8, .inl Rg)), (ca, .inl (cI, 64, .inl Ce)), (aa, .inl (cI, 120, .inl Ac)), (li, .inr (1, [.ref lf, .int (nI n)])), (lf, .inl (cI, 868, .inl F))] s.heap.size = A at hD ⊢
  have hA : ∀ q : Nat, s.heap.size ≤ q → A q := fun q h => by rw [← hAe]; exact Or.inr h
  have hS : va_S A s.heap s.heap [] := va_S.rf
  have hP : va_P D cls [(mo, .inr (4, [.ref li, .ref ra, .ref ca, .ref aa, .int (nI kp), .int he, .int dn, .int en, .ref tr])), (ra, .inl (cI, 8, .inl Rg)), (ca, .inl (cI, 64, .inl Ce)), (aa, .inl (cI, 120, .inl Ac)), (li, .inr (1, [.ref lf, .int (nI n)])), (lf, .inl (cI, 868, .inl F))] s.heap := hP
  have hl := lv_entry ([.ref mo, .int u, .int (nI a), .int (nI dd)]) (n := 5) (Nat.le_of_ble_eq_true rfl)
  rw [lg_entry_eq]
  generalize (lg_sl ([.ref mo, .int u, .int (nI a), .int (nI dd)]) ++ List.replicate (5 - (lg_sl ([.ref mo, .int u, .int (nI a), .int (nI dd)])).length) Slot.unset).toArray = ls at hl ⊢
  have hl : lv_has ls 5 [(0, .ref mo), (1, .int u), (2, .int (nI a)), (3, .int (nI dd))] := hl
  refine lv_iload_n hx hb d_Ma_reachCell_0 rfl (lv_at hl 3 rfl) ?_
  refine lv_if_lt (tgt := 13) hx hb d_Ma_reachCell_1 rfl (fun hz9 => absurd hz9 (nI_pos (by omega))) (fun _ => ?_)
  refine lv_iload_n hx hb d_Ma_reachCell_4 rfl (lv_at hl 3 rfl) ?_
  refine lv_aload_n hx hb d_Ma_reachCell_5 rfl (lv_at hl 0 rfl) ?_
  refine va_get (D := D) (ci := 4) (v := .ref ca) (C := R_Ta) (T := F_Ta) (N := 9) hx hb hg f_Ta hown hK.1 hP 0 rfl rfl 2 (by decide) (hg _ q85) (fun _ h9 => h9) rfl d_Ma_reachCell_6 ?_
  refine va_alen (v := nI 64) hx hb hK.1 hP 2 0 rfl rfl rfl d_Ma_reachCell_9 ?_
  refine lv_icmp_lt (tgt := 15) hx hb d_Ma_reachCell_10 rfl (fun _ => ?_) (fun hz9 => absurd (nI_lt (by omega) (by omega)) hz9)
  refine lv_iload_n hx hb d_Ma_reachCell_15 rfl (lv_at hl 1 rfl) ?_
  refine lv_bipush (v := 8) hx hb d_Ma_reachCell_16 (by decide) ?_
  refine lv_icmp_ne (tgt := 25) hx hb d_Ma_reachCell_18 rfl (fun h68 => ?_) (fun h68 => ?_)
  · refine lv_iconst (v := 0) hx hb d_Ma_reachCell_25 (by decide) ?_
    refine lv_istore hx hb d_Ma_reachCell_26 hl (by decide) rfl (fun ls hl => ?_)
    have hl : lv_has ls 5 [(4, .int 0), (0, .ref mo), (1, .int u), (2, .int (nI a)), (3, .int (nI dd))] := hl
    refine lv_iload hx hb d_Ma_reachCell_28 (lv_at hl 0 rfl) ?_
    refine lv_if_eq (tgt := 48) hx hb d_Ma_reachCell_30 rfl (fun _ => ?_) (fun hz9 => absurd (by decide) hz9)
    refine lv_aload_n hx hb d_Ma_reachCell_48 rfl (lv_at hl 1 rfl) ?_
    refine lv_iload_n hx hb d_Ma_reachCell_49 rfl (lv_at hl 3 rfl) ?_
    refine lv_aload_n hx hb d_Ma_reachCell_50 rfl (lv_at hl 1 rfl) ?_
    refine va_get (D := D) (ci := 4) (v := .ref ca) (C := R_Ta) (T := F_Ta) (N := 9) hx hb hg f_Ta hown hK.1 hP 0 rfl rfl 2 (by decide) (hg _ q85) (fun _ h9 => h9) rfl d_Ma_reachCell_51 ?_
    refine lv_iload_n hx hb d_Ma_reachCell_54 rfl (lv_at hl 4 rfl) ?_
    refine xa_ld hx hb hK hP 2 0 rfl rfl (kx := dd) (rfl) (by omega) (by decide) d_Ma_reachCell_55 ?_
    refine xw_go (w2 := [(mo, .inr (4, [.ref li, .ref ra, .ref ca, .ref aa, .int (nI kp), .int he, .int dn, .int en, .ref tr])), (ra, .inl (cI, 8, .inl (tm_set Rg (nI a) (Ce dd)))), (ca, .inl (cI, 64, .inl Ce)), (aa, .inl (cI, 120, .inl Ac)), (li, .inr (1, [.ref lf, .int (nI n)])), (lf, .inl (cI, 868, .inl F))]) (wr := []) (w1 := [(mo, .inr (4, [.ref li, .ref ra, .ref ca, .ref aa, .int (nI kp), .int he, .int dn, .int en, .ref tr])), (ra, .inl (cI, 8, .inl (tm_set Rg (nI a) (Ce dd)))), (ca, .inl (cI, 64, .inl Ce)), (aa, .inl (cI, 120, .inl Ac)), (li, .inr (1, [.ref lf, .int (nI n)])), (lf, .inl (cI, 868, .inl F))]) (va_runU (As := [.int (nI a), .int (Ce dd)]) (rest := []) (C := R_Ta) ⟨hx, hb, hml, hown, hg⟩ (c_Ta_setRegister l D cI cZ cJ mo li ra ca aa lf tr Rg Ce Ac F n kp dn en he a (Ce dd) (by omega) s.heap.size) (xg_O (x := ⟨"TwoMachines$Machine", "setRegister", "(II)V"⟩) (owner := R_Ma) hg m_Ma_setRegister q489 q491 rfl m_Ma_setRegister q493 ⟨by decide, by decide, by decide +kernel⟩ rfl rfl ⟨Nat.le_of_ble_eq_true rfl, Nat.le_of_ble_eq_true rfl⟩) ⟨xw_blind, (va_recv (q0 := 0) hK.1 hP rfl rfl), xw_pre hK hP hD [0, 1, 2, 3, 4, 5] (by decide) rfl⟩ rfl rfl hl.1 rfl (lv_room (Nat.le_of_ble_eq_true rfl)) d_Ma_reachCell_56 ⟨Nat.zero_le _, Nat.zero_le _⟩) hP hD hS hA [0, 1, 2, 3, 4, 5] [] [0, 1, 2, 3, 4, 5] rfl rfl (by decide) (by decide) rfl (by decide) (fun H locs hP hD hS => ?_)
    refine lv_iload_n hx hb d_Ma_reachCell_59 rfl (lv_at hl 4 rfl) ?_
    refine lv_bipush (v := 32) hx hb d_Ma_reachCell_60 (by decide) ?_
    refine lv_icmp_ge (tgt := 86) hx hb d_Ma_reachCell_62 rfl (fun h69 => ?_) (fun h69 => ?_)
    · refine lv_iconst (v := 1) hx hb d_Ma_reachCell_86 (by decide) ?_
      have ew1 : nI kp = nI (tm_dk kp (nI dd)) := congrArg nI (by first | (simp [tm_da, tm_dk, pk_us, h68, h69]; done) | (simp [tm_da, tm_dk, pk_us, h68, h69]; omega) | omega)
      have ew2 : tm_set Rg (nI a) (Ce dd) = (if u = 8 then Rg else tm_set Rg (nI a) (Ce dd)) := by first | rfl | simp [tm_da, tm_dk, pk_us, h68, h69]
      have ew3 : Ce = (if u = 8 then upd Ce dd (Rg a) else Ce) := by first | rfl | simp [tm_da, tm_dk, pk_us, h68, h69]
      have ew4 : Ac = tm_da Ac kp (nI dd) (if u = 8 then 1 else 0) (if u = 8 then Rg a else Ce dd) := by first | rfl | simp [tm_da, tm_dk, pk_us, h68, h69]
      have hP : va_P D cls [(mo, .inr (4, [.ref li, .ref ra, .ref ca, .ref aa, .int (nI (tm_dk kp (nI dd))), .int he, .int dn, .int en, .ref tr])), (ra, .inl (cI, 8, .inl (if u = 8 then Rg else tm_set Rg (nI a) (Ce dd)))), (ca, .inl (cI, 64, .inl (if u = 8 then upd Ce dd (Rg a) else Ce))), (aa, .inl (cI, 120, .inl (tm_da Ac kp (nI dd) (if u = 8 then 1 else 0) (if u = 8 then Rg a else Ce dd)))), (li, .inr (1, [.ref lf, .int (nI n)])), (lf, .inl (cI, 868, .inl F))] H := by rw [← ew1, ← ew2, ← ew3, ← ew4]; exact hP
      have hD : va_D A [(mo, .inr (4, [.ref li, .ref ra, .ref ca, .ref aa, .int (nI (tm_dk kp (nI dd))), .int he, .int dn, .int en, .ref tr])), (ra, .inl (cI, 8, .inl (if u = 8 then Rg else tm_set Rg (nI a) (Ce dd)))), (ca, .inl (cI, 64, .inl (if u = 8 then upd Ce dd (Rg a) else Ce))), (aa, .inl (cI, 120, .inl (tm_da Ac kp (nI dd) (if u = 8 then 1 else 0) (if u = 8 then Rg a else Ce dd)))), (li, .inr (1, [.ref lf, .int (nI n)])), (lf, .inl (cI, 868, .inl F))] := by rw [← ew1, ← ew2, ← ew3, ← ew4]; exact hD
      exact W.zret (v := 1) hx hb hr (rfl) (fun t9 ht9 hW9 => ⟨⟨1, (), rfl, rfl, by rw [ht9]; exact hP, hD⟩, hS.F ht9⟩) hS.2.2 d_Ma_reachCell_87
    · refine lv_aload_n hx hb d_Ma_reachCell_65 rfl (lv_at hl 1 rfl) ?_
      refine lv_iload_n hx hb d_Ma_reachCell_66 rfl (lv_at hl 4 rfl) ?_
      refine lv_iload hx hb d_Ma_reachCell_67 (lv_at hl 0 rfl) ?_
      refine lv_if_eq (tgt := 76) hx hb d_Ma_reachCell_69 rfl (fun _ => ?_) (fun hz9 => absurd (by decide) hz9)
      refine lv_iconst (v := 0) hx hb d_Ma_reachCell_76 (by decide) ?_
      refine lv_aload_n hx hb d_Ma_reachCell_77 rfl (lv_at hl 1 rfl) ?_
      refine va_get (D := D) (ci := 4) (v := .ref ca) (C := R_Ta) (T := F_Ta) (N := 9) hx hb hg f_Ta hown hK.1 hP 0 rfl rfl 2 (by decide) (hg _ q85) (fun _ h9 => h9) rfl d_Ma_reachCell_78 ?_
      refine lv_iload_n hx hb d_Ma_reachCell_81 rfl (lv_at hl 4 rfl) ?_
      refine xa_ld hx hb hK hP 2 0 rfl rfl (kx := dd) (rfl) (by omega) (by decide) d_Ma_reachCell_82 ?_
      refine xw_go (w2 := [(mo, .inr (4, [.ref li, .ref ra, .ref ca, .ref aa, .int (nI (tm_kk kp)), .int he, .int dn, .int en, .ref tr])), (ra, .inl (cI, 8, .inl (tm_set Rg (nI a) (Ce dd)))), (ca, .inl (cI, 64, .inl Ce)), (aa, .inl (cI, 120, .inl (tm_ka Ac kp (nI dd) 0 (Ce dd)))), (li, .inr (1, [.ref lf, .int (nI n)])), (lf, .inl (cI, 868, .inl F))]) (wr := []) (w1 := [(mo, .inr (4, [.ref li, .ref ra, .ref ca, .ref aa, .int (nI (tm_kk kp)), .int he, .int dn, .int en, .ref tr])), (ra, .inl (cI, 8, .inl (tm_set Rg (nI a) (Ce dd)))), (ca, .inl (cI, 64, .inl Ce)), (aa, .inl (cI, 120, .inl (tm_ka Ac kp (nI dd) 0 (Ce dd)))), (li, .inr (1, [.ref lf, .int (nI n)])), (lf, .inl (cI, 868, .inl F))]) (va_runU (As := [.int (nI dd), .int 0, .int (Ce dd)]) (rest := []) (C := R_Ta) ⟨hx, hb, hml, hown, hg⟩ (c_Ta_keepAccess l D cI cZ cJ mo li ra ca aa lf tr (tm_set Rg (nI a) (Ce dd)) Ce Ac F n kp dn en he (nI dd) 0 (Ce dd) (by omega) H.size) (xg_O (x := ⟨"TwoMachines$Machine", "keepAccess", "(III)V"⟩) (owner := R_Ma) hg m_Ma_keepAccess q495 q761 rfl m_Ma_keepAccess sx_Ta_Ma_keepAccess ⟨by decide, by decide, by decide +kernel⟩ rfl rfl ⟨Nat.le_of_ble_eq_true rfl, Nat.le_of_ble_eq_true rfl⟩) ⟨xw_blind, (va_recv (q0 := 0) hK.1 hP rfl rfl), xw_pre hK hP hD [0, 1, 2, 3, 4, 5] (by decide) rfl⟩ rfl rfl hl.1 rfl (lv_room (Nat.le_of_ble_eq_true rfl)) d_Ma_reachCell_83 ⟨Nat.zero_le _, Nat.zero_le _⟩) hP hD hS hA [0, 1, 2, 3, 4, 5] [] [0, 1, 2, 3, 4, 5] rfl rfl (by decide) (by decide) rfl (by decide) (fun H locs hP hD hS => ?_)
      refine lv_iconst (v := 1) hx hb d_Ma_reachCell_86 (by decide) ?_
      have ew1 : nI (tm_kk kp) = nI (tm_dk kp (nI dd)) := congrArg nI (by first | (simp [tm_da, tm_dk, pk_us, h68, h69]; done) | (simp [tm_da, tm_dk, pk_us, h68, h69]; omega) | omega)
      have ew2 : tm_set Rg (nI a) (Ce dd) = (if u = 8 then Rg else tm_set Rg (nI a) (Ce dd)) := by first | rfl | simp [tm_da, tm_dk, pk_us, h68, h69]
      have ew3 : Ce = (if u = 8 then upd Ce dd (Rg a) else Ce) := by first | rfl | simp [tm_da, tm_dk, pk_us, h68, h69]
      have ew4 : tm_ka Ac kp (nI dd) 0 (Ce dd) = tm_da Ac kp (nI dd) (if u = 8 then 1 else 0) (if u = 8 then Rg a else Ce dd) := by first | rfl | simp [tm_da, tm_dk, pk_us, h68, h69]
      have hP : va_P D cls [(mo, .inr (4, [.ref li, .ref ra, .ref ca, .ref aa, .int (nI (tm_dk kp (nI dd))), .int he, .int dn, .int en, .ref tr])), (ra, .inl (cI, 8, .inl (if u = 8 then Rg else tm_set Rg (nI a) (Ce dd)))), (ca, .inl (cI, 64, .inl (if u = 8 then upd Ce dd (Rg a) else Ce))), (aa, .inl (cI, 120, .inl (tm_da Ac kp (nI dd) (if u = 8 then 1 else 0) (if u = 8 then Rg a else Ce dd)))), (li, .inr (1, [.ref lf, .int (nI n)])), (lf, .inl (cI, 868, .inl F))] H := by rw [← ew1, ← ew2, ← ew3, ← ew4]; exact hP
      have hD : va_D A [(mo, .inr (4, [.ref li, .ref ra, .ref ca, .ref aa, .int (nI (tm_dk kp (nI dd))), .int he, .int dn, .int en, .ref tr])), (ra, .inl (cI, 8, .inl (if u = 8 then Rg else tm_set Rg (nI a) (Ce dd)))), (ca, .inl (cI, 64, .inl (if u = 8 then upd Ce dd (Rg a) else Ce))), (aa, .inl (cI, 120, .inl (tm_da Ac kp (nI dd) (if u = 8 then 1 else 0) (if u = 8 then Rg a else Ce dd)))), (li, .inr (1, [.ref lf, .int (nI n)])), (lf, .inl (cI, 868, .inl F))] := by rw [← ew1, ← ew2, ← ew3, ← ew4]; exact hD
      exact W.zret (v := 1) hx hb hr (rfl) (fun t9 ht9 hW9 => ⟨⟨1, (), rfl, rfl, by rw [ht9]; exact hP, hD⟩, hS.F ht9⟩) hS.2.2 d_Ma_reachCell_87
  · refine lv_iconst (v := 1) hx hb d_Ma_reachCell_21 (by decide) ?_
    refine lv_goto (tgt := 26) hx hb d_Ma_reachCell_22 rfl ?_
    refine lv_istore hx hb d_Ma_reachCell_26 hl (by decide) rfl (fun ls hl => ?_)
    have hl : lv_has ls 5 [(4, .int 1), (0, .ref mo), (1, .int u), (2, .int (nI a)), (3, .int (nI dd))] := hl
    refine lv_iload hx hb d_Ma_reachCell_28 (lv_at hl 0 rfl) ?_
    refine lv_if_eq (tgt := 48) hx hb d_Ma_reachCell_30 rfl (fun hz9 => absurd hz9 (by decide)) (fun _ => ?_)
    refine lv_aload_n hx hb d_Ma_reachCell_33 rfl (lv_at hl 1 rfl) ?_
    refine va_get (D := D) (ci := 4) (v := .ref ca) (C := R_Ta) (T := F_Ta) (N := 9) hx hb hg f_Ta hown hK.1 hP 0 rfl rfl 2 (by decide) (hg _ q85) (fun _ h9 => h9) rfl d_Ma_reachCell_34 ?_
    refine lv_iload_n hx hb d_Ma_reachCell_37 rfl (lv_at hl 4 rfl) ?_
    refine lv_aload_n hx hb d_Ma_reachCell_38 rfl (lv_at hl 1 rfl) ?_
    refine va_get (D := D) (ci := 4) (v := .ref ra) (C := R_Ta) (T := F_Ta) (N := 9) hx hb hg f_Ta hown hK.1 hP 0 rfl rfl 1 (by decide) (hg _ q80) (fun _ h9 => h9) rfl d_Ma_reachCell_39 ?_
    refine lv_iload_n hx hb d_Ma_reachCell_42 rfl (lv_at hl 3 rfl) ?_
    refine xa_ld hx hb hK hP 1 0 rfl rfl (kx := a) (rfl) (by omega) (by decide) d_Ma_reachCell_43 ?_
    refine xa_st hx hb hK hP hD hS 2 0 rfl rfl (kx := dd) (rfl) (by omega) (by decide) d_Ma_reachCell_44 (fun H locs hP hD hS => ?_)
    have hP : va_P D cls [(mo, .inr (4, [.ref li, .ref ra, .ref ca, .ref aa, .int (nI kp), .int he, .int dn, .int en, .ref tr])), (ra, .inl (cI, 8, .inl Rg)), (ca, .inl (cI, 64, .inl (upd Ce dd (Rg a)))), (aa, .inl (cI, 120, .inl Ac)), (li, .inr (1, [.ref lf, .int (nI n)])), (lf, .inl (cI, 868, .inl F))] H := hP
    have hD : va_D A [(mo, .inr (4, [.ref li, .ref ra, .ref ca, .ref aa, .int (nI kp), .int he, .int dn, .int en, .ref tr])), (ra, .inl (cI, 8, .inl Rg)), (ca, .inl (cI, 64, .inl (upd Ce dd (Rg a)))), (aa, .inl (cI, 120, .inl Ac)), (li, .inr (1, [.ref lf, .int (nI n)])), (lf, .inl (cI, 868, .inl F))] := hD
    refine lv_goto (tgt := 59) hx hb d_Ma_reachCell_45 rfl ?_
    refine lv_iload_n hx hb d_Ma_reachCell_59 rfl (lv_at hl 4 rfl) ?_
    refine lv_bipush (v := 32) hx hb d_Ma_reachCell_60 (by decide) ?_
    refine lv_icmp_ge (tgt := 86) hx hb d_Ma_reachCell_62 rfl (fun h70 => ?_) (fun h70 => ?_)
    · refine lv_iconst (v := 1) hx hb d_Ma_reachCell_86 (by decide) ?_
      have ew1 : nI kp = nI (tm_dk kp (nI dd)) := congrArg nI (by first | (simp [tm_da, tm_dk, pk_us, h68, h70]; done) | (simp [tm_da, tm_dk, pk_us, h68, h70]; omega) | omega)
      have ew2 : Rg = (if u = 8 then Rg else tm_set Rg (nI a) (Ce dd)) := by first | rfl | simp [tm_da, tm_dk, pk_us, h68, h70]
      have ew3 : upd Ce dd (Rg a) = (if u = 8 then upd Ce dd (Rg a) else Ce) := by first | rfl | simp [tm_da, tm_dk, pk_us, h68, h70]
      have ew4 : Ac = tm_da Ac kp (nI dd) (if u = 8 then 1 else 0) (if u = 8 then Rg a else Ce dd) := by first | rfl | simp [tm_da, tm_dk, pk_us, h68, h70]
      have hP : va_P D cls [(mo, .inr (4, [.ref li, .ref ra, .ref ca, .ref aa, .int (nI (tm_dk kp (nI dd))), .int he, .int dn, .int en, .ref tr])), (ra, .inl (cI, 8, .inl (if u = 8 then Rg else tm_set Rg (nI a) (Ce dd)))), (ca, .inl (cI, 64, .inl (if u = 8 then upd Ce dd (Rg a) else Ce))), (aa, .inl (cI, 120, .inl (tm_da Ac kp (nI dd) (if u = 8 then 1 else 0) (if u = 8 then Rg a else Ce dd)))), (li, .inr (1, [.ref lf, .int (nI n)])), (lf, .inl (cI, 868, .inl F))] H := by rw [← ew1, ← ew2, ← ew3, ← ew4]; exact hP
      have hD : va_D A [(mo, .inr (4, [.ref li, .ref ra, .ref ca, .ref aa, .int (nI (tm_dk kp (nI dd))), .int he, .int dn, .int en, .ref tr])), (ra, .inl (cI, 8, .inl (if u = 8 then Rg else tm_set Rg (nI a) (Ce dd)))), (ca, .inl (cI, 64, .inl (if u = 8 then upd Ce dd (Rg a) else Ce))), (aa, .inl (cI, 120, .inl (tm_da Ac kp (nI dd) (if u = 8 then 1 else 0) (if u = 8 then Rg a else Ce dd)))), (li, .inr (1, [.ref lf, .int (nI n)])), (lf, .inl (cI, 868, .inl F))] := by rw [← ew1, ← ew2, ← ew3, ← ew4]; exact hD
      exact W.zret (v := 1) hx hb hr (rfl) (fun t9 ht9 hW9 => ⟨⟨1, (), rfl, rfl, by rw [ht9]; exact hP, hD⟩, hS.F ht9⟩) hS.2.2 d_Ma_reachCell_87
    · refine lv_aload_n hx hb d_Ma_reachCell_65 rfl (lv_at hl 1 rfl) ?_
      refine lv_iload_n hx hb d_Ma_reachCell_66 rfl (lv_at hl 4 rfl) ?_
      refine lv_iload hx hb d_Ma_reachCell_67 (lv_at hl 0 rfl) ?_
      refine lv_if_eq (tgt := 76) hx hb d_Ma_reachCell_69 rfl (fun hz9 => absurd hz9 (by decide)) (fun _ => ?_)
      refine lv_iconst (v := 1) hx hb d_Ma_reachCell_72 (by decide) ?_
      refine lv_goto (tgt := 77) hx hb d_Ma_reachCell_73 rfl ?_
      refine lv_aload_n hx hb d_Ma_reachCell_77 rfl (lv_at hl 1 rfl) ?_
      refine va_get (D := D) (ci := 4) (v := .ref ca) (C := R_Ta) (T := F_Ta) (N := 9) hx hb hg f_Ta hown hK.1 hP 0 rfl rfl 2 (by decide) (hg _ q85) (fun _ h9 => h9) rfl d_Ma_reachCell_78 ?_
      refine lv_iload_n hx hb d_Ma_reachCell_81 rfl (lv_at hl 4 rfl) ?_
      refine xa_ld hx hb hK hP 2 0 rfl rfl (kx := dd) (rfl) (by omega) (by decide) d_Ma_reachCell_82 ?_
      refine xw_go (w2 := [(mo, .inr (4, [.ref li, .ref ra, .ref ca, .ref aa, .int (nI (tm_kk kp)), .int he, .int dn, .int en, .ref tr])), (ra, .inl (cI, 8, .inl Rg)), (ca, .inl (cI, 64, .inl (upd Ce dd (Rg a)))), (aa, .inl (cI, 120, .inl (tm_ka Ac kp (nI dd) 1 ((upd Ce dd (Rg a)) dd)))), (li, .inr (1, [.ref lf, .int (nI n)])), (lf, .inl (cI, 868, .inl F))]) (wr := []) (w1 := [(mo, .inr (4, [.ref li, .ref ra, .ref ca, .ref aa, .int (nI (tm_kk kp)), .int he, .int dn, .int en, .ref tr])), (ra, .inl (cI, 8, .inl Rg)), (ca, .inl (cI, 64, .inl (upd Ce dd (Rg a)))), (aa, .inl (cI, 120, .inl (tm_ka Ac kp (nI dd) 1 ((upd Ce dd (Rg a)) dd)))), (li, .inr (1, [.ref lf, .int (nI n)])), (lf, .inl (cI, 868, .inl F))]) (va_runU (As := [.int (nI dd), .int 1, .int ((upd Ce dd (Rg a)) dd)]) (rest := []) (C := R_Ta) ⟨hx, hb, hml, hown, hg⟩ (c_Ta_keepAccess l D cI cZ cJ mo li ra ca aa lf tr Rg (upd Ce dd (Rg a)) Ac F n kp dn en he (nI dd) 1 ((upd Ce dd (Rg a)) dd) (by omega) H.size) (xg_O (x := ⟨"TwoMachines$Machine", "keepAccess", "(III)V"⟩) (owner := R_Ma) hg m_Ma_keepAccess q495 q761 rfl m_Ma_keepAccess sx_Ta_Ma_keepAccess ⟨by decide, by decide, by decide +kernel⟩ rfl rfl ⟨Nat.le_of_ble_eq_true rfl, Nat.le_of_ble_eq_true rfl⟩) ⟨xw_blind, (va_recv (q0 := 0) hK.1 hP rfl rfl), xw_pre hK hP hD [0, 1, 2, 3, 4, 5] (by decide) rfl⟩ rfl rfl hl.1 rfl (lv_room (Nat.le_of_ble_eq_true rfl)) d_Ma_reachCell_83 ⟨Nat.zero_le _, Nat.zero_le _⟩) hP hD hS hA [0, 1, 2, 3, 4, 5] [] [0, 1, 2, 3, 4, 5] rfl rfl (by decide) (by decide) rfl (by decide) (fun H locs hP hD hS => ?_)
      refine lv_iconst (v := 1) hx hb d_Ma_reachCell_86 (by decide) ?_
      have ew1 : nI (tm_kk kp) = nI (tm_dk kp (nI dd)) := congrArg nI (by first | (simp [tm_da, tm_dk, pk_us, h68, h70]; done) | (simp [tm_da, tm_dk, pk_us, h68, h70]; omega) | omega)
      have ew2 : Rg = (if u = 8 then Rg else tm_set Rg (nI a) (Ce dd)) := by first | rfl | simp [tm_da, tm_dk, pk_us, h68, h70]
      have ew3 : upd Ce dd (Rg a) = (if u = 8 then upd Ce dd (Rg a) else Ce) := by first | rfl | simp [tm_da, tm_dk, pk_us, h68, h70]
      have ew4 : tm_ka Ac kp (nI dd) 1 ((upd Ce dd (Rg a)) dd) = tm_da Ac kp (nI dd) (if u = 8 then 1 else 0) (if u = 8 then Rg a else Ce dd) := by first | rfl | simp [tm_da, tm_dk, pk_us, h68, h70]
      have hP : va_P D cls [(mo, .inr (4, [.ref li, .ref ra, .ref ca, .ref aa, .int (nI (tm_dk kp (nI dd))), .int he, .int dn, .int en, .ref tr])), (ra, .inl (cI, 8, .inl (if u = 8 then Rg else tm_set Rg (nI a) (Ce dd)))), (ca, .inl (cI, 64, .inl (if u = 8 then upd Ce dd (Rg a) else Ce))), (aa, .inl (cI, 120, .inl (tm_da Ac kp (nI dd) (if u = 8 then 1 else 0) (if u = 8 then Rg a else Ce dd)))), (li, .inr (1, [.ref lf, .int (nI n)])), (lf, .inl (cI, 868, .inl F))] H := by rw [← ew1, ← ew2, ← ew3, ← ew4]; exact hP
      have hD : va_D A [(mo, .inr (4, [.ref li, .ref ra, .ref ca, .ref aa, .int (nI (tm_dk kp (nI dd))), .int he, .int dn, .int en, .ref tr])), (ra, .inl (cI, 8, .inl (if u = 8 then Rg else tm_set Rg (nI a) (Ce dd)))), (ca, .inl (cI, 64, .inl (if u = 8 then upd Ce dd (Rg a) else Ce))), (aa, .inl (cI, 120, .inl (tm_da Ac kp (nI dd) (if u = 8 then 1 else 0) (if u = 8 then Rg a else Ce dd)))), (li, .inr (1, [.ref lf, .int (nI n)])), (lf, .inl (cI, 868, .inl F))] := by rw [← ew1, ← ew2, ← ew3, ← ew4]; exact hD
      exact W.zret (v := 1) hx hb hr (rfl) (fun t9 ht9 hW9 => ⟨⟨1, (), rfl, rfl, by rw [ht9]; exact hP, hD⟩, hS.F ht9⟩) hS.2.2 d_Ma_reachCell_87
