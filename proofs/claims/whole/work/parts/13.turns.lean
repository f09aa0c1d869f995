/-! MACHINES: an instruction, and a turn (printed by wip/whole/gen/c13.py) -/
set_option maxHeartbeats 4000000 in
set_option maxRecDepth 100000 in
theorem c_So_doSimple_alu (l : Launch) (D : va_G) (cI cZ cJ : ClassId) (mo li ra ca aa lf : Nat) (Rg Ce Ac F : Nat → Int32) (n kp : Nat) (dn en nx : Int32) (q : Nat) (v a b : Nat) (hn : n ≤ 24) (hq : q < n) (hv : F (4 * q) = nI v) (ha : F (4 * q + 1) = nI a) (ha8 : a < 8) (hbb : F (4 * q + 2) = nI b) (hb8 : b < 8) (hv6 : v ≤ 6) : xi_Met l y_Ma_doSimple b_Ma_doSimple 6 (some .boolean) { frames := 2, cells := 0, slots := 0, locals := 43 } [.ref mo, .int (nI v)] D cls (tyL cI cZ cJ) [(mo, .inr (3, [.ref li, .ref ra, .ref ca, .ref aa, .int (nI kp), .int (nI q), .int dn, .int en, .int nx])), (ra, .inl (cI, 8, .inl Rg)), (ca, .inl (cI, 32, .inl Ce)), (aa, .inl (cI, 120, .inl Ac)), (li, .inr (1, [.ref lf, .int (nI n)])), (lf, .inl (cI, 96, .inl F))] [(mo, .inr (3, [.ref li, .ref ra, .ref ca, .ref aa, .int (nI kp), .int (nI q), .int dn, .int en, .int nx])), (ra, .inl (cI, 8, .inl (tm_alu F q Rg))), (ca, .inl (cI, 32, .inl Ce)), (aa, .inl (cI, 120, .inl Ac)), (li, .inr (1, [.ref lf, .int (nI n)])), (lf, .inl (cI, 96, .inl F))] (1) := by
  intro sz
  refine Met.ofW (cc := b_Ma_doSimple) (maxL := 6) (ret := (some .boolean)) (by decide) rfl ?_
  intro p e s m args below meth c s₁ B0 hml hv
  obtain ⟨rfl, hsz, hP, hK, hD0⟩ := hv
  have hx := B0.exec
  have hb := B0.bytes
  have hr := B0.returns
  have hlocks := B0.notSynchronized
  have hg : ∀ w ∈ gG, w.before _ s = true := fun w h => atoms_spec B0.pre w (List.mem_cons_of_mem _ h)
  have hown : s.vm.findClass R_Ma = some m.cls := findClass_of_methodNamed B0.named
  subst hsz
  have hD := hD0.self (sz := s.heap.size)
  generalize hAe : va_A [(mo, .inr (3, [.ref li, .ref ra, .ref ca, .ref aa, .int (nI kp), .int (nI q), .int dn, .int en, .int nx])), (ra, .inl (cI, 8, .inl Rg)), (ca, .inl (cI, 32, .inl Ce)), (aa, .inl (cI, 120, .inl Ac)), (li, .inr (1, [.ref lf, .int (nI n)])), (lf, .inl (cI, 96, .inl F))] s.heap.size = A at hD ⊢
  have hA : ∀ q : Nat, s.heap.size ≤ q → A q := fun q h => by rw [← hAe]; exact Or.inr h
  have hS : va_S A s.heap s.heap [] := va_S.rf
  have hP : va_P D cls [(mo, .inr (3, [.ref li, .ref ra, .ref ca, .ref aa, .int (nI kp), .int (nI q), .int dn, .int en, .int nx])), (ra, .inl (cI, 8, .inl Rg)), (ca, .inl (cI, 32, .inl Ce)), (aa, .inl (cI, 120, .inl Ac)), (li, .inr (1, [.ref lf, .int (nI n)])), (lf, .inl (cI, 96, .inl F))] s.heap := hP
  have hl := lv_entry ([.ref mo, .int (nI v)]) (n := 6) (Nat.le_of_ble_eq_true rfl)
  rw [lg_entry_eq]
  generalize (lg_sl ([.ref mo, .int (nI v)]) ++ List.replicate (6 - (lg_sl ([.ref mo, .int (nI v)])).length) Slot.unset).toArray = ls at hl ⊢
  have hl : lv_has ls 6 [(0, .ref mo), (1, .int (nI v))] := hl
  have hc_a : (nI a).toNatClampNeg = a := nI_clamp (by omega)
  have hc_b : (nI b).toNatClampNeg = b := nI_clamp (by omega)
  obtain ⟨w, hw8, hw⟩ := tm_fm_ix (F (4 * q + 3))
  have hw7 : F (4 * q + 3) &&& 7 = nI w := by rw [← tm_fm_eq]; exact hw
  have hc_w : (nI w).toNatClampNeg = w := nI_clamp (by omega)
  refine lv_aload_n hx hb d_Ma_doSimple_0 rfl (lv_at hl 0 rfl) ?_
  refine va_get (D := D) (ci := 3) (v := .ref li) (C := R_So) (T := F_So) (N := 9) hx hb hg f_So hown hK.1 hP 0 rfl rfl 0 (by decide) (hg _ q75) (fun _ h9 => h9) rfl d_Ma_doSimple_1 ?_
  refine lv_aload_n hx hb d_Ma_doSimple_4 rfl (lv_at hl 0 rfl) ?_
  refine va_get (D := D) (ci := 3) (v := .int (nI q)) (C := R_So) (T := F_So) (N := 9) hx hb hg f_So hown hK.1 hP 0 rfl rfl 5 (by decide) (hg _ q97) (fun _ h9 => h9) rfl d_Ma_doSimple_5 ?_
  refine xr_V (C := R_Li) (As := [.int (nI q)]) (rest := []) ⟨hx, hb, hml, hown, hg⟩ (c_Li_first l D cI cZ cJ li lf 96 F (nI n) q (by omega) (by omega)) m_Li_first q479 q222 ⟨rfl, rfl⟩ ⟨Nat.le_of_ble_eq_true rfl, Nat.le_of_ble_eq_true rfl⟩ hK hP [4, 5] rfl (va_recv (q0 := 4) hK.1 hP rfl rfl) rfl hl.1 rfl (Nat.le_of_ble_eq_true rfl) d_Ma_doSimple_8 ⟨Nat.zero_le _, Nat.zero_le _⟩ ?_
  refine lv_istore_n hx hb d_Ma_doSimple_11 rfl hl (by decide) rfl (fun ls hl => ?_)
  have hl : lv_has ls 6 [(2, .int (F (4 * q + 1))), (0, .ref mo), (1, .int (nI v))] := hl
  refine lv_aload_n hx hb d_Ma_doSimple_12 rfl (lv_at hl 1 rfl) ?_
  refine va_get (D := D) (ci := 3) (v := .ref ra) (C := R_So) (T := F_So) (N := 9) hx hb hg f_So hown hK.1 hP 0 rfl rfl 1 (by decide) (hg _ q80) (fun _ h9 => h9) rfl d_Ma_doSimple_13 ?_
  refine lv_aload_n hx hb d_Ma_doSimple_16 rfl (lv_at hl 1 rfl) ?_
  refine va_get (D := D) (ci := 3) (v := .ref li) (C := R_So) (T := F_So) (N := 9) hx hb hg f_So hown hK.1 hP 0 rfl rfl 0 (by decide) (hg _ q75) (fun _ h9 => h9) rfl d_Ma_doSimple_17 ?_
  refine lv_aload_n hx hb d_Ma_doSimple_20 rfl (lv_at hl 1 rfl) ?_
  refine va_get (D := D) (ci := 3) (v := .int (nI q)) (C := R_So) (T := F_So) (N := 9) hx hb hg f_So hown hK.1 hP 0 rfl rfl 5 (by decide) (hg _ q97) (fun _ h9 => h9) rfl d_Ma_doSimple_21 ?_
  refine xr_V (C := R_Li) (As := [.int (nI q)]) (rest := [.ref ra]) ⟨hx, hb, hml, hown, hg⟩ (c_Li_second l D cI cZ cJ li lf 96 F (nI n) q (by omega) (by omega)) m_Li_second q480 q230 ⟨rfl, rfl⟩ ⟨Nat.le_of_ble_eq_true rfl, Nat.le_of_ble_eq_true rfl⟩ hK hP [4, 5] rfl (va_recv (q0 := 4) hK.1 hP rfl rfl) rfl hl.1 rfl (Nat.le_of_ble_eq_true rfl) d_Ma_doSimple_24 ⟨Nat.zero_le _, Nat.zero_le _⟩ ?_
  refine xa_ld hx hb hK hP 1 0 rfl rfl (kx := b) (hbb) (by omega) (by decide) d_Ma_doSimple_27 ?_
  refine lv_istore_n hx hb d_Ma_doSimple_28 rfl hl (by decide) rfl (fun ls hl => ?_)
  have hl : lv_has ls 6 [(3, .int (Rg b)), (2, .int (F (4 * q + 1))), (0, .ref mo), (1, .int (nI v))] := hl
  refine lv_aload_n hx hb d_Ma_doSimple_29 rfl (lv_at hl 2 rfl) ?_
  refine va_get (D := D) (ci := 3) (v := .ref li) (C := R_So) (T := F_So) (N := 9) hx hb hg f_So hown hK.1 hP 0 rfl rfl 0 (by decide) (hg _ q75) (fun _ h9 => h9) rfl d_Ma_doSimple_30 ?_
  refine lv_aload_n hx hb d_Ma_doSimple_33 rfl (lv_at hl 2 rfl) ?_
  refine va_get (D := D) (ci := 3) (v := .int (nI q)) (C := R_So) (T := F_So) (N := 9) hx hb hg f_So hown hK.1 hP 0 rfl rfl 5 (by decide) (hg _ q97) (fun _ h9 => h9) rfl d_Ma_doSimple_34 ?_
  refine xr_V (C := R_Li) (As := [.int (nI q)]) (rest := []) ⟨hx, hb, hml, hown, hg⟩ (c_Li_third l D cI cZ cJ li lf 96 F (nI n) q (by omega) (by omega)) m_Li_third q481 q201 ⟨rfl, rfl⟩ ⟨Nat.le_of_ble_eq_true rfl, Nat.le_of_ble_eq_true rfl⟩ hK hP [4, 5] rfl (va_recv (q0 := 4) hK.1 hP rfl rfl) rfl hl.1 rfl (Nat.le_of_ble_eq_true rfl) d_Ma_doSimple_37 ⟨Nat.zero_le _, Nat.zero_le _⟩ ?_
  refine lv_istore hx hb d_Ma_doSimple_40 hl (by decide) rfl (fun ls hl => ?_)
  have hl : lv_has ls 6 [(4, .int (F (4 * q + 3))), (3, .int (Rg b)), (2, .int (F (4 * q + 1))), (0, .ref mo), (1, .int (nI v))] := hl
  refine lv_iload_n hx hb d_Ma_doSimple_42 rfl (lv_at hl 4 rfl) ?_
  refine lv_bipush (v := 7) hx hb d_Ma_doSimple_43 (by decide) ?_
  refine lv_icmp_lt (tgt := 62) hx hb d_Ma_doSimple_45 rfl (fun _ => ?_) (fun hz9 => absurd (nI_lt (a := v) (b := 7) (by omega) (by decide)) hz9)
  refine lv_iload_n hx hb d_Ma_doSimple_62 rfl (lv_at hl 4 rfl) ?_
  refine lv_iconst (v := 4) hx hb d_Ma_doSimple_63 (by decide) ?_
  refine lv_icmp_gt (tgt := 82) hx hb d_Ma_doSimple_64 rfl (fun h72 => ?_) (fun h72 => ?_)
  · refine lv_iload hx hb d_Ma_doSimple_82 (lv_at hl 0 rfl) ?_
    refine lv_istore hx hb d_Ma_doSimple_84 hl (by decide) rfl (fun ls hl => ?_)
    have hl : lv_has ls 6 [(5, .int (F (4 * q + 3))), (4, .int (F (4 * q + 3))), (3, .int (Rg b)), (2, .int (F (4 * q + 1))), (0, .ref mo), (1, .int (nI v))] := hl
    refine lv_aload_n hx hb d_Ma_doSimple_86 rfl (lv_at hl 4 rfl) ?_
    refine lv_iload_n hx hb d_Ma_doSimple_87 rfl (lv_at hl 3 rfl) ?_
    refine lv_iload_n hx hb d_Ma_doSimple_88 rfl (lv_at hl 5 rfl) ?_
    refine lv_iload_n hx hb d_Ma_doSimple_89 rfl (lv_at hl 2 rfl) ?_
    refine lv_iload hx hb d_Ma_doSimple_90 (lv_at hl 0 rfl) ?_
    refine xr_S (As := [.int (nI v), .int (Rg b), .int (F (4 * q + 3))]) (rest := [.int (F (4 * q + 1)), .ref mo]) ⟨hx, hb, hml, hown, hg⟩ (c_Ma_calculated l D cI cZ cJ v (Rg b) (F (4 * q + 3)) (by omega)) m_Ma_calculated q500 ⟨rfl, rfl⟩ ⟨Nat.le_of_ble_eq_true rfl, Nat.le_of_ble_eq_true rfl⟩ hK hP [] rfl rfl hl.1 rfl (Nat.le_of_ble_eq_true rfl) d_Ma_doSimple_92 ⟨Nat.zero_le _, Nat.zero_le _⟩ ?_
    have eq9 : (F (4 * q + 1) : Int32) = nI a := ha
    refine W.eq (g2 := F0 m 95 ls [.int (tm_calc (nI v) (Rg b) (F (4 * q + 3))), .int (nI a), .ref mo]) (by rw [eq9]) ?_
    refine xw_go (w2 := [(mo, .inr (3, [.ref li, .ref ra, .ref ca, .ref aa, .int (nI kp), .int (nI q), .int dn, .int en, .int nx])), (ra, .inl (cI, 8, .inl (tm_set Rg (nI a) (tm_calc (nI v) (Rg b) (F (4 * q + 3)))))), (ca, .inl (cI, 32, .inl Ce)), (aa, .inl (cI, 120, .inl Ac)), (li, .inr (1, [.ref lf, .int (nI n)])), (lf, .inl (cI, 96, .inl F))]) (wr := []) (w1 := [(mo, .inr (3, [.ref li, .ref ra, .ref ca, .ref aa, .int (nI kp), .int (nI q), .int dn, .int en, .int nx])), (ra, .inl (cI, 8, .inl (tm_set Rg (nI a) (tm_calc (nI v) (Rg b) (F (4 * q + 3)))))), (ca, .inl (cI, 32, .inl Ce)), (aa, .inl (cI, 120, .inl Ac)), (li, .inr (1, [.ref lf, .int (nI n)])), (lf, .inl (cI, 96, .inl F))]) (va_runU (As := [.int (nI a), .int (tm_calc (nI v) (Rg b) (F (4 * q + 3)))]) (rest := []) (C := R_So) ⟨hx, hb, hml, hown, hg⟩ (c_So_setRegister l D cI cZ cJ mo li ra ca aa lf Rg Ce Ac F n kp dn en nx (nI q) a (tm_calc (nI v) (Rg b) (F (4 * q + 3))) (by omega) s.heap.size) (xg_O (x := ⟨"TwoMachines$Machine", "setRegister", "(II)V"⟩) (owner := R_Ma) hg m_Ma_setRegister q489 q491 rfl m_Ma_setRegister q492 ⟨by decide, by decide, by decide +kernel⟩ rfl rfl ⟨Nat.le_of_ble_eq_true rfl, Nat.le_of_ble_eq_true rfl⟩) ⟨xw_blind, (va_recv (q0 := 0) hK.1 hP rfl rfl), xw_pre hK hP hD [0, 1, 2, 3, 4, 5] (by decide) rfl⟩ rfl rfl hl.1 rfl (lv_room (Nat.le_of_ble_eq_true rfl)) d_Ma_doSimple_95 ⟨Nat.zero_le _, Nat.zero_le _⟩) hP hD hS hA [0, 1, 2, 3, 4, 5] [] [0, 1, 2, 3, 4, 5] rfl rfl (by decide) (by decide) rfl (by decide) (fun H locs hP hD hS => ?_)
    refine lv_iconst (v := 1) hx hb d_Ma_doSimple_98 (by decide) ?_
    have ew1 : tm_set Rg (nI a) (tm_calc (nI v) (Rg b) (F (4 * q + 3))) = tm_alu F q Rg := by first | rfl | simp [tm_alu, ha, hbb, hv, hw7, hc_a, hc_b, hc_w, h72]
    have hP : va_P D cls [(mo, .inr (3, [.ref li, .ref ra, .ref ca, .ref aa, .int (nI kp), .int (nI q), .int dn, .int en, .int nx])), (ra, .inl (cI, 8, .inl (tm_alu F q Rg))), (ca, .inl (cI, 32, .inl Ce)), (aa, .inl (cI, 120, .inl Ac)), (li, .inr (1, [.ref lf, .int (nI n)])), (lf, .inl (cI, 96, .inl F))] H := by rw [← ew1]; exact hP
    have hD : va_D A [(mo, .inr (3, [.ref li, .ref ra, .ref ca, .ref aa, .int (nI kp), .int (nI q), .int dn, .int en, .int nx])), (ra, .inl (cI, 8, .inl (tm_alu F q Rg))), (ca, .inl (cI, 32, .inl Ce)), (aa, .inl (cI, 120, .inl Ac)), (li, .inr (1, [.ref lf, .int (nI n)])), (lf, .inl (cI, 96, .inl F))] := by rw [← ew1]; exact hD
    exact W.zret (v := 1) hx hb hr (rfl) (fun t9 ht9 hW9 => ⟨⟨1, (), rfl, rfl, by rw [ht9]; exact hP, hD⟩, hS.F ht9⟩) hS.2.2 d_Ma_doSimple_99
  · refine lv_aload_n hx hb d_Ma_doSimple_67 rfl (lv_at hl 3 rfl) ?_
    refine va_get (D := D) (ci := 3) (v := .ref ra) (C := R_So) (T := F_So) (N := 9) hx hb hg f_So hown hK.1 hP 0 rfl rfl 1 (by decide) (hg _ q80) (fun _ h9 => h9) rfl d_Ma_doSimple_68 ?_
    refine lv_iload hx hb d_Ma_doSimple_71 (lv_at hl 0 rfl) ?_
    refine lv_bipush (v := 8) hx hb d_Ma_doSimple_73 (by decide) ?_
    refine xr_S (As := [.int (F (4 * q + 3)), .int 8]) (rest := [.ref ra]) ⟨hx, hb, hml, hown, hg⟩ (c_JM_floorMod l D cI cZ cJ (F (4 * q + 3))) m_JM_floorMod q499 ⟨rfl, rfl⟩ ⟨Nat.le_of_ble_eq_true rfl, Nat.le_of_ble_eq_true rfl⟩ hK hP [] rfl rfl hl.1 rfl (Nat.le_of_ble_eq_true rfl) d_Ma_doSimple_75 ⟨Nat.zero_le _, Nat.zero_le _⟩ ?_
    refine xa_ld hx hb hK hP 1 0 rfl rfl (kx := w) (hw) (by omega) (by decide) d_Ma_doSimple_78 ?_
    refine lv_goto (tgt := 84) hx hb d_Ma_doSimple_79 rfl ?_
    refine lv_istore hx hb d_Ma_doSimple_84 hl (by decide) rfl (fun ls hl => ?_)
    have hl : lv_has ls 6 [(5, .int (Rg w)), (4, .int (F (4 * q + 3))), (3, .int (Rg b)), (2, .int (F (4 * q + 1))), (0, .ref mo), (1, .int (nI v))] := hl
    refine lv_aload_n hx hb d_Ma_doSimple_86 rfl (lv_at hl 4 rfl) ?_
    refine lv_iload_n hx hb d_Ma_doSimple_87 rfl (lv_at hl 3 rfl) ?_
    refine lv_iload_n hx hb d_Ma_doSimple_88 rfl (lv_at hl 5 rfl) ?_
    refine lv_iload_n hx hb d_Ma_doSimple_89 rfl (lv_at hl 2 rfl) ?_
    refine lv_iload hx hb d_Ma_doSimple_90 (lv_at hl 0 rfl) ?_
    refine xr_S (As := [.int (nI v), .int (Rg b), .int (Rg w)]) (rest := [.int (F (4 * q + 1)), .ref mo]) ⟨hx, hb, hml, hown, hg⟩ (c_Ma_calculated l D cI cZ cJ v (Rg b) (Rg w) (by omega)) m_Ma_calculated q500 ⟨rfl, rfl⟩ ⟨Nat.le_of_ble_eq_true rfl, Nat.le_of_ble_eq_true rfl⟩ hK hP [] rfl rfl hl.1 rfl (Nat.le_of_ble_eq_true rfl) d_Ma_doSimple_92 ⟨Nat.zero_le _, Nat.zero_le _⟩ ?_
    have eq9 : (F (4 * q + 1) : Int32) = nI a := ha
    refine W.eq (g2 := F0 m 95 ls [.int (tm_calc (nI v) (Rg b) (Rg w)), .int (nI a), .ref mo]) (by rw [eq9]) ?_
    refine xw_go (w2 := [(mo, .inr (3, [.ref li, .ref ra, .ref ca, .ref aa, .int (nI kp), .int (nI q), .int dn, .int en, .int nx])), (ra, .inl (cI, 8, .inl (tm_set Rg (nI a) (tm_calc (nI v) (Rg b) (Rg w))))), (ca, .inl (cI, 32, .inl Ce)), (aa, .inl (cI, 120, .inl Ac)), (li, .inr (1, [.ref lf, .int (nI n)])), (lf, .inl (cI, 96, .inl F))]) (wr := []) (w1 := [(mo, .inr (3, [.ref li, .ref ra, .ref ca, .ref aa, .int (nI kp), .int (nI q), .int dn, .int en, .int nx])), (ra, .inl (cI, 8, .inl (tm_set Rg (nI a) (tm_calc (nI v) (Rg b) (Rg w))))), (ca, .inl (cI, 32, .inl Ce)), (aa, .inl (cI, 120, .inl Ac)), (li, .inr (1, [.ref lf, .int (nI n)])), (lf, .inl (cI, 96, .inl F))]) (va_runU (As := [.int (nI a), .int (tm_calc (nI v) (Rg b) (Rg w))]) (rest := []) (C := R_So) ⟨hx, hb, hml, hown, hg⟩ (c_So_setRegister l D cI cZ cJ mo li ra ca aa lf Rg Ce Ac F n kp dn en nx (nI q) a (tm_calc (nI v) (Rg b) (Rg w)) (by omega) s.heap.size) (xg_O (x := ⟨"TwoMachines$Machine", "setRegister", "(II)V"⟩) (owner := R_Ma) hg m_Ma_setRegister q489 q491 rfl m_Ma_setRegister q492 ⟨by decide, by decide, by decide +kernel⟩ rfl rfl ⟨Nat.le_of_ble_eq_true rfl, Nat.le_of_ble_eq_true rfl⟩) ⟨xw_blind, (va_recv (q0 := 0) hK.1 hP rfl rfl), xw_pre hK hP hD [0, 1, 2, 3, 4, 5] (by decide) rfl⟩ rfl rfl hl.1 rfl (lv_room (Nat.le_of_ble_eq_true rfl)) d_Ma_doSimple_95 ⟨Nat.zero_le _, Nat.zero_le _⟩) hP hD hS hA [0, 1, 2, 3, 4, 5] [] [0, 1, 2, 3, 4, 5] rfl rfl (by decide) (by decide) rfl (by decide) (fun H locs hP hD hS => ?_)
    refine lv_iconst (v := 1) hx hb d_Ma_doSimple_98 (by decide) ?_
    have ew1 : tm_set Rg (nI a) (tm_calc (nI v) (Rg b) (Rg w)) = tm_alu F q Rg := by first | rfl | simp [tm_alu, ha, hbb, hv, hw7, hc_a, hc_b, hc_w, h72]
    have hP : va_P D cls [(mo, .inr (3, [.ref li, .ref ra, .ref ca, .ref aa, .int (nI kp), .int (nI q), .int dn, .int en, .int nx])), (ra, .inl (cI, 8, .inl (tm_alu F q Rg))), (ca, .inl (cI, 32, .inl Ce)), (aa, .inl (cI, 120, .inl Ac)), (li, .inr (1, [.ref lf, .int (nI n)])), (lf, .inl (cI, 96, .inl F))] H := by rw [← ew1]; exact hP
    have hD : va_D A [(mo, .inr (3, [.ref li, .ref ra, .ref ca, .ref aa, .int (nI kp), .int (nI q), .int dn, .int en, .int nx])), (ra, .inl (cI, 8, .inl (tm_alu F q Rg))), (ca, .inl (cI, 32, .inl Ce)), (aa, .inl (cI, 120, .inl Ac)), (li, .inr (1, [.ref lf, .int (nI n)])), (lf, .inl (cI, 96, .inl F))] := by rw [← ew1]; exact hD
    exact W.zret (v := 1) hx hb hr (rfl) (fun t9 ht9 hW9 => ⟨⟨1, (), rfl, rfl, by rw [ht9]; exact hP, hD⟩, hS.F ht9⟩) hS.2.2 d_Ma_doSimple_99

set_option maxHeartbeats 4000000 in
set_option maxRecDepth 100000 in
theorem c_So_doSimple_out (l : Launch) (D : va_G) (cI cZ cJ : ClassId) (mo li ra ca aa lf : Nat) (Rg Ce Ac F : Nat → Int32) (n kp : Nat) (dn en nx : Int32) (q : Nat) (v a b : Nat) (hn : n ≤ 24) (hq : q < n) (ha : F (4 * q + 1) = nI a) (ha8 : a < 8) (hbb : F (4 * q + 2) = nI b) (hb8 : b < 8) (hv7 : 7 ≤ v) (hv8 : v ≤ 13) (ho : tm_adr F q Rg < 0 ∨ nI 32 ≤ tm_adr F q Rg) : xi_Met l y_Ma_doSimple b_Ma_doSimple 6 (some .boolean) { frames := 2, cells := 0, slots := 0, locals := 43 } [.ref mo, .int (nI v)] D cls (tyL cI cZ cJ) [(mo, .inr (3, [.ref li, .ref ra, .ref ca, .ref aa, .int (nI kp), .int (nI q), .int dn, .int en, .int nx])), (ra, .inl (cI, 8, .inl Rg)), (ca, .inl (cI, 32, .inl Ce)), (aa, .inl (cI, 120, .inl Ac)), (li, .inr (1, [.ref lf, .int (nI n)])), (lf, .inl (cI, 96, .inl F))] [(mo, .inr (3, [.ref li, .ref ra, .ref ca, .ref aa, .int (nI kp), .int (nI q), .int dn, .int en, .int nx])), (ra, .inl (cI, 8, .inl Rg)), (ca, .inl (cI, 32, .inl Ce)), (aa, .inl (cI, 120, .inl Ac)), (li, .inr (1, [.ref lf, .int (nI n)])), (lf, .inl (cI, 96, .inl F))] (0) := by
  intro sz
  refine Met.ofW (cc := b_Ma_doSimple) (maxL := 6) (ret := (some .boolean)) (by decide) rfl ?_
  intro p e s m args below meth c s₁ B0 hml hv
  obtain ⟨rfl, hsz, hP, hK, hD0⟩ := hv
  have hx := B0.exec
  have hb := B0.bytes
  have hr := B0.returns
  have hlocks := B0.notSynchronized
  have hg : ∀ w ∈ gG, w.before _ s = true := fun w h => atoms_spec B0.pre w (List.mem_cons_of_mem _ h)
  have hown : s.vm.findClass R_Ma = some m.cls := findClass_of_methodNamed B0.named
  subst hsz
  have hD := hD0.self (sz := s.heap.size)
  generalize hAe : va_A [(mo, .inr (3, [.ref li, .ref ra, .ref ca, .ref aa, .int (nI kp), .int (nI q), .int dn, .int en, .int nx])), (ra, .inl (cI, 8, .inl Rg)), (ca, .inl (cI, 32, .inl Ce)), (aa, .inl (cI, 120, .inl Ac)), (li, .inr (1, [.ref lf, .int (nI n)])), (lf, .inl (cI, 96, .inl F))] s.heap.size = A at hD ⊢
  have hA : ∀ q : Nat, s.heap.size ≤ q → A q := fun q h => by rw [← hAe]; exact Or.inr h
  have hS : va_S A s.heap s.heap [] := va_S.rf
  have hP : va_P D cls [(mo, .inr (3, [.ref li, .ref ra, .ref ca, .ref aa, .int (nI kp), .int (nI q), .int dn, .int en, .int nx])), (ra, .inl (cI, 8, .inl Rg)), (ca, .inl (cI, 32, .inl Ce)), (aa, .inl (cI, 120, .inl Ac)), (li, .inr (1, [.ref lf, .int (nI n)])), (lf, .inl (cI, 96, .inl F))] s.heap := hP
  have hl := lv_entry ([.ref mo, .int (nI v)]) (n := 6) (Nat.le_of_ble_eq_true rfl)
  rw [lg_entry_eq]
  generalize (lg_sl ([.ref mo, .int (nI v)]) ++ List.replicate (6 - (lg_sl ([.ref mo, .int (nI v)])).length) Slot.unset).toArray = ls at hl ⊢
  have hl : lv_has ls 6 [(0, .ref mo), (1, .int (nI v))] := hl
  have hc_a : (nI a).toNatClampNeg = a := nI_clamp (by omega)
  have hc_b : (nI b).toNatClampNeg = b := nI_clamp (by omega)
  refine lv_aload_n hx hb d_Ma_doSimple_0 rfl (lv_at hl 0 rfl) ?_
  refine va_get (D := D) (ci := 3) (v := .ref li) (C := R_So) (T := F_So) (N := 9) hx hb hg f_So hown hK.1 hP 0 rfl rfl 0 (by decide) (hg _ q75) (fun _ h9 => h9) rfl d_Ma_doSimple_1 ?_
  refine lv_aload_n hx hb d_Ma_doSimple_4 rfl (lv_at hl 0 rfl) ?_
  refine va_get (D := D) (ci := 3) (v := .int (nI q)) (C := R_So) (T := F_So) (N := 9) hx hb hg f_So hown hK.1 hP 0 rfl rfl 5 (by decide) (hg _ q97) (fun _ h9 => h9) rfl d_Ma_doSimple_5 ?_
  refine xr_V (C := R_Li) (As := [.int (nI q)]) (rest := []) ⟨hx, hb, hml, hown, hg⟩ (c_Li_first l D cI cZ cJ li lf 96 F (nI n) q (by omega) (by omega)) m_Li_first q479 q222 ⟨rfl, rfl⟩ ⟨Nat.le_of_ble_eq_true rfl, Nat.le_of_ble_eq_true rfl⟩ hK hP [4, 5] rfl (va_recv (q0 := 4) hK.1 hP rfl rfl) rfl hl.1 rfl (Nat.le_of_ble_eq_true rfl) d_Ma_doSimple_8 ⟨Nat.zero_le _, Nat.zero_le _⟩ ?_
  refine lv_istore_n hx hb d_Ma_doSimple_11 rfl hl (by decide) rfl (fun ls hl => ?_)
  have hl : lv_has ls 6 [(2, .int (F (4 * q + 1))), (0, .ref mo), (1, .int (nI v))] := hl
  refine lv_aload_n hx hb d_Ma_doSimple_12 rfl (lv_at hl 1 rfl) ?_
  refine va_get (D := D) (ci := 3) (v := .ref ra) (C := R_So) (T := F_So) (N := 9) hx hb hg f_So hown hK.1 hP 0 rfl rfl 1 (by decide) (hg _ q80) (fun _ h9 => h9) rfl d_Ma_doSimple_13 ?_
  refine lv_aload_n hx hb d_Ma_doSimple_16 rfl (lv_at hl 1 rfl) ?_
  refine va_get (D := D) (ci := 3) (v := .ref li) (C := R_So) (T := F_So) (N := 9) hx hb hg f_So hown hK.1 hP 0 rfl rfl 0 (by decide) (hg _ q75) (fun _ h9 => h9) rfl d_Ma_doSimple_17 ?_
  refine lv_aload_n hx hb d_Ma_doSimple_20 rfl (lv_at hl 1 rfl) ?_
  refine va_get (D := D) (ci := 3) (v := .int (nI q)) (C := R_So) (T := F_So) (N := 9) hx hb hg f_So hown hK.1 hP 0 rfl rfl 5 (by decide) (hg _ q97) (fun _ h9 => h9) rfl d_Ma_doSimple_21 ?_
  refine xr_V (C := R_Li) (As := [.int (nI q)]) (rest := [.ref ra]) ⟨hx, hb, hml, hown, hg⟩ (c_Li_second l D cI cZ cJ li lf 96 F (nI n) q (by omega) (by omega)) m_Li_second q480 q230 ⟨rfl, rfl⟩ ⟨Nat.le_of_ble_eq_true rfl, Nat.le_of_ble_eq_true rfl⟩ hK hP [4, 5] rfl (va_recv (q0 := 4) hK.1 hP rfl rfl) rfl hl.1 rfl (Nat.le_of_ble_eq_true rfl) d_Ma_doSimple_24 ⟨Nat.zero_le _, Nat.zero_le _⟩ ?_
  refine xa_ld hx hb hK hP 1 0 rfl rfl (kx := b) (hbb) (by omega) (by decide) d_Ma_doSimple_27 ?_
  refine lv_istore_n hx hb d_Ma_doSimple_28 rfl hl (by decide) rfl (fun ls hl => ?_)
  have hl : lv_has ls 6 [(3, .int (Rg b)), (2, .int (F (4 * q + 1))), (0, .ref mo), (1, .int (nI v))] := hl
  refine lv_aload_n hx hb d_Ma_doSimple_29 rfl (lv_at hl 2 rfl) ?_
  refine va_get (D := D) (ci := 3) (v := .ref li) (C := R_So) (T := F_So) (N := 9) hx hb hg f_So hown hK.1 hP 0 rfl rfl 0 (by decide) (hg _ q75) (fun _ h9 => h9) rfl d_Ma_doSimple_30 ?_
  refine lv_aload_n hx hb d_Ma_doSimple_33 rfl (lv_at hl 2 rfl) ?_
  refine va_get (D := D) (ci := 3) (v := .int (nI q)) (C := R_So) (T := F_So) (N := 9) hx hb hg f_So hown hK.1 hP 0 rfl rfl 5 (by decide) (hg _ q97) (fun _ h9 => h9) rfl d_Ma_doSimple_34 ?_
  refine xr_V (C := R_Li) (As := [.int (nI q)]) (rest := []) ⟨hx, hb, hml, hown, hg⟩ (c_Li_third l D cI cZ cJ li lf 96 F (nI n) q (by omega) (by omega)) m_Li_third q481 q201 ⟨rfl, rfl⟩ ⟨Nat.le_of_ble_eq_true rfl, Nat.le_of_ble_eq_true rfl⟩ hK hP [4, 5] rfl (va_recv (q0 := 4) hK.1 hP rfl rfl) rfl hl.1 rfl (Nat.le_of_ble_eq_true rfl) d_Ma_doSimple_37 ⟨Nat.zero_le _, Nat.zero_le _⟩ ?_
  refine lv_istore hx hb d_Ma_doSimple_40 hl (by decide) rfl (fun ls hl => ?_)
  have hl : lv_has ls 6 [(4, .int (F (4 * q + 3))), (3, .int (Rg b)), (2, .int (F (4 * q + 1))), (0, .ref mo), (1, .int (nI v))] := hl
  refine lv_iload_n hx hb d_Ma_doSimple_42 rfl (lv_at hl 4 rfl) ?_
  refine lv_bipush (v := 7) hx hb d_Ma_doSimple_43 (by decide) ?_
  refine lv_icmp_lt (tgt := 62) hx hb d_Ma_doSimple_45 rfl (fun hz9 => absurd hz9 (nI_nlt (a := v) (b := 7) (by omega) (by omega))) (fun _ => ?_)
  refine lv_aload_n hx hb d_Ma_doSimple_48 rfl (lv_at hl 3 rfl) ?_
  refine lv_iload_n hx hb d_Ma_doSimple_49 rfl (lv_at hl 4 rfl) ?_
  refine lv_iload_n hx hb d_Ma_doSimple_50 rfl (lv_at hl 2 rfl) ?_
  refine lv_iload_n hx hb d_Ma_doSimple_51 rfl (lv_at hl 1 rfl) ?_
  refine lv_iload hx hb d_Ma_doSimple_52 (lv_at hl 0 rfl) ?_
  refine lv_iadd hx hb d_Ma_doSimple_54 ?_
  refine xr_S (As := [.int ((Rg b) + (F (4 * q + 3)))]) (rest := [.int (F (4 * q + 1)), .int (nI v), .ref mo]) ⟨hx, hb, hml, hown, hg⟩ (c_Ma_wrapped l D cI cZ cJ ((Rg b) + (F (4 * q + 3)))) m_Ma_wrapped q482 ⟨rfl, rfl⟩ ⟨Nat.le_of_ble_eq_true rfl, Nat.le_of_ble_eq_true rfl⟩ hK hP [] rfl rfl hl.1 rfl (Nat.le_of_ble_eq_true rfl) d_Ma_doSimple_55 ⟨Nat.zero_le _, Nat.zero_le _⟩ ?_
  have eq9 : (tm_wr ((Rg b) + (F (4 * q + 3))) : Int32) = tm_adr F q Rg := by simp [tm_adr, hbb, hc_b]
  refine W.eq (g2 := F0 m 58 ls [.int (tm_adr F q Rg), .int (F (4 * q + 1)), .int (nI v), .ref mo]) (by rw [eq9]) ?_
  refine xi_go (w2 := [(mo, .inr (3, [.ref li, .ref ra, .ref ca, .ref aa, .int (nI kp), .int (nI q), .int dn, .int en, .int nx])), (ra, .inl (cI, 8, .inl Rg)), (ca, .inl (cI, 32, .inl Ce)), (aa, .inl (cI, 120, .inl Ac)), (li, .inr (1, [.ref lf, .int (nI n)])), (lf, .inl (cI, 96, .inl F))]) (wr := []) (w1 := [(mo, .inr (3, [.ref li, .ref ra, .ref ca, .ref aa, .int (nI kp), .int (nI q), .int dn, .int en, .int nx])), (ra, .inl (cI, 8, .inl Rg)), (ca, .inl (cI, 32, .inl Ce)), (aa, .inl (cI, 120, .inl Ac)), (li, .inr (1, [.ref lf, .int (nI n)])), (lf, .inl (cI, 96, .inl F))]) (va_runU (As := [.int (nI v), .int (F (4 * q + 1)), .int (tm_adr F q Rg)]) (rest := []) (C := R_So) ⟨hx, hb, hml, hown, hg⟩ (c_So_reachCell_out l D cI cZ cJ mo li ra ca aa lf Rg Ce Ac F n kp dn en nx (nI q) (nI v) (F (4 * q + 1)) (tm_adr F q Rg) (ho) s.heap.size) (xg_O (x := ⟨"TwoMachines$Machine", "reachCell", "(III)Z"⟩) (owner := R_Ma) hg m_Ma_reachCell q485 q760 rfl m_Ma_reachCell sx_So_Ma_reachCell ⟨by decide, by decide, by decide +kernel⟩ rfl rfl ⟨Nat.le_of_ble_eq_true rfl, Nat.le_of_ble_eq_true rfl⟩) ⟨xw_blind, (va_recv (q0 := 0) hK.1 hP rfl rfl), xw_pre hK hP hD [0, 1, 2, 3, 4, 5] (by decide) rfl⟩ rfl rfl hl.1 rfl (lv_room (Nat.le_of_ble_eq_true rfl)) d_Ma_doSimple_58 ⟨Nat.zero_le _, Nat.zero_le _⟩) hP hD hS hA [0, 1, 2, 3, 4, 5] [] [0, 1, 2, 3, 4, 5] rfl rfl (by decide) (by decide) rfl (by decide) (fun H locs hP hD hS => ?_)
  have hP : va_P D cls [(mo, .inr (3, [.ref li, .ref ra, .ref ca, .ref aa, .int (nI kp), .int (nI q), .int dn, .int en, .int nx])), (ra, .inl (cI, 8, .inl Rg)), (ca, .inl (cI, 32, .inl Ce)), (aa, .inl (cI, 120, .inl Ac)), (li, .inr (1, [.ref lf, .int (nI n)])), (lf, .inl (cI, 96, .inl F))] H := by exact hP
  have hD : va_D A [(mo, .inr (3, [.ref li, .ref ra, .ref ca, .ref aa, .int (nI kp), .int (nI q), .int dn, .int en, .int nx])), (ra, .inl (cI, 8, .inl Rg)), (ca, .inl (cI, 32, .inl Ce)), (aa, .inl (cI, 120, .inl Ac)), (li, .inr (1, [.ref lf, .int (nI n)])), (lf, .inl (cI, 96, .inl F))] := by exact hD
  exact W.zret (v := 0) hx hb hr (rfl) (fun t9 ht9 hW9 => ⟨⟨0, (), rfl, rfl, by rw [ht9]; exact hP, hD⟩, hS.F ht9⟩) hS.2.2 d_Ma_doSimple_61

set_option maxHeartbeats 4000000 in
set_option maxRecDepth 100000 in
theorem c_So_doSimple_in (l : Launch) (D : va_G) (cI cZ cJ : ClassId) (mo li ra ca aa lf : Nat) (Rg Ce Ac F : Nat → Int32) (n kp : Nat) (dn en nx : Int32) (q : Nat) (v a b : Nat) (dd : Nat) (hn : n ≤ 24) (hq : q < n) (hv : F (4 * q) = nI v) (ha : F (4 * q + 1) = nI a) (ha8 : a < 8) (hbb : F (4 * q + 2) = nI b) (hb8 : b < 8) (hv7 : 7 ≤ v) (hv8 : v ≤ 13) (hkp : kp ≤ 40) (hd : tm_adr F q Rg = nI dd) (hdM : dd < 32) : xi_Met l y_Ma_doSimple b_Ma_doSimple 6 (some .boolean) { frames := 2, cells := 0, slots := 0, locals := 48 } [.ref mo, .int (nI v)] D cls (tyL cI cZ cJ) [(mo, .inr (3, [.ref li, .ref ra, .ref ca, .ref aa, .int (nI kp), .int (nI q), .int dn, .int en, .int nx])), (ra, .inl (cI, 8, .inl Rg)), (ca, .inl (cI, 32, .inl Ce)), (aa, .inl (cI, 120, .inl Ac)), (li, .inr (1, [.ref lf, .int (nI n)])), (lf, .inl (cI, 96, .inl F))] [(mo, .inr (3, [.ref li, .ref ra, .ref ca, .ref aa, .int (nI (tm_dk kp (tm_adr F q Rg))), .int (nI q), .int dn, .int en, .int nx])), (ra, .inl (cI, 8, .inl (tm_mR F q Rg Ce))), (ca, .inl (cI, 32, .inl (tm_mC F q Rg Ce))), (aa, .inl (cI, 120, .inl (tm_mA F q Rg Ce Ac kp))), (li, .inr (1, [.ref lf, .int (nI n)])), (lf, .inl (cI, 96, .inl F))] (1) := by
  intro sz
  refine Met.ofW (cc := b_Ma_doSimple) (maxL := 6) (ret := (some .boolean)) (by decide) rfl ?_
  intro p e s m args below meth c s₁ B0 hml hv
  obtain ⟨rfl, hsz, hP, hK, hD0⟩ := hv
  have hx := B0.exec
  have hb := B0.bytes
  have hr := B0.returns
  have hlocks := B0.notSynchronized
  have hg : ∀ w ∈ gG, w.before _ s = true := fun w h => atoms_spec B0.pre w (List.mem_cons_of_mem _ h)
  have hown : s.vm.findClass R_Ma = some m.cls := findClass_of_methodNamed B0.named
  subst hsz
  have hD := hD0.self (sz := s.heap.size)
  generalize hAe : va_A [(mo, .inr (3, [.ref li, .ref ra, .ref ca, .ref aa, .int (nI kp), .int (nI q), .int dn, .int en, .int nx])), (ra, .inl (cI, 8, .inl Rg)), (ca, .inl (cI, 32, .inl Ce)), (aa, .inl (cI, 120, .inl Ac)), (li, .inr (1, [.ref lf, .int (nI n)])), (lf, .inl (cI, 96, .inl F))] s.heap.size = A at hD ⊢
  have hA : ∀ q : Nat, s.heap.size ≤ q → A q := fun q h => by rw [← hAe]; exact Or.inr h
  have hS : va_S A s.heap s.heap [] := va_S.rf
  have hP : va_P D cls [(mo, .inr (3, [.ref li, .ref ra, .ref ca, .ref aa, .int (nI kp), .int (nI q), .int dn, .int en, .int nx])), (ra, .inl (cI, 8, .inl Rg)), (ca, .inl (cI, 32, .inl Ce)), (aa, .inl (cI, 120, .inl Ac)), (li, .inr (1, [.ref lf, .int (nI n)])), (lf, .inl (cI, 96, .inl F))] s.heap := hP
  have hl := lv_entry ([.ref mo, .int (nI v)]) (n := 6) (Nat.le_of_ble_eq_true rfl)
  rw [lg_entry_eq]
  generalize (lg_sl ([.ref mo, .int (nI v)]) ++ List.replicate (6 - (lg_sl ([.ref mo, .int (nI v)])).length) Slot.unset).toArray = ls at hl ⊢
  have hl : lv_has ls 6 [(0, .ref mo), (1, .int (nI v))] := hl
  have hc_a : (nI a).toNatClampNeg = a := nI_clamp (by omega)
  have hc_b : (nI b).toNatClampNeg = b := nI_clamp (by omega)
  have hc_dd : (nI dd).toNatClampNeg = dd := nI_clamp (by omega)
  refine lv_aload_n hx hb d_Ma_doSimple_0 rfl (lv_at hl 0 rfl) ?_
  refine va_get (D := D) (ci := 3) (v := .ref li) (C := R_So) (T := F_So) (N := 9) hx hb hg f_So hown hK.1 hP 0 rfl rfl 0 (by decide) (hg _ q75) (fun _ h9 => h9) rfl d_Ma_doSimple_1 ?_
  refine lv_aload_n hx hb d_Ma_doSimple_4 rfl (lv_at hl 0 rfl) ?_
  refine va_get (D := D) (ci := 3) (v := .int (nI q)) (C := R_So) (T := F_So) (N := 9) hx hb hg f_So hown hK.1 hP 0 rfl rfl 5 (by decide) (hg _ q97) (fun _ h9 => h9) rfl d_Ma_doSimple_5 ?_
  refine xr_V (C := R_Li) (As := [.int (nI q)]) (rest := []) ⟨hx, hb, hml, hown, hg⟩ (c_Li_first l D cI cZ cJ li lf 96 F (nI n) q (by omega) (by omega)) m_Li_first q479 q222 ⟨rfl, rfl⟩ ⟨Nat.le_of_ble_eq_true rfl, Nat.le_of_ble_eq_true rfl⟩ hK hP [4, 5] rfl (va_recv (q0 := 4) hK.1 hP rfl rfl) rfl hl.1 rfl (Nat.le_of_ble_eq_true rfl) d_Ma_doSimple_8 ⟨Nat.zero_le _, Nat.zero_le _⟩ ?_
  refine lv_istore_n hx hb d_Ma_doSimple_11 rfl hl (by decide) rfl (fun ls hl => ?_)
  have hl : lv_has ls 6 [(2, .int (F (4 * q + 1))), (0, .ref mo), (1, .int (nI v))] := hl
  refine lv_aload_n hx hb d_Ma_doSimple_12 rfl (lv_at hl 1 rfl) ?_
  refine va_get (D := D) (ci := 3) (v := .ref ra) (C := R_So) (T := F_So) (N := 9) hx hb hg f_So hown hK.1 hP 0 rfl rfl 1 (by decide) (hg _ q80) (fun _ h9 => h9) rfl d_Ma_doSimple_13 ?_
  refine lv_aload_n hx hb d_Ma_doSimple_16 rfl (lv_at hl 1 rfl) ?_
  refine va_get (D := D) (ci := 3) (v := .ref li) (C := R_So) (T := F_So) (N := 9) hx hb hg f_So hown hK.1 hP 0 rfl rfl 0 (by decide) (hg _ q75) (fun _ h9 => h9) rfl d_Ma_doSimple_17 ?_
  refine lv_aload_n hx hb d_Ma_doSimple_20 rfl (lv_at hl 1 rfl) ?_
  refine va_get (D := D) (ci := 3) (v := .int (nI q)) (C := R_So) (T := F_So) (N := 9) hx hb hg f_So hown hK.1 hP 0 rfl rfl 5 (by decide) (hg _ q97) (fun _ h9 => h9) rfl d_Ma_doSimple_21 ?_
  refine xr_V (C := R_Li) (As := [.int (nI q)]) (rest := [.ref ra]) ⟨hx, hb, hml, hown, hg⟩ (c_Li_second l D cI cZ cJ li lf 96 F (nI n) q (by omega) (by omega)) m_Li_second q480 q230 ⟨rfl, rfl⟩ ⟨Nat.le_of_ble_eq_true rfl, Nat.le_of_ble_eq_true rfl⟩ hK hP [4, 5] rfl (va_recv (q0 := 4) hK.1 hP rfl rfl) rfl hl.1 rfl (Nat.le_of_ble_eq_true rfl) d_Ma_doSimple_24 ⟨Nat.zero_le _, Nat.zero_le _⟩ ?_
  refine xa_ld hx hb hK hP 1 0 rfl rfl (kx := b) (hbb) (by omega) (by decide) d_Ma_doSimple_27 ?_
  refine lv_istore_n hx hb d_Ma_doSimple_28 rfl hl (by decide) rfl (fun ls hl => ?_)
  have hl : lv_has ls 6 [(3, .int (Rg b)), (2, .int (F (4 * q + 1))), (0, .ref mo), (1, .int (nI v))] := hl
  refine lv_aload_n hx hb d_Ma_doSimple_29 rfl (lv_at hl 2 rfl) ?_
  refine va_get (D := D) (ci := 3) (v := .ref li) (C := R_So) (T := F_So) (N := 9) hx hb hg f_So hown hK.1 hP 0 rfl rfl 0 (by decide) (hg _ q75) (fun _ h9 => h9) rfl d_Ma_doSimple_30 ?_
  refine lv_aload_n hx hb d_Ma_doSimple_33 rfl (lv_at hl 2 rfl) ?_
  refine va_get (D := D) (ci := 3) (v := .int (nI q)) (C := R_So) (T := F_So) (N := 9) hx hb hg f_So hown hK.1 hP 0 rfl rfl 5 (by decide) (hg _ q97) (fun _ h9 => h9) rfl d_Ma_doSimple_34 ?_
  refine xr_V (C := R_Li) (As := [.int (nI q)]) (rest := []) ⟨hx, hb, hml, hown, hg⟩ (c_Li_third l D cI cZ cJ li lf 96 F (nI n) q (by omega) (by omega)) m_Li_third q481 q201 ⟨rfl, rfl⟩ ⟨Nat.le_of_ble_eq_true rfl, Nat.le_of_ble_eq_true rfl⟩ hK hP [4, 5] rfl (va_recv (q0 := 4) hK.1 hP rfl rfl) rfl hl.1 rfl (Nat.le_of_ble_eq_true rfl) d_Ma_doSimple_37 ⟨Nat.zero_le _, Nat.zero_le _⟩ ?_
  refine lv_istore hx hb d_Ma_doSimple_40 hl (by decide) rfl (fun ls hl => ?_)
  have hl : lv_has ls 6 [(4, .int (F (4 * q + 3))), (3, .int (Rg b)), (2, .int (F (4 * q + 1))), (0, .ref mo), (1, .int (nI v))] := hl
  refine lv_iload_n hx hb d_Ma_doSimple_42 rfl (lv_at hl 4 rfl) ?_
  refine lv_bipush (v := 7) hx hb d_Ma_doSimple_43 (by decide) ?_
  refine lv_icmp_lt (tgt := 62) hx hb d_Ma_doSimple_45 rfl (fun hz9 => absurd hz9 (nI_nlt (a := v) (b := 7) (by omega) (by omega))) (fun _ => ?_)
  refine lv_aload_n hx hb d_Ma_doSimple_48 rfl (lv_at hl 3 rfl) ?_
  refine lv_iload_n hx hb d_Ma_doSimple_49 rfl (lv_at hl 4 rfl) ?_
  refine lv_iload_n hx hb d_Ma_doSimple_50 rfl (lv_at hl 2 rfl) ?_
  refine lv_iload_n hx hb d_Ma_doSimple_51 rfl (lv_at hl 1 rfl) ?_
  refine lv_iload hx hb d_Ma_doSimple_52 (lv_at hl 0 rfl) ?_
  refine lv_iadd hx hb d_Ma_doSimple_54 ?_
  refine xr_S (As := [.int ((Rg b) + (F (4 * q + 3)))]) (rest := [.int (F (4 * q + 1)), .int (nI v), .ref mo]) ⟨hx, hb, hml, hown, hg⟩ (c_Ma_wrapped l D cI cZ cJ ((Rg b) + (F (4 * q + 3)))) m_Ma_wrapped q482 ⟨rfl, rfl⟩ ⟨Nat.le_of_ble_eq_true rfl, Nat.le_of_ble_eq_true rfl⟩ hK hP [] rfl rfl hl.1 rfl (Nat.le_of_ble_eq_true rfl) d_Ma_doSimple_55 ⟨Nat.zero_le _, Nat.zero_le _⟩ ?_
  have eq9 : (tm_wr ((Rg b) + (F (4 * q + 3))) : Int32) = tm_adr F q Rg := by simp [tm_adr, hbb, hc_b]
  refine W.eq (g2 := F0 m 58 ls [.int (tm_adr F q Rg), .int (F (4 * q + 1)), .int (nI v), .ref mo]) (by rw [eq9]) ?_
  have eq9 : (tm_adr F q Rg : Int32) = nI dd := hd
  refine W.eq (g2 := F0 m 58 ls [.int (nI dd), .int (F (4 * q + 1)), .int (nI v), .ref mo]) (by rw [eq9]) ?_
  have eq9 : (F (4 * q + 1) : Int32) = nI a := ha
  refine W.eq (g2 := F0 m 58 ls [.int (nI dd), .int (nI a), .int (nI v), .ref mo]) (by rw [eq9]) ?_
  refine xi_go (w2 := [(mo, .inr (3, [.ref li, .ref ra, .ref ca, .ref aa, .int (nI (tm_dk kp (nI dd))), .int (nI q), .int dn, .int en, .int nx])), (ra, .inl (cI, 8, .inl (if (nI v) = 8 then Rg else tm_set Rg (nI a) (Ce dd)))), (ca, .inl (cI, 32, .inl (if (nI v) = 8 then upd Ce dd (Rg a) else Ce))), (aa, .inl (cI, 120, .inl (tm_da Ac kp (nI dd) (if (nI v) = 8 then 1 else 0) (if (nI v) = 8 then Rg a else Ce dd)))), (li, .inr (1, [.ref lf, .int (nI n)])), (lf, .inl (cI, 96, .inl F))]) (wr := []) (w1 := [(mo, .inr (3, [.ref li, .ref ra, .ref ca, .ref aa, .int (nI (tm_dk kp (nI dd))), .int (nI q), .int dn, .int en, .int nx])), (ra, .inl (cI, 8, .inl (if (nI v) = 8 then Rg else tm_set Rg (nI a) (Ce dd)))), (ca, .inl (cI, 32, .inl (if (nI v) = 8 then upd Ce dd (Rg a) else Ce))), (aa, .inl (cI, 120, .inl (tm_da Ac kp (nI dd) (if (nI v) = 8 then 1 else 0) (if (nI v) = 8 then Rg a else Ce dd)))), (li, .inr (1, [.ref lf, .int (nI n)])), (lf, .inl (cI, 96, .inl F))]) (va_runU (As := [.int (nI v), .int (nI a), .int (nI dd)]) (rest := []) (C := R_So) ⟨hx, hb, hml, hown, hg⟩ (c_So_reachCell_in l D cI cZ cJ mo li ra ca aa lf Rg Ce Ac F n kp dn en nx (nI q) (nI v) a dd (ha8) (hdM) (hkp) s.heap.size) (xg_O (x := ⟨"TwoMachines$Machine", "reachCell", "(III)Z"⟩) (owner := R_Ma) hg m_Ma_reachCell q485 q760 rfl m_Ma_reachCell sx_So_Ma_reachCell ⟨by decide, by decide, by decide +kernel⟩ rfl rfl ⟨Nat.le_of_ble_eq_true rfl, Nat.le_of_ble_eq_true rfl⟩) ⟨xw_blind, (va_recv (q0 := 0) hK.1 hP rfl rfl), xw_pre hK hP hD [0, 1, 2, 3, 4, 5] (by decide) rfl⟩ rfl rfl hl.1 rfl (lv_room (Nat.le_of_ble_eq_true rfl)) d_Ma_doSimple_58 ⟨Nat.zero_le _, Nat.zero_le _⟩) hP hD hS hA [0, 1, 2, 3, 4, 5] [] [0, 1, 2, 3, 4, 5] rfl rfl (by decide) (by decide) rfl (by decide) (fun H locs hP hD hS => ?_)
  have ew1 : nI (tm_dk kp (nI dd)) = nI (tm_dk kp (tm_adr F q Rg)) := congrArg nI (by first | (simp [tm_mR, tm_mC, tm_mA, ha, hbb, hv, hd, hc_a, hc_dd]; done) | (simp [tm_mR, tm_mC, tm_mA, ha, hbb, hv, hd, hc_a, hc_dd]; omega) | omega)
  have ew2 : (if (nI v) = 8 then Rg else tm_set Rg (nI a) (Ce dd)) = tm_mR F q Rg Ce := by first | rfl | simp [tm_mR, tm_mC, tm_mA, ha, hbb, hv, hd, hc_a, hc_dd]
  have ew3 : (if (nI v) = 8 then upd Ce dd (Rg a) else Ce) = tm_mC F q Rg Ce := by first | rfl | simp [tm_mR, tm_mC, tm_mA, ha, hbb, hv, hd, hc_a, hc_dd]
  have ew4 : tm_da Ac kp (nI dd) (if (nI v) = 8 then 1 else 0) (if (nI v) = 8 then Rg a else Ce dd) = tm_mA F q Rg Ce Ac kp := by first | rfl | simp [tm_mR, tm_mC, tm_mA, ha, hbb, hv, hd, hc_a, hc_dd]
  have hP : va_P D cls [(mo, .inr (3, [.ref li, .ref ra, .ref ca, .ref aa, .int (nI (tm_dk kp (tm_adr F q Rg))), .int (nI q), .int dn, .int en, .int nx])), (ra, .inl (cI, 8, .inl (tm_mR F q Rg Ce))), (ca, .inl (cI, 32, .inl (tm_mC F q Rg Ce))), (aa, .inl (cI, 120, .inl (tm_mA F q Rg Ce Ac kp))), (li, .inr (1, [.ref lf, .int (nI n)])), (lf, .inl (cI, 96, .inl F))] H := by rw [← ew1, ← ew2, ← ew3, ← ew4]; exact hP
  have hD : va_D A [(mo, .inr (3, [.ref li, .ref ra, .ref ca, .ref aa, .int (nI (tm_dk kp (tm_adr F q Rg))), .int (nI q), .int dn, .int en, .int nx])), (ra, .inl (cI, 8, .inl (tm_mR F q Rg Ce))), (ca, .inl (cI, 32, .inl (tm_mC F q Rg Ce))), (aa, .inl (cI, 120, .inl (tm_mA F q Rg Ce Ac kp))), (li, .inr (1, [.ref lf, .int (nI n)])), (lf, .inl (cI, 96, .inl F))] := by rw [← ew1, ← ew2, ← ew3, ← ew4]; exact hD
  exact W.zret (v := 1) hx hb hr (rfl) (fun t9 ht9 hW9 => ⟨⟨1, (), rfl, rfl, by rw [ht9]; exact hP, hD⟩, hS.F ht9⟩) hS.2.2 d_Ma_doSimple_61

set_option maxHeartbeats 4000000 in
set_option maxRecDepth 100000 in
theorem c_So_howItStops (l : Launch) (D : va_G) (cI cZ cJ : ClassId) (mo li ra ca aa lf : Nat) (Rg Ce Ac F : Nat → Int32) (n kp : Nat) (dn en nx : Int32) (q : Nat) : xr_Met l y_So_howItStops b_So_howItStops 1 (some .int) { frames := 0, cells := 0, slots := 0, locals := 0 } [.ref mo] (xb D cls [(mo, .inr (3, [.ref li, .ref ra, .ref ca, .ref aa, .int (nI kp), .int (nI q), .int dn, .int en, .int nx])), (ra, .inl (cI, 8, .inl Rg)), (ca, .inl (cI, 32, .inl Ce)), (aa, .inl (cI, 120, .inl Ac)), (li, .inr (1, [.ref lf, .int (nI n)])), (lf, .inl (cI, 96, .inl F))] (tyL cI cZ cJ)) (1) := by
  refine Met.ofW (cc := b_So_howItStops) (maxL := 1) (ret := (some .int)) (by decide) rfl ?_
  intro p e s m args below meth c s₁ B0 hml hv
  obtain ⟨rfl, hP, hK⟩ := hv
  have hx := B0.exec
  have hb := B0.bytes
  have hr := B0.returns
  have hlocks := B0.notSynchronized
  have hg : ∀ w ∈ gG, w.before _ s = true := fun w h => atoms_spec B0.pre w (List.mem_cons_of_mem _ h)
  have hown : s.vm.findClass R_So = some m.cls := findClass_of_methodNamed B0.named
  have hP : va_P D cls [(mo, .inr (3, [.ref li, .ref ra, .ref ca, .ref aa, .int (nI kp), .int (nI q), .int dn, .int en, .int nx])), (ra, .inl (cI, 8, .inl Rg)), (ca, .inl (cI, 32, .inl Ce)), (aa, .inl (cI, 120, .inl Ac)), (li, .inr (1, [.ref lf, .int (nI n)])), (lf, .inl (cI, 96, .inl F))] s.heap := hP
  have hl := lv_entry ([.ref mo]) (n := 1) (Nat.le_of_ble_eq_true rfl)
  rw [lg_entry_eq]
  generalize (lg_sl ([.ref mo]) ++ List.replicate (1 - (lg_sl ([.ref mo])).length) Slot.unset).toArray = ls at hl ⊢
  have hl : lv_has ls 1 [(0, .ref mo)] := hl
  refine lv_iconst (v := 1) hx hb d_So_howItStops_0 (by decide) ?_
  exact W.iret (v := 1) hx hb hr (fun t9 ht9 hW9 => ⟨1, rfl, rfl, ht9⟩) (fun _ h => by cases h) d_So_howItStops_1

set_option maxHeartbeats 4000000 in
set_option maxRecDepth 100000 in
theorem c_So_branch (l : Launch) (D : va_G) (cI cZ cJ : ClassId) (mo li ra ca aa lf : Nat) (Rg Ce Ac F : Nat → Int32) (n kp : Nat) (dn en nx : Int32) (q : Nat) (v a b : Nat) (hn : n ≤ 24) (hq : q < n) (hv : F (4 * q) = nI v) (ha : F (4 * q + 1) = nI a) (ha8 : a < 8) (hbb : F (4 * q + 2) = nI b) (hb8 : b < 8) (hv9 : 9 ≤ v) (hv13 : v ≤ 13) : xi_Met l y_So_branch b_So_branch 5 (some .int) { frames := 2, cells := 0, slots := 0, locals := 43 } [.ref mo, .int (nI v)] D cls (tyL cI cZ cJ) [(mo, .inr (3, [.ref li, .ref ra, .ref ca, .ref aa, .int (nI kp), .int (nI q), .int dn, .int en, .int nx])), (ra, .inl (cI, 8, .inl Rg)), (ca, .inl (cI, 32, .inl Ce)), (aa, .inl (cI, 120, .inl Ac)), (li, .inr (1, [.ref lf, .int (nI n)])), (lf, .inl (cI, 96, .inl F))] [(mo, .inr (3, [.ref li, .ref ra, .ref ca, .ref aa, .int (nI kp), .int (nI q), .int dn, .int en, .int nx])), (ra, .inl (cI, 8, .inl (if F (4 * q) = 12 then tm_set Rg 7 (nI (q + 2)) else Rg))), (ca, .inl (cI, 32, .inl Ce)), (aa, .inl (cI, 120, .inl Ac)), (li, .inr (1, [.ref lf, .int (nI n)])), (lf, .inl (cI, 96, .inl F))] (tm_sb F q Rg nx) := by
  intro sz
  refine Met.ofW (cc := b_So_branch) (maxL := 5) (ret := (some .int)) (by decide) rfl ?_
  intro p e s m args below meth c s₁ B0 hml hv
  obtain ⟨rfl, hsz, hP, hK, hD0⟩ := hv
  have hx := B0.exec
  have hb := B0.bytes
  have hr := B0.returns
  have hlocks := B0.notSynchronized
  have hg : ∀ w ∈ gG, w.before _ s = true := fun w h => atoms_spec B0.pre w (List.mem_cons_of_mem _ h)
  have hown : s.vm.findClass R_So = some m.cls := findClass_of_methodNamed B0.named
  subst hsz
  have hD := hD0.self (sz := s.heap.size)
  generalize hAe : va_A [(mo, .inr (3, [.ref li, .ref ra, .ref ca, .ref aa, .int (nI kp), .int (nI q), .int dn, .int en, .int nx])), (ra, .inl (cI, 8, .inl Rg)), (ca, .inl (cI, 32, .inl Ce)), (aa, .inl (cI, 120, .inl Ac)), (li, .inr (1, [.ref lf, .int (nI n)])), (lf, .inl (cI, 96, .inl F))] s.heap.size = A at hD ⊢
  have hA : ∀ q : Nat, s.heap.size ≤ q → A q := fun q h => by rw [← hAe]; exact Or.inr h
  have hS : va_S A s.heap s.heap [] := va_S.rf
  have hP : va_P D cls [(mo, .inr (3, [.ref li, .ref ra, .ref ca, .ref aa, .int (nI kp), .int (nI q), .int dn, .int en, .int nx])), (ra, .inl (cI, 8, .inl Rg)), (ca, .inl (cI, 32, .inl Ce)), (aa, .inl (cI, 120, .inl Ac)), (li, .inr (1, [.ref lf, .int (nI n)])), (lf, .inl (cI, 96, .inl F))] s.heap := hP
  have hl := lv_entry ([.ref mo, .int (nI v)]) (n := 5) (Nat.le_of_ble_eq_true rfl)
  rw [lg_entry_eq]
  generalize (lg_sl ([.ref mo, .int (nI v)]) ++ List.replicate (5 - (lg_sl ([.ref mo, .int (nI v)])).length) Slot.unset).toArray = ls at hl ⊢
  have hl : lv_has ls 5 [(0, .ref mo), (1, .int (nI v))] := hl
  have hc_a : (nI a).toNatClampNeg = a := nI_clamp (by omega)
  have hc_b : (nI b).toNatClampNeg = b := nI_clamp (by omega)
  have h77 : nI 7 = (7 : Int32) := rfl
  refine lv_aload_n hx hb d_So_branch_0 rfl (lv_at hl 0 rfl) ?_
  refine va_get (D := D) (ci := 3) (v := .ref ra) (C := R_So) (T := F_So) (N := 9) hx hb hg f_So hown hK.1 hP 0 rfl rfl 1 (by decide) (hg _ q81) (fun x9 h9 => u_same (hg _ q82) x9 h9) rfl d_So_branch_1 ?_
  refine lv_aload_n hx hb d_So_branch_4 rfl (lv_at hl 0 rfl) ?_
  refine va_get (D := D) (ci := 3) (v := .ref li) (C := R_So) (T := F_So) (N := 9) hx hb hg f_So hown hK.1 hP 0 rfl rfl 0 (by decide) (hg _ q78) (fun x9 h9 => u_same (hg _ q79) x9 h9) rfl d_So_branch_5 ?_
  refine lv_aload_n hx hb d_So_branch_8 rfl (lv_at hl 0 rfl) ?_
  refine va_get (D := D) (ci := 3) (v := .int (nI q)) (C := R_So) (T := F_So) (N := 9) hx hb hg f_So hown hK.1 hP 0 rfl rfl 5 (by decide) (hg _ q95) (fun x9 h9 => u_same (hg _ q96) x9 h9) rfl d_So_branch_9 ?_
  refine xr_V (C := R_Li) (As := [.int (nI q)]) (rest := [.ref ra]) ⟨hx, hb, hml, hown, hg⟩ (c_Li_first l D cI cZ cJ li lf 96 F (nI n) q (by omega) (by omega)) m_Li_first q523 q222 ⟨rfl, rfl⟩ ⟨Nat.le_of_ble_eq_true rfl, Nat.le_of_ble_eq_true rfl⟩ hK hP [4, 5] rfl (va_recv (q0 := 4) hK.1 hP rfl rfl) rfl hl.1 rfl (Nat.le_of_ble_eq_true rfl) d_So_branch_12 ⟨Nat.zero_le _, Nat.zero_le _⟩ ?_
  refine xa_ld hx hb hK hP 1 0 rfl rfl (kx := a) (ha) (by omega) (by decide) d_So_branch_15 ?_
  refine lv_istore_n hx hb d_So_branch_16 rfl hl (by decide) rfl (fun ls hl => ?_)
  have hl : lv_has ls 5 [(2, .int (Rg a)), (0, .ref mo), (1, .int (nI v))] := hl
  refine lv_aload_n hx hb d_So_branch_17 rfl (lv_at hl 1 rfl) ?_
  refine va_get (D := D) (ci := 3) (v := .ref ra) (C := R_So) (T := F_So) (N := 9) hx hb hg f_So hown hK.1 hP 0 rfl rfl 1 (by decide) (hg _ q81) (fun x9 h9 => u_same (hg _ q82) x9 h9) rfl d_So_branch_18 ?_
  refine lv_aload_n hx hb d_So_branch_21 rfl (lv_at hl 1 rfl) ?_
  refine va_get (D := D) (ci := 3) (v := .ref li) (C := R_So) (T := F_So) (N := 9) hx hb hg f_So hown hK.1 hP 0 rfl rfl 0 (by decide) (hg _ q78) (fun x9 h9 => u_same (hg _ q79) x9 h9) rfl d_So_branch_22 ?_
  refine lv_aload_n hx hb d_So_branch_25 rfl (lv_at hl 1 rfl) ?_
  refine va_get (D := D) (ci := 3) (v := .int (nI q)) (C := R_So) (T := F_So) (N := 9) hx hb hg f_So hown hK.1 hP 0 rfl rfl 5 (by decide) (hg _ q95) (fun x9 h9 => u_same (hg _ q96) x9 h9) rfl d_So_branch_26 ?_
  refine xr_V (C := R_Li) (As := [.int (nI q)]) (rest := [.ref ra]) ⟨hx, hb, hml, hown, hg⟩ (c_Li_second l D cI cZ cJ li lf 96 F (nI n) q (by omega) (by omega)) m_Li_second q524 q230 ⟨rfl, rfl⟩ ⟨Nat.le_of_ble_eq_true rfl, Nat.le_of_ble_eq_true rfl⟩ hK hP [4, 5] rfl (va_recv (q0 := 4) hK.1 hP rfl rfl) rfl hl.1 rfl (Nat.le_of_ble_eq_true rfl) d_So_branch_29 ⟨Nat.zero_le _, Nat.zero_le _⟩ ?_
  refine xa_ld hx hb hK hP 1 0 rfl rfl (kx := b) (hbb) (by omega) (by decide) d_So_branch_32 ?_
  refine lv_istore_n hx hb d_So_branch_33 rfl hl (by decide) rfl (fun ls hl => ?_)
  have hl : lv_has ls 5 [(3, .int (Rg b)), (2, .int (Rg a)), (0, .ref mo), (1, .int (nI v))] := hl
  refine lv_aload_n hx hb d_So_branch_34 rfl (lv_at hl 2 rfl) ?_
  refine va_get (D := D) (ci := 3) (v := .ref li) (C := R_So) (T := F_So) (N := 9) hx hb hg f_So hown hK.1 hP 0 rfl rfl 0 (by decide) (hg _ q78) (fun x9 h9 => u_same (hg _ q79) x9 h9) rfl d_So_branch_35 ?_
  refine lv_aload_n hx hb d_So_branch_38 rfl (lv_at hl 2 rfl) ?_
  refine va_get (D := D) (ci := 3) (v := .int (nI q)) (C := R_So) (T := F_So) (N := 9) hx hb hg f_So hown hK.1 hP 0 rfl rfl 5 (by decide) (hg _ q95) (fun x9 h9 => u_same (hg _ q96) x9 h9) rfl d_So_branch_39 ?_
  refine xr_V (C := R_Li) (As := [.int (nI q)]) (rest := []) ⟨hx, hb, hml, hown, hg⟩ (c_Li_third l D cI cZ cJ li lf 96 F (nI n) q (by omega) (by omega)) m_Li_third q525 q201 ⟨rfl, rfl⟩ ⟨Nat.le_of_ble_eq_true rfl, Nat.le_of_ble_eq_true rfl⟩ hK hP [4, 5] rfl (va_recv (q0 := 4) hK.1 hP rfl rfl) rfl hl.1 rfl (Nat.le_of_ble_eq_true rfl) d_So_branch_42 ⟨Nat.zero_le _, Nat.zero_le _⟩ ?_
  refine lv_istore hx hb d_So_branch_45 hl (by decide) rfl (fun ls hl => ?_)
  have hl : lv_has ls 5 [(4, .int (F (4 * q + 3))), (3, .int (Rg b)), (2, .int (Rg a)), (0, .ref mo), (1, .int (nI v))] := hl
  refine lv_iload_n hx hb d_So_branch_47 rfl (lv_at hl 4 rfl) ?_
  rcases (show v = 9 ∨ v = 10 ∨ v = 11 ∨ v = 12 ∨ v = 13 by omega) with e0 | e0 | e0 | e0 | e0
  · subst e0
    have hv : F (4 * q) = 9 := hv
    refine lv_tableIn (x := nI 9) (off := 36) (tgt := 84) hx hb d_So_branch_48 (by decide) (by decide) rfl rfl ?_
    refine lv_iload_n hx hb d_So_branch_84 rfl (lv_at hl 2 rfl) ?_
    refine lv_iload_n hx hb d_So_branch_85 rfl (lv_at hl 1 rfl) ?_
    refine lv_icmp_ne (tgt := 101) hx hb d_So_branch_86 rfl (fun h75 => ?_) (fun h75 => ?_)
    · refine lv_aload_n hx hb d_So_branch_101 rfl (lv_at hl 3 rfl) ?_
      refine va_get (D := D) (ci := 3) (v := .int nx) (C := R_So) (T := F_So) (N := 9) hx hb hg f_So hown hK.1 hP 0 rfl rfl 8 (by decide) (hg _ q74) (fun _ h9 => h9) rfl d_So_branch_102 ?_
      refine lv_iconst (v := 1) hx hb d_So_branch_105 (by decide) ?_
      refine lv_iadd hx hb d_So_branch_106 ?_
      have ew1 : Rg = (if F (4 * q) = 12 then tm_set Rg 7 (nI (q + 2)) else Rg) := by first | rfl | simp [tm_sb, ha, hbb, hc_a, hc_b, h77, hv, h75]
      have hP : va_P D cls [(mo, .inr (3, [.ref li, .ref ra, .ref ca, .ref aa, .int (nI kp), .int (nI q), .int dn, .int en, .int nx])), (ra, .inl (cI, 8, .inl (if F (4 * q) = 12 then tm_set Rg 7 (nI (q + 2)) else Rg))), (ca, .inl (cI, 32, .inl Ce)), (aa, .inl (cI, 120, .inl Ac)), (li, .inr (1, [.ref lf, .int (nI n)])), (lf, .inl (cI, 96, .inl F))] s.heap := by rw [← ew1]; exact hP
      have hD : va_D A [(mo, .inr (3, [.ref li, .ref ra, .ref ca, .ref aa, .int (nI kp), .int (nI q), .int dn, .int en, .int nx])), (ra, .inl (cI, 8, .inl (if F (4 * q) = 12 then tm_set Rg 7 (nI (q + 2)) else Rg))), (ca, .inl (cI, 32, .inl Ce)), (aa, .inl (cI, 120, .inl Ac)), (li, .inr (1, [.ref lf, .int (nI n)])), (lf, .inl (cI, 96, .inl F))] := by rw [← ew1]; exact hD
      exact W.iret (v := nx + 1) hx hb hr (fun t9 ht9 hW9 => ⟨⟨nx + 1, (), rfl, by simp [tm_sb, ha, hbb, hc_a, hc_b, h77, hv, h75], by rw [ht9]; exact hP, hD⟩, hS.F ht9⟩) hS.2.2 d_So_branch_107
    · refine lv_aload_n hx hb d_So_branch_89 rfl (lv_at hl 3 rfl) ?_
      refine va_get (D := D) (ci := 3) (v := .int (nI q)) (C := R_So) (T := F_So) (N := 9) hx hb hg f_So hown hK.1 hP 0 rfl rfl 5 (by decide) (hg _ q95) (fun x9 h9 => u_same (hg _ q96) x9 h9) rfl d_So_branch_90 ?_
      refine lv_iconst (v := 1) hx hb d_So_branch_93 (by decide) ?_
      refine lv_iadd hx hb d_So_branch_94 ?_
      have eq9 : ((nI q) + 1 : Int32) = nI (q + 1) := nI_add q 1
      refine W.eq (g2 := F0 m 95 ls [.int (nI (q + 1))]) (by rw [eq9]) ?_
      refine lv_iload hx hb d_So_branch_95 (lv_at hl 0 rfl) ?_
      refine lv_iadd hx hb d_So_branch_97 ?_
      refine lv_goto (tgt := 107) hx hb d_So_branch_98 rfl ?_
      have ew1 : Rg = (if F (4 * q) = 12 then tm_set Rg 7 (nI (q + 2)) else Rg) := by first | rfl | simp [tm_sb, ha, hbb, hc_a, hc_b, h77, hv, h75]
      have hP : va_P D cls [(mo, .inr (3, [.ref li, .ref ra, .ref ca, .ref aa, .int (nI kp), .int (nI q), .int dn, .int en, .int nx])), (ra, .inl (cI, 8, .inl (if F (4 * q) = 12 then tm_set Rg 7 (nI (q + 2)) else Rg))), (ca, .inl (cI, 32, .inl Ce)), (aa, .inl (cI, 120, .inl Ac)), (li, .inr (1, [.ref lf, .int (nI n)])), (lf, .inl (cI, 96, .inl F))] s.heap := by rw [← ew1]; exact hP
      have hD : va_D A [(mo, .inr (3, [.ref li, .ref ra, .ref ca, .ref aa, .int (nI kp), .int (nI q), .int dn, .int en, .int nx])), (ra, .inl (cI, 8, .inl (if F (4 * q) = 12 then tm_set Rg 7 (nI (q + 2)) else Rg))), (ca, .inl (cI, 32, .inl Ce)), (aa, .inl (cI, 120, .inl Ac)), (li, .inr (1, [.ref lf, .int (nI n)])), (lf, .inl (cI, 96, .inl F))] := by rw [← ew1]; exact hD
      exact W.iret (v := (nI (q + 1)) + (F (4 * q + 3))) hx hb hr (fun t9 ht9 hW9 => ⟨⟨(nI (q + 1)) + (F (4 * q + 3)), (), rfl, by simp [tm_sb, ha, hbb, hc_a, hc_b, h77, hv, h75], by rw [ht9]; exact hP, hD⟩, hS.F ht9⟩) hS.2.2 d_So_branch_107
  · subst e0
    have hv : F (4 * q) = 10 := hv
    refine lv_tableIn (x := nI 10) (off := 60) (tgt := 108) hx hb d_So_branch_48 (by decide) (by decide) rfl rfl ?_
    refine lv_iload_n hx hb d_So_branch_108 rfl (lv_at hl 2 rfl) ?_
    refine lv_iload_n hx hb d_So_branch_109 rfl (lv_at hl 1 rfl) ?_
    refine lv_icmp_eq (tgt := 125) hx hb d_So_branch_110 rfl (fun h76 => ?_) (fun h76 => ?_)
    · refine lv_aload_n hx hb d_So_branch_125 rfl (lv_at hl 3 rfl) ?_
      refine va_get (D := D) (ci := 3) (v := .int nx) (C := R_So) (T := F_So) (N := 9) hx hb hg f_So hown hK.1 hP 0 rfl rfl 8 (by decide) (hg _ q74) (fun _ h9 => h9) rfl d_So_branch_126 ?_
      refine lv_iconst (v := 1) hx hb d_So_branch_129 (by decide) ?_
      refine lv_iadd hx hb d_So_branch_130 ?_
      have ew1 : Rg = (if F (4 * q) = 12 then tm_set Rg 7 (nI (q + 2)) else Rg) := by first | rfl | simp [tm_sb, ha, hbb, hc_a, hc_b, h77, hv, h76]
      have hP : va_P D cls [(mo, .inr (3, [.ref li, .ref ra, .ref ca, .ref aa, .int (nI kp), .int (nI q), .int dn, .int en, .int nx])), (ra, .inl (cI, 8, .inl (if F (4 * q) = 12 then tm_set Rg 7 (nI (q + 2)) else Rg))), (ca, .inl (cI, 32, .inl Ce)), (aa, .inl (cI, 120, .inl Ac)), (li, .inr (1, [.ref lf, .int (nI n)])), (lf, .inl (cI, 96, .inl F))] s.heap := by rw [← ew1]; exact hP
      have hD : va_D A [(mo, .inr (3, [.ref li, .ref ra, .ref ca, .ref aa, .int (nI kp), .int (nI q), .int dn, .int en, .int nx])), (ra, .inl (cI, 8, .inl (if F (4 * q) = 12 then tm_set Rg 7 (nI (q + 2)) else Rg))), (ca, .inl (cI, 32, .inl Ce)), (aa, .inl (cI, 120, .inl Ac)), (li, .inr (1, [.ref lf, .int (nI n)])), (lf, .inl (cI, 96, .inl F))] := by rw [← ew1]; exact hD
      exact W.iret (v := nx + 1) hx hb hr (fun t9 ht9 hW9 => ⟨⟨nx + 1, (), rfl, by simp [tm_sb, ha, hbb, hc_a, hc_b, h77, hv, h76], by rw [ht9]; exact hP, hD⟩, hS.F ht9⟩) hS.2.2 d_So_branch_131
    · refine lv_aload_n hx hb d_So_branch_113 rfl (lv_at hl 3 rfl) ?_
      refine va_get (D := D) (ci := 3) (v := .int (nI q)) (C := R_So) (T := F_So) (N := 9) hx hb hg f_So hown hK.1 hP 0 rfl rfl 5 (by decide) (hg _ q95) (fun x9 h9 => u_same (hg _ q96) x9 h9) rfl d_So_branch_114 ?_
      refine lv_iconst (v := 1) hx hb d_So_branch_117 (by decide) ?_
      refine lv_iadd hx hb d_So_branch_118 ?_
      have eq9 : ((nI q) + 1 : Int32) = nI (q + 1) := nI_add q 1
      refine W.eq (g2 := F0 m 119 ls [.int (nI (q + 1))]) (by rw [eq9]) ?_
      refine lv_iload hx hb d_So_branch_119 (lv_at hl 0 rfl) ?_
      refine lv_iadd hx hb d_So_branch_121 ?_
      refine lv_goto (tgt := 131) hx hb d_So_branch_122 rfl ?_
      have ew1 : Rg = (if F (4 * q) = 12 then tm_set Rg 7 (nI (q + 2)) else Rg) := by first | rfl | simp [tm_sb, ha, hbb, hc_a, hc_b, h77, hv, h76]
      have hP : va_P D cls [(mo, .inr (3, [.ref li, .ref ra, .ref ca, .ref aa, .int (nI kp), .int (nI q), .int dn, .int en, .int nx])), (ra, .inl (cI, 8, .inl (if F (4 * q) = 12 then tm_set Rg 7 (nI (q + 2)) else Rg))), (ca, .inl (cI, 32, .inl Ce)), (aa, .inl (cI, 120, .inl Ac)), (li, .inr (1, [.ref lf, .int (nI n)])), (lf, .inl (cI, 96, .inl F))] s.heap := by rw [← ew1]; exact hP
      have hD : va_D A [(mo, .inr (3, [.ref li, .ref ra, .ref ca, .ref aa, .int (nI kp), .int (nI q), .int dn, .int en, .int nx])), (ra, .inl (cI, 8, .inl (if F (4 * q) = 12 then tm_set Rg 7 (nI (q + 2)) else Rg))), (ca, .inl (cI, 32, .inl Ce)), (aa, .inl (cI, 120, .inl Ac)), (li, .inr (1, [.ref lf, .int (nI n)])), (lf, .inl (cI, 96, .inl F))] := by rw [← ew1]; exact hD
      exact W.iret (v := (nI (q + 1)) + (F (4 * q + 3))) hx hb hr (fun t9 ht9 hW9 => ⟨⟨(nI (q + 1)) + (F (4 * q + 3)), (), rfl, by simp [tm_sb, ha, hbb, hc_a, hc_b, h77, hv, h76], by rw [ht9]; exact hP, hD⟩, hS.F ht9⟩) hS.2.2 d_So_branch_131
  · subst e0
    have hv : F (4 * q) = 11 := hv
    refine lv_tableIn (x := nI 11) (off := 101) (tgt := 149) hx hb d_So_branch_48 (by decide) (by decide) rfl rfl ?_
    refine lv_iload hx hb d_So_branch_149 (lv_at hl 0 rfl) ?_
    have ew1 : Rg = (if F (4 * q) = 12 then tm_set Rg 7 (nI (q + 2)) else Rg) := by first | rfl | simp [tm_sb, ha, hbb, hc_a, hc_b, h77, hv]
    have hP : va_P D cls [(mo, .inr (3, [.ref li, .ref ra, .ref ca, .ref aa, .int (nI kp), .int (nI q), .int dn, .int en, .int nx])), (ra, .inl (cI, 8, .inl (if F (4 * q) = 12 then tm_set Rg 7 (nI (q + 2)) else Rg))), (ca, .inl (cI, 32, .inl Ce)), (aa, .inl (cI, 120, .inl Ac)), (li, .inr (1, [.ref lf, .int (nI n)])), (lf, .inl (cI, 96, .inl F))] s.heap := by rw [← ew1]; exact hP
    have hD : va_D A [(mo, .inr (3, [.ref li, .ref ra, .ref ca, .ref aa, .int (nI kp), .int (nI q), .int dn, .int en, .int nx])), (ra, .inl (cI, 8, .inl (if F (4 * q) = 12 then tm_set Rg 7 (nI (q + 2)) else Rg))), (ca, .inl (cI, 32, .inl Ce)), (aa, .inl (cI, 120, .inl Ac)), (li, .inr (1, [.ref lf, .int (nI n)])), (lf, .inl (cI, 96, .inl F))] := by rw [← ew1]; exact hD
    exact W.iret (v := F (4 * q + 3)) hx hb hr (fun t9 ht9 hW9 => ⟨⟨F (4 * q + 3), (), rfl, by simp [tm_sb, ha, hbb, hc_a, hc_b, h77, hv], by rw [ht9]; exact hP, hD⟩, hS.F ht9⟩) hS.2.2 d_So_branch_151
  · subst e0
    have hv : F (4 * q) = 12 := hv
    refine lv_tableIn (x := nI 12) (off := 84) (tgt := 132) hx hb d_So_branch_48 (by decide) (by decide) rfl rfl ?_
    refine lv_aload_n hx hb d_So_branch_132 rfl (lv_at hl 3 rfl) ?_
    refine lv_bipush (v := 7) hx hb d_So_branch_133 (by decide) ?_
    refine lv_aload_n hx hb d_So_branch_135 rfl (lv_at hl 3 rfl) ?_
    refine va_get (D := D) (ci := 3) (v := .int (nI q)) (C := R_So) (T := F_So) (N := 9) hx hb hg f_So hown hK.1 hP 0 rfl rfl 5 (by decide) (hg _ q95) (fun x9 h9 => u_same (hg _ q96) x9 h9) rfl d_So_branch_136 ?_
    refine lv_iconst (v := 2) hx hb d_So_branch_139 (by decide) ?_
    refine lv_iadd hx hb d_So_branch_140 ?_
    have eq9 : ((nI q) + 2 : Int32) = nI (q + 2) := nI_add q 2
    refine W.eq (g2 := F0 m 141 ls [.int (nI (q + 2)), .int 7, .ref mo]) (by rw [eq9]) ?_
    refine xw_go (w2 := [(mo, .inr (3, [.ref li, .ref ra, .ref ca, .ref aa, .int (nI kp), .int (nI q), .int dn, .int en, .int nx])), (ra, .inl (cI, 8, .inl (tm_set Rg (nI 7) (nI (q + 2))))), (ca, .inl (cI, 32, .inl Ce)), (aa, .inl (cI, 120, .inl Ac)), (li, .inr (1, [.ref lf, .int (nI n)])), (lf, .inl (cI, 96, .inl F))]) (wr := []) (w1 := [(mo, .inr (3, [.ref li, .ref ra, .ref ca, .ref aa, .int (nI kp), .int (nI q), .int dn, .int en, .int nx])), (ra, .inl (cI, 8, .inl (tm_set Rg (nI 7) (nI (q + 2))))), (ca, .inl (cI, 32, .inl Ce)), (aa, .inl (cI, 120, .inl Ac)), (li, .inr (1, [.ref lf, .int (nI n)])), (lf, .inl (cI, 96, .inl F))]) (va_runU (As := [.int 7, .int (nI (q + 2))]) (rest := []) (C := R_So) ⟨hx, hb, hml, hown, hg⟩ (c_So_setRegister l D cI cZ cJ mo li ra ca aa lf Rg Ce Ac F n kp dn en nx (nI q) 7 (nI (q + 2)) (by omega) s.heap.size) (xg_O (x := ⟨"TwoMachines$SourceMachine", "setRegister", "(II)V"⟩) (owner := R_Ma) hg m_Ma_setRegister q526 q527 rfl m_Ma_setRegister q529 ⟨by decide, by decide, by decide +kernel⟩ rfl rfl ⟨Nat.le_of_ble_eq_true rfl, Nat.le_of_ble_eq_true rfl⟩) ⟨xw_blind, (va_recv (q0 := 0) hK.1 hP rfl rfl), xw_pre hK hP hD [0, 1, 2, 3, 4, 5] (by decide) rfl⟩ rfl rfl hl.1 rfl (lv_room (Nat.le_of_ble_eq_true rfl)) d_So_branch_141 ⟨Nat.zero_le _, Nat.zero_le _⟩) hP hD hS hA [0, 1, 2, 3, 4, 5] [] [0, 1, 2, 3, 4, 5] rfl rfl (by decide) (by decide) rfl (by decide) (fun H locs hP hD hS => ?_)
    refine lv_iload hx hb d_So_branch_144 (lv_at hl 0 rfl) ?_
    have ew1 : tm_set Rg (nI 7) (nI (q + 2)) = (if F (4 * q) = 12 then tm_set Rg 7 (nI (q + 2)) else Rg) := by first | rfl | simp [tm_sb, ha, hbb, hc_a, hc_b, h77, hv]
    have hP : va_P D cls [(mo, .inr (3, [.ref li, .ref ra, .ref ca, .ref aa, .int (nI kp), .int (nI q), .int dn, .int en, .int nx])), (ra, .inl (cI, 8, .inl (if F (4 * q) = 12 then tm_set Rg 7 (nI (q + 2)) else Rg))), (ca, .inl (cI, 32, .inl Ce)), (aa, .inl (cI, 120, .inl Ac)), (li, .inr (1, [.ref lf, .int (nI n)])), (lf, .inl (cI, 96, .inl F))] H := by rw [← ew1]; exact hP
    have hD : va_D A [(mo, .inr (3, [.ref li, .ref ra, .ref ca, .ref aa, .int (nI kp), .int (nI q), .int dn, .int en, .int nx])), (ra, .inl (cI, 8, .inl (if F (4 * q) = 12 then tm_set Rg 7 (nI (q + 2)) else Rg))), (ca, .inl (cI, 32, .inl Ce)), (aa, .inl (cI, 120, .inl Ac)), (li, .inr (1, [.ref lf, .int (nI n)])), (lf, .inl (cI, 96, .inl F))] := by rw [← ew1]; exact hD
    exact W.iret (v := F (4 * q + 3)) hx hb hr (fun t9 ht9 hW9 => ⟨⟨F (4 * q + 3), (), rfl, by simp [tm_sb, ha, hbb, hc_a, hc_b, h77, hv], by rw [ht9]; exact hP, hD⟩, hS.F ht9⟩) hS.2.2 d_So_branch_146
  · subst e0
    have hv : F (4 * q) = 13 := hv
    refine lv_tableIn (x := nI 13) (off := 99) (tgt := 147) hx hb d_So_branch_48 (by decide) (by decide) rfl rfl ?_
    refine lv_iload_n hx hb d_So_branch_147 rfl (lv_at hl 2 rfl) ?_
    have ew1 : Rg = (if F (4 * q) = 12 then tm_set Rg 7 (nI (q + 2)) else Rg) := by first | rfl | simp [tm_sb, ha, hbb, hc_a, hc_b, h77, hv]
    have hP : va_P D cls [(mo, .inr (3, [.ref li, .ref ra, .ref ca, .ref aa, .int (nI kp), .int (nI q), .int dn, .int en, .int nx])), (ra, .inl (cI, 8, .inl (if F (4 * q) = 12 then tm_set Rg 7 (nI (q + 2)) else Rg))), (ca, .inl (cI, 32, .inl Ce)), (aa, .inl (cI, 120, .inl Ac)), (li, .inr (1, [.ref lf, .int (nI n)])), (lf, .inl (cI, 96, .inl F))] s.heap := by rw [← ew1]; exact hP
    have hD : va_D A [(mo, .inr (3, [.ref li, .ref ra, .ref ca, .ref aa, .int (nI kp), .int (nI q), .int dn, .int en, .int nx])), (ra, .inl (cI, 8, .inl (if F (4 * q) = 12 then tm_set Rg 7 (nI (q + 2)) else Rg))), (ca, .inl (cI, 32, .inl Ce)), (aa, .inl (cI, 120, .inl Ac)), (li, .inr (1, [.ref lf, .int (nI n)])), (lf, .inl (cI, 96, .inl F))] := by rw [← ew1]; exact hD
    exact W.iret (v := Rg a) hx hb hr (fun t9 ht9 hW9 => ⟨⟨Rg a, (), rfl, by simp [tm_sb, ha, hbb, hc_a, hc_b, h77, hv], by rw [ht9]; exact hP, hD⟩, hS.F ht9⟩) hS.2.2 d_So_branch_148

set_option maxHeartbeats 4000000 in
set_option maxRecDepth 100000 in
theorem c_So_goOn_s (l : Launch) (D : va_G) (cI cZ cJ : ClassId) (mo li ra ca aa lf : Nat) (Rg Ce Ac F : Nat → Int32) (n kp : Nat) (dn en nx : Int32) (q : Nat) (v : Nat) (hv8 : v ≤ 8) : xw_Met l y_So_goOn b_So_goOn 3 none { frames := 0, cells := 0, slots := 0, locals := 0 } [.ref mo, .int (nI v)] D cls (tyL cI cZ cJ) [(mo, .inr (3, [.ref li, .ref ra, .ref ca, .ref aa, .int (nI kp), .int (nI q), .int dn, .int en, .int nx])), (ra, .inl (cI, 8, .inl Rg)), (ca, .inl (cI, 32, .inl Ce)), (aa, .inl (cI, 120, .inl Ac)), (li, .inr (1, [.ref lf, .int (nI n)])), (lf, .inl (cI, 96, .inl F))] [(mo, .inr (3, [.ref li, .ref ra, .ref ca, .ref aa, .int (nI kp), .int nx, .int dn, .int en, .int (nx + 1)])), (ra, .inl (cI, 8, .inl Rg)), (ca, .inl (cI, 32, .inl Ce)), (aa, .inl (cI, 120, .inl Ac)), (li, .inr (1, [.ref lf, .int (nI n)])), (lf, .inl (cI, 96, .inl F))] := by
  intro sz
  refine Met.ofW (cc := b_So_goOn) (maxL := 3) (ret := none) (by decide) rfl ?_
  intro p e s m args below meth c s₁ B0 hml hv
  obtain ⟨rfl, hsz, hP, hK, hD0⟩ := hv
  have hx := B0.exec
  have hb := B0.bytes
  have hr := B0.returns
  have hlocks := B0.notSynchronized
  have hg : ∀ w ∈ gG, w.before _ s = true := fun w h => atoms_spec B0.pre w (List.mem_cons_of_mem _ h)
  have hown : s.vm.findClass R_So = some m.cls := findClass_of_methodNamed B0.named
  subst hsz
  have hD := hD0.self (sz := s.heap.size)
  generalize hAe : va_A [(mo, .inr (3, [.ref li, .ref ra, .ref ca, .ref aa, .int (nI kp), .int (nI q), .int dn, .int en, .int nx])), (ra, .inl (cI, 8, .inl Rg)), (ca, .inl (cI, 32, .inl Ce)), (aa, .inl (cI, 120, .inl Ac)), (li, .inr (1, [.ref lf, .int (nI n)])), (lf, .inl (cI, 96, .inl F))] s.heap.size = A at hD ⊢
  have hA : ∀ q : Nat, s.heap.size ≤ q → A q := fun q h => by rw [← hAe]; exact Or.inr h
  have hS : va_S A s.heap s.heap [] := va_S.rf
  have hP : va_P D cls [(mo, .inr (3, [.ref li, .ref ra, .ref ca, .ref aa, .int (nI kp), .int (nI q), .int dn, .int en, .int nx])), (ra, .inl (cI, 8, .inl Rg)), (ca, .inl (cI, 32, .inl Ce)), (aa, .inl (cI, 120, .inl Ac)), (li, .inr (1, [.ref lf, .int (nI n)])), (lf, .inl (cI, 96, .inl F))] s.heap := hP
  have hl := lv_entry ([.ref mo, .int (nI v)]) (n := 3) (Nat.le_of_ble_eq_true rfl)
  rw [lg_entry_eq]
  generalize (lg_sl ([.ref mo, .int (nI v)]) ++ List.replicate (3 - (lg_sl ([.ref mo, .int (nI v)])).length) Slot.unset).toArray = ls at hl ⊢
  have hl : lv_has ls 3 [(0, .ref mo), (1, .int (nI v))] := hl
  refine lv_iload_n hx hb d_So_goOn_0 rfl (lv_at hl 1 rfl) ?_
  refine lv_bipush (v := 9) hx hb d_So_goOn_1 (by decide) ?_
  refine lv_icmp_ge (tgt := 15) hx hb d_So_goOn_3 rfl (fun hz9 => absurd hz9 (nI_ge (a := v) (b := 9) (by omega) (by decide))) (fun _ => ?_)
  refine lv_aload_n hx hb d_So_goOn_6 rfl (lv_at hl 0 rfl) ?_
  refine va_get (D := D) (ci := 3) (v := .int nx) (C := R_So) (T := F_So) (N := 9) hx hb hg f_So hown hK.1 hP 0 rfl rfl 8 (by decide) (hg _ q74) (fun _ h9 => h9) rfl d_So_goOn_7 ?_
  refine lv_iconst (v := 1) hx hb d_So_goOn_10 (by decide) ?_
  refine lv_iadd hx hb d_So_goOn_11 ?_
  refine lv_goto (tgt := 20) hx hb d_So_goOn_12 rfl ?_
  refine lv_istore_n hx hb d_So_goOn_20 rfl hl (by decide) rfl (fun ls hl => ?_)
  have hl : lv_has ls 3 [(2, .int (nx + 1)), (0, .ref mo), (1, .int (nI v))] := hl
  refine lv_aload_n hx hb d_So_goOn_21 rfl (lv_at hl 1 rfl) ?_
  refine lv_aload_n hx hb d_So_goOn_22 rfl (lv_at hl 1 rfl) ?_
  refine va_get (D := D) (ci := 3) (v := .int nx) (C := R_So) (T := F_So) (N := 9) hx hb hg f_So hown hK.1 hP 0 rfl rfl 8 (by decide) (hg _ q74) (fun _ h9 => h9) rfl d_So_goOn_23 ?_
  refine va_put (D := D) (ci := 3) (v := .int nx) (ty := .int) (C := R_So) (T := F_So) (N := 9) hx hb hg f_So t_So t_So_ok n_So hown hK.1 hP hD hS 0 rfl rfl 5 (by decide) (hg _ q95) (fun x9 h9 => u_same (hg _ q96) x9 h9) rfl (by decide +kernel) rfl rfl (Nat.le_of_ble_eq_true rfl) d_So_goOn_26 (fun H locs hP hD hS => ?_)
  have hP : va_P D cls [(mo, .inr (3, [.ref li, .ref ra, .ref ca, .ref aa, .int (nI kp), .int nx, .int dn, .int en, .int nx])), (ra, .inl (cI, 8, .inl Rg)), (ca, .inl (cI, 32, .inl Ce)), (aa, .inl (cI, 120, .inl Ac)), (li, .inr (1, [.ref lf, .int (nI n)])), (lf, .inl (cI, 96, .inl F))] H := hP
  have hD : va_D A [(mo, .inr (3, [.ref li, .ref ra, .ref ca, .ref aa, .int (nI kp), .int nx, .int dn, .int en, .int nx])), (ra, .inl (cI, 8, .inl Rg)), (ca, .inl (cI, 32, .inl Ce)), (aa, .inl (cI, 120, .inl Ac)), (li, .inr (1, [.ref lf, .int (nI n)])), (lf, .inl (cI, 96, .inl F))] := hD
  refine lv_aload_n hx hb d_So_goOn_29 rfl (lv_at hl 1 rfl) ?_
  refine lv_iload_n hx hb d_So_goOn_30 rfl (lv_at hl 0 rfl) ?_
  refine va_put (D := D) (ci := 3) (v := .int (nx + 1)) (ty := .int) (C := R_So) (T := F_So) (N := 9) hx hb hg f_So t_So t_So_ok n_So hown hK.1 hP hD hS 0 rfl rfl 8 (by decide) (hg _ q74) (fun _ h9 => h9) rfl (by decide +kernel) rfl rfl (Nat.le_of_ble_eq_true rfl) d_So_goOn_31 (fun H locs hP hD hS => ?_)
  have hP : va_P D cls [(mo, .inr (3, [.ref li, .ref ra, .ref ca, .ref aa, .int (nI kp), .int nx, .int dn, .int en, .int (nx + 1)])), (ra, .inl (cI, 8, .inl Rg)), (ca, .inl (cI, 32, .inl Ce)), (aa, .inl (cI, 120, .inl Ac)), (li, .inr (1, [.ref lf, .int (nI n)])), (lf, .inl (cI, 96, .inl F))] H := hP
  have hD : va_D A [(mo, .inr (3, [.ref li, .ref ra, .ref ca, .ref aa, .int (nI kp), .int nx, .int dn, .int en, .int (nx + 1)])), (ra, .inl (cI, 8, .inl Rg)), (ca, .inl (cI, 32, .inl Ce)), (aa, .inl (cI, 120, .inl Ac)), (li, .inr (1, [.ref lf, .int (nI n)])), (lf, .inl (cI, 96, .inl F))] := hD
  have hP : va_P D cls [(mo, .inr (3, [.ref li, .ref ra, .ref ca, .ref aa, .int (nI kp), .int nx, .int dn, .int en, .int (nx + 1)])), (ra, .inl (cI, 8, .inl Rg)), (ca, .inl (cI, 32, .inl Ce)), (aa, .inl (cI, 120, .inl Ac)), (li, .inr (1, [.ref lf, .int (nI n)])), (lf, .inl (cI, 96, .inl F))] H := by exact hP
  have hD : va_D A [(mo, .inr (3, [.ref li, .ref ra, .ref ca, .ref aa, .int (nI kp), .int nx, .int dn, .int en, .int (nx + 1)])), (ra, .inl (cI, 8, .inl Rg)), (ca, .inl (cI, 32, .inl Ce)), (aa, .inl (cI, 120, .inl Ac)), (li, .inr (1, [.ref lf, .int (nI n)])), (lf, .inl (cI, 96, .inl F))] := by exact hD
  exact W.vret hx hb hr (fun t9 ht9 hW9 => ⟨⟨(), rfl, trivial, by rw [ht9]; exact hP, hD⟩, hS.F ht9⟩) hS.2.2 d_So_goOn_34

set_option maxHeartbeats 4000000 in
set_option maxRecDepth 100000 in
theorem c_So_goOn_b (l : Launch) (D : va_G) (cI cZ cJ : ClassId) (mo li ra ca aa lf : Nat) (Rg Ce Ac F : Nat → Int32) (n kp : Nat) (dn en nx : Int32) (q : Nat) (v a b : Nat) (hn : n ≤ 24) (hq : q < n) (hv : F (4 * q) = nI v) (ha : F (4 * q + 1) = nI a) (ha8 : a < 8) (hbb : F (4 * q + 2) = nI b) (hb8 : b < 8) (hv9 : 9 ≤ v) (hv13 : v ≤ 13) : xw_Met l y_So_goOn b_So_goOn 3 none { frames := 3, cells := 0, slots := 0, locals := 67 } [.ref mo, .int (nI v)] D cls (tyL cI cZ cJ) [(mo, .inr (3, [.ref li, .ref ra, .ref ca, .ref aa, .int (nI kp), .int (nI q), .int dn, .int en, .int nx])), (ra, .inl (cI, 8, .inl Rg)), (ca, .inl (cI, 32, .inl Ce)), (aa, .inl (cI, 120, .inl Ac)), (li, .inr (1, [.ref lf, .int (nI n)])), (lf, .inl (cI, 96, .inl F))] [(mo, .inr (3, [.ref li, .ref ra, .ref ca, .ref aa, .int (nI kp), .int nx, .int dn, .int en, .int (tm_sb F q Rg nx)])), (ra, .inl (cI, 8, .inl (if F (4 * q) = 12 then tm_set Rg 7 (nI (q + 2)) else Rg))), (ca, .inl (cI, 32, .inl Ce)), (aa, .inl (cI, 120, .inl Ac)), (li, .inr (1, [.ref lf, .int (nI n)])), (lf, .inl (cI, 96, .inl F))] := by
  intro sz
  refine Met.ofW (cc := b_So_goOn) (maxL := 3) (ret := none) (by decide) rfl ?_
  intro p e s m args below meth c s₁ B0 hml hv
  obtain ⟨rfl, hsz, hP, hK, hD0⟩ := hv
  have hx := B0.exec
  have hb := B0.bytes
  have hr := B0.returns
  have hlocks := B0.notSynchronized
  have hg : ∀ w ∈ gG, w.before _ s = true := fun w h => atoms_spec B0.pre w (List.mem_cons_of_mem _ h)
  have hown : s.vm.findClass R_So = some m.cls := findClass_of_methodNamed B0.named
  subst hsz
  have hD := hD0.self (sz := s.heap.size)
  generalize hAe : va_A [(mo, .inr (3, [.ref li, .ref ra, .ref ca, .ref aa, .int (nI kp), .int (nI q), .int dn, .int en, .int nx])), (ra, .inl (cI, 8, .inl Rg)), (ca, .inl (cI, 32, .inl Ce)), (aa, .inl (cI, 120, .inl Ac)), (li, .inr (1, [.ref lf, .int (nI n)])), (lf, .inl (cI, 96, .inl F))] s.heap.size = A at hD ⊢
  have hA : ∀ q : Nat, s.heap.size ≤ q → A q := fun q h => by rw [← hAe]; exact Or.inr h
  have hS : va_S A s.heap s.heap [] := va_S.rf
  have hP : va_P D cls [(mo, .inr (3, [.ref li, .ref ra, .ref ca, .ref aa, .int (nI kp), .int (nI q), .int dn, .int en, .int nx])), (ra, .inl (cI, 8, .inl Rg)), (ca, .inl (cI, 32, .inl Ce)), (aa, .inl (cI, 120, .inl Ac)), (li, .inr (1, [.ref lf, .int (nI n)])), (lf, .inl (cI, 96, .inl F))] s.heap := hP
  have hl := lv_entry ([.ref mo, .int (nI v)]) (n := 3) (Nat.le_of_ble_eq_true rfl)
  rw [lg_entry_eq]
  generalize (lg_sl ([.ref mo, .int (nI v)]) ++ List.replicate (3 - (lg_sl ([.ref mo, .int (nI v)])).length) Slot.unset).toArray = ls at hl ⊢
  have hl : lv_has ls 3 [(0, .ref mo), (1, .int (nI v))] := hl
  refine lv_iload_n hx hb d_So_goOn_0 rfl (lv_at hl 1 rfl) ?_
  refine lv_bipush (v := 9) hx hb d_So_goOn_1 (by decide) ?_
  refine lv_icmp_ge (tgt := 15) hx hb d_So_goOn_3 rfl (fun _ => ?_) (fun hz9 => absurd (nI_le (a := 9) (b := v) (by omega) (by omega)) hz9)
  refine lv_aload_n hx hb d_So_goOn_15 rfl (lv_at hl 0 rfl) ?_
  refine lv_iload_n hx hb d_So_goOn_16 rfl (lv_at hl 1 rfl) ?_
  refine xi_go (w2 := [(mo, .inr (3, [.ref li, .ref ra, .ref ca, .ref aa, .int (nI kp), .int (nI q), .int dn, .int en, .int nx])), (ra, .inl (cI, 8, .inl (if F (4 * q) = 12 then tm_set Rg 7 (nI (q + 2)) else Rg))), (ca, .inl (cI, 32, .inl Ce)), (aa, .inl (cI, 120, .inl Ac)), (li, .inr (1, [.ref lf, .int (nI n)])), (lf, .inl (cI, 96, .inl F))]) (wr := []) (w1 := [(mo, .inr (3, [.ref li, .ref ra, .ref ca, .ref aa, .int (nI kp), .int (nI q), .int dn, .int en, .int nx])), (ra, .inl (cI, 8, .inl (if F (4 * q) = 12 then tm_set Rg 7 (nI (q + 2)) else Rg))), (ca, .inl (cI, 32, .inl Ce)), (aa, .inl (cI, 120, .inl Ac)), (li, .inr (1, [.ref lf, .int (nI n)])), (lf, .inl (cI, 96, .inl F))]) (va_runV (As := [.int (nI v)]) (rest := []) (C := R_So) ⟨hx, hb, hml, hown, hg⟩ (c_So_branch l D cI cZ cJ mo li ra ca aa lf Rg Ce Ac F n kp dn en nx q v a b (by omega) (by omega) (hv) (ha) (by omega) (hbb) (by omega) (by omega) (by omega) s.heap.size) ⟨xg_B hg m_So_branch.1 m_So_branch.2.2.1 m_So_branch.2.2.2.1 m_So_branch.2.2.2.2 q519 rfl rfl ⟨Nat.le_of_ble_eq_true rfl, Nat.le_of_ble_eq_true rfl⟩, hg _ m_So_branch.2.1, hg _ sp_So_branch⟩ ⟨xw_blind, (va_recv (q0 := 0) hK.1 hP rfl rfl), xw_pre hK hP hD [0, 1, 2, 3, 4, 5] (by decide) rfl⟩ rfl rfl hl.1 rfl (lv_room (Nat.le_of_ble_eq_true rfl)) d_So_goOn_17 ⟨Nat.zero_le _, Nat.zero_le _⟩) hP hD hS hA [0, 1, 2, 3, 4, 5] [] [0, 1, 2, 3, 4, 5] rfl rfl (by decide) (by decide) rfl (by decide) (fun H locs hP hD hS => ?_)
  refine lv_istore_n hx hb d_So_goOn_20 rfl hl (by decide) rfl (fun ls hl => ?_)
  have hl : lv_has ls 3 [(2, .int (tm_sb F q Rg nx)), (0, .ref mo), (1, .int (nI v))] := hl
  refine lv_aload_n hx hb d_So_goOn_21 rfl (lv_at hl 1 rfl) ?_
  refine lv_aload_n hx hb d_So_goOn_22 rfl (lv_at hl 1 rfl) ?_
  refine va_get (D := D) (ci := 3) (v := .int nx) (C := R_So) (T := F_So) (N := 9) hx hb hg f_So hown hK.1 hP 0 rfl rfl 8 (by decide) (hg _ q74) (fun _ h9 => h9) rfl d_So_goOn_23 ?_
  refine va_put (D := D) (ci := 3) (v := .int nx) (ty := .int) (C := R_So) (T := F_So) (N := 9) hx hb hg f_So t_So t_So_ok n_So hown hK.1 hP hD hS 0 rfl rfl 5 (by decide) (hg _ q95) (fun x9 h9 => u_same (hg _ q96) x9 h9) rfl (by decide +kernel) rfl rfl (Nat.le_of_ble_eq_true rfl) d_So_goOn_26 (fun H locs hP hD hS => ?_)
  have hP : va_P D cls [(mo, .inr (3, [.ref li, .ref ra, .ref ca, .ref aa, .int (nI kp), .int nx, .int dn, .int en, .int nx])), (ra, .inl (cI, 8, .inl (if F (4 * q) = 12 then tm_set Rg 7 (nI (q + 2)) else Rg))), (ca, .inl (cI, 32, .inl Ce)), (aa, .inl (cI, 120, .inl Ac)), (li, .inr (1, [.ref lf, .int (nI n)])), (lf, .inl (cI, 96, .inl F))] H := hP
  have hD : va_D A [(mo, .inr (3, [.ref li, .ref ra, .ref ca, .ref aa, .int (nI kp), .int nx, .int dn, .int en, .int nx])), (ra, .inl (cI, 8, .inl (if F (4 * q) = 12 then tm_set Rg 7 (nI (q + 2)) else Rg))), (ca, .inl (cI, 32, .inl Ce)), (aa, .inl (cI, 120, .inl Ac)), (li, .inr (1, [.ref lf, .int (nI n)])), (lf, .inl (cI, 96, .inl F))] := hD
  refine lv_aload_n hx hb d_So_goOn_29 rfl (lv_at hl 1 rfl) ?_
  refine lv_iload_n hx hb d_So_goOn_30 rfl (lv_at hl 0 rfl) ?_
  refine va_put (D := D) (ci := 3) (v := .int (tm_sb F q Rg nx)) (ty := .int) (C := R_So) (T := F_So) (N := 9) hx hb hg f_So t_So t_So_ok n_So hown hK.1 hP hD hS 0 rfl rfl 8 (by decide) (hg _ q74) (fun _ h9 => h9) rfl (by decide +kernel) rfl rfl (Nat.le_of_ble_eq_true rfl) d_So_goOn_31 (fun H locs hP hD hS => ?_)
  have hP : va_P D cls [(mo, .inr (3, [.ref li, .ref ra, .ref ca, .ref aa, .int (nI kp), .int nx, .int dn, .int en, .int (tm_sb F q Rg nx)])), (ra, .inl (cI, 8, .inl (if F (4 * q) = 12 then tm_set Rg 7 (nI (q + 2)) else Rg))), (ca, .inl (cI, 32, .inl Ce)), (aa, .inl (cI, 120, .inl Ac)), (li, .inr (1, [.ref lf, .int (nI n)])), (lf, .inl (cI, 96, .inl F))] H := hP
  have hD : va_D A [(mo, .inr (3, [.ref li, .ref ra, .ref ca, .ref aa, .int (nI kp), .int nx, .int dn, .int en, .int (tm_sb F q Rg nx)])), (ra, .inl (cI, 8, .inl (if F (4 * q) = 12 then tm_set Rg 7 (nI (q + 2)) else Rg))), (ca, .inl (cI, 32, .inl Ce)), (aa, .inl (cI, 120, .inl Ac)), (li, .inr (1, [.ref lf, .int (nI n)])), (lf, .inl (cI, 96, .inl F))] := hD
  have hP : va_P D cls [(mo, .inr (3, [.ref li, .ref ra, .ref ca, .ref aa, .int (nI kp), .int nx, .int dn, .int en, .int (tm_sb F q Rg nx)])), (ra, .inl (cI, 8, .inl (if F (4 * q) = 12 then tm_set Rg 7 (nI (q + 2)) else Rg))), (ca, .inl (cI, 32, .inl Ce)), (aa, .inl (cI, 120, .inl Ac)), (li, .inr (1, [.ref lf, .int (nI n)])), (lf, .inl (cI, 96, .inl F))] H := by exact hP
  have hD : va_D A [(mo, .inr (3, [.ref li, .ref ra, .ref ca, .ref aa, .int (nI kp), .int nx, .int dn, .int en, .int (tm_sb F q Rg nx)])), (ra, .inl (cI, 8, .inl (if F (4 * q) = 12 then tm_set Rg 7 (nI (q + 2)) else Rg))), (ca, .inl (cI, 32, .inl Ce)), (aa, .inl (cI, 120, .inl Ac)), (li, .inr (1, [.ref lf, .int (nI n)])), (lf, .inl (cI, 96, .inl F))] := by exact hD
  exact W.vret hx hb hr (fun t9 ht9 hW9 => ⟨⟨(), rfl, trivial, by rw [ht9]; exact hP, hD⟩, hS.F ht9⟩) hS.2.2 d_So_goOn_34

set_option maxHeartbeats 4000000 in
set_option maxRecDepth 100000 in
theorem c_Ta_doSimple_alu (l : Launch) (D : va_G) (cI cZ cJ : ClassId) (mo li ra ca aa lf tr : Nat) (Rg Ce Ac F : Nat → Int32) (n kp : Nat) (dn en : Int32) (q : Nat) (v a b : Nat) (hn : n ≤ 217) (hq : q < n) (hv : F (4 * q) = nI v) (ha : F (4 * q + 1) = nI a) (ha8 : a < 8) (hbb : F (4 * q + 2) = nI b) (hb8 : b < 8) (hv6 : v ≤ 6) : xi_Met l y_Ma_doSimple b_Ma_doSimple 6 (some .boolean) { frames := 2, cells := 0, slots := 0, locals := 43 } [.ref mo, .int (nI v)] D cls (tyL cI cZ cJ) [(mo, .inr (4, [.ref li, .ref ra, .ref ca, .ref aa, .int (nI kp), .int (nI q), .int dn, .int en, .ref tr])), (ra, .inl (cI, 8, .inl Rg)), (ca, .inl (cI, 64, .inl Ce)), (aa, .inl (cI, 120, .inl Ac)), (li, .inr (1, [.ref lf, .int (nI n)])), (lf, .inl (cI, 868, .inl F))] [(mo, .inr (4, [.ref li, .ref ra, .ref ca, .ref aa, .int (nI kp), .int (nI q), .int dn, .int en, .ref tr])), (ra, .inl (cI, 8, .inl (tm_alu F q Rg))), (ca, .inl (cI, 64, .inl Ce)), (aa, .inl (cI, 120, .inl Ac)), (li, .inr (1, [.ref lf, .int (nI n)])), (lf, .inl (cI, 868, .inl F))] (1) := by
  intro sz
  refine Met.ofW (cc := b_Ma_doSimple) (maxL := 6) (ret := (some .boolean)) (by decide) rfl ?_
  intro p e s m args below meth c s₁ B0 hml hv
  obtain ⟨rfl, hsz, hP, hK, hD0⟩ := hv
  have hx := B0.exec
  have hb := B0.bytes
  have hr := B0.returns
  have hlocks := B0.notSynchronized
  have hg : ∀ w ∈ gG, w.before _ s = true := fun w h => atoms_spec B0.pre w (List.mem_cons_of_mem _ h)
  have hown : s.vm.findClass R_Ma = some m.cls := findClass_of_methodNamed B0.named
  subst hsz
  have hD := hD0.self (sz := s.heap.size)
  generalize hAe : va_A [(mo, .inr (4, [.ref li, .ref ra, .ref ca, .ref aa, .int (nI kp), .int (nI q), .int dn, .int en, .ref tr])), (ra, .inl (cI, 8, .inl Rg)), (ca, .inl (cI, 64, .inl Ce)), (aa, .inl (cI, 120, .inl Ac)), (li, .inr (1, [.ref lf, .int (nI n)])), (lf, .inl (cI, 868, .inl F))] s.heap.size = A at hD ⊢
  have hA : ∀ q : Nat, s.heap.size ≤ q → A q := fun q h => by rw [← hAe]; exact Or.inr h
  have hS : va_S A s.heap s.heap [] := va_S.rf
  have hP : va_P D cls [(mo, .inr (4, [.ref li, .ref ra, .ref ca, .ref aa, .int (nI kp), .int (nI q), .int dn, .int en, .ref tr])), (ra, .inl (cI, 8, .inl Rg)), (ca, .inl (cI, 64, .inl Ce)), (aa, .inl (cI, 120, .inl Ac)), (li, .inr (1, [.ref lf, .int (nI n)])), (lf, .inl (cI, 868, .inl F))] s.heap := hP
  have hl := lv_entry ([.ref mo, .int (nI v)]) (n := 6) (Nat.le_of_ble_eq_true rfl)
  rw [lg_entry_eq]
  generalize (lg_sl ([.ref mo, .int (nI v)]) ++ List.replicate (6 - (lg_sl ([.ref mo, .int (nI v)])).length) Slot.unset).toArray = ls at hl ⊢
  have hl : lv_has ls 6 [(0, .ref mo), (1, .int (nI v))] := hl
  have hc_a : (nI a).toNatClampNeg = a := nI_clamp (by omega)
  have hc_b : (nI b).toNatClampNeg = b := nI_clamp (by omega)
  obtain ⟨w, hw8, hw⟩ := tm_fm_ix (F (4 * q + 3))
  have hw7 : F (4 * q + 3) &&& 7 = nI w := by rw [← tm_fm_eq]; exact hw
  have hc_w : (nI w).toNatClampNeg = w := nI_clamp (by omega)
  refine lv_aload_n hx hb d_Ma_doSimple_0 rfl (lv_at hl 0 rfl) ?_
  refine va_get (D := D) (ci := 4) (v := .ref li) (C := R_Ta) (T := F_Ta) (N := 9) hx hb hg f_Ta hown hK.1 hP 0 rfl rfl 0 (by decide) (hg _ q75) (fun _ h9 => h9) rfl d_Ma_doSimple_1 ?_
  refine lv_aload_n hx hb d_Ma_doSimple_4 rfl (lv_at hl 0 rfl) ?_
  refine va_get (D := D) (ci := 4) (v := .int (nI q)) (C := R_Ta) (T := F_Ta) (N := 9) hx hb hg f_Ta hown hK.1 hP 0 rfl rfl 5 (by decide) (hg _ q97) (fun _ h9 => h9) rfl d_Ma_doSimple_5 ?_
  refine xr_V (C := R_Li) (As := [.int (nI q)]) (rest := []) ⟨hx, hb, hml, hown, hg⟩ (c_Li_first l D cI cZ cJ li lf 868 F (nI n) q (by omega) (by omega)) m_Li_first q479 q222 ⟨rfl, rfl⟩ ⟨Nat.le_of_ble_eq_true rfl, Nat.le_of_ble_eq_true rfl⟩ hK hP [4, 5] rfl (va_recv (q0 := 4) hK.1 hP rfl rfl) rfl hl.1 rfl (Nat.le_of_ble_eq_true rfl) d_Ma_doSimple_8 ⟨Nat.zero_le _, Nat.zero_le _⟩ ?_
  refine lv_istore_n hx hb d_Ma_doSimple_11 rfl hl (by decide) rfl (fun ls hl => ?_)
  have hl : lv_has ls 6 [(2, .int (F (4 * q + 1))), (0, .ref mo), (1, .int (nI v))] := hl
  refine lv_aload_n hx hb d_Ma_doSimple_12 rfl (lv_at hl 1 rfl) ?_
  refine va_get (D := D) (ci := 4) (v := .ref ra) (C := R_Ta) (T := F_Ta) (N := 9) hx hb hg f_Ta hown hK.1 hP 0 rfl rfl 1 (by decide) (hg _ q80) (fun _ h9 => h9) rfl d_Ma_doSimple_13 ?_
  refine lv_aload_n hx hb d_Ma_doSimple_16 rfl (lv_at hl 1 rfl) ?_
  refine va_get (D := D) (ci := 4) (v := .ref li) (C := R_Ta) (T := F_Ta) (N := 9) hx hb hg f_Ta hown hK.1 hP 0 rfl rfl 0 (by decide) (hg _ q75) (fun _ h9 => h9) rfl d_Ma_doSimple_17 ?_
  refine lv_aload_n hx hb d_Ma_doSimple_20 rfl (lv_at hl 1 rfl) ?_
  refine va_get (D := D) (ci := 4) (v := .int (nI q)) (C := R_Ta) (T := F_Ta) (N := 9) hx hb hg f_Ta hown hK.1 hP 0 rfl rfl 5 (by decide) (hg _ q97) (fun _ h9 => h9) rfl d_Ma_doSimple_21 ?_
  refine xr_V (C := R_Li) (As := [.int (nI q)]) (rest := [.ref ra]) ⟨hx, hb, hml, hown, hg⟩ (c_Li_second l D cI cZ cJ li lf 868 F (nI n) q (by omega) (by omega)) m_Li_second q480 q230 ⟨rfl, rfl⟩ ⟨Nat.le_of_ble_eq_true rfl, Nat.le_of_ble_eq_true rfl⟩ hK hP [4, 5] rfl (va_recv (q0 := 4) hK.1 hP rfl rfl) rfl hl.1 rfl (Nat.le_of_ble_eq_true rfl) d_Ma_doSimple_24 ⟨Nat.zero_le _, Nat.zero_le _⟩ ?_
  refine xa_ld hx hb hK hP 1 0 rfl rfl (kx := b) (hbb) (by omega) (by decide) d_Ma_doSimple_27 ?_
  refine lv_istore_n hx hb d_Ma_doSimple_28 rfl hl (by decide) rfl (fun ls hl => ?_)
  have hl : lv_has ls 6 [(3, .int (Rg b)), (2, .int (F (4 * q + 1))), (0, .ref mo), (1, .int (nI v))] := hl
  refine lv_aload_n hx hb d_Ma_doSimple_29 rfl (lv_at hl 2 rfl) ?_
  refine va_get (D := D) (ci := 4) (v := .ref li) (C := R_Ta) (T := F_Ta) (N := 9) hx hb hg f_Ta hown hK.1 hP 0 rfl rfl 0 (by decide) (hg _ q75) (fun _ h9 => h9) rfl d_Ma_doSimple_30 ?_
  refine lv_aload_n hx hb d_Ma_doSimple_33 rfl (lv_at hl 2 rfl) ?_
  refine va_get (D := D) (ci := 4) (v := .int (nI q)) (C := R_Ta) (T := F_Ta) (N := 9) hx hb hg f_Ta hown hK.1 hP 0 rfl rfl 5 (by decide) (hg _ q97) (fun _ h9 => h9) rfl d_Ma_doSimple_34 ?_
  refine xr_V (C := R_Li) (As := [.int (nI q)]) (rest := []) ⟨hx, hb, hml, hown, hg⟩ (c_Li_third l D cI cZ cJ li lf 868 F (nI n) q (by omega) (by omega)) m_Li_third q481 q201 ⟨rfl, rfl⟩ ⟨Nat.le_of_ble_eq_true rfl, Nat.le_of_ble_eq_true rfl⟩ hK hP [4, 5] rfl (va_recv (q0 := 4) hK.1 hP rfl rfl) rfl hl.1 rfl (Nat.le_of_ble_eq_true rfl) d_Ma_doSimple_37 ⟨Nat.zero_le _, Nat.zero_le _⟩ ?_
  refine lv_istore hx hb d_Ma_doSimple_40 hl (by decide) rfl (fun ls hl => ?_)
  have hl : lv_has ls 6 [(4, .int (F (4 * q + 3))), (3, .int (Rg b)), (2, .int (F (4 * q + 1))), (0, .ref mo), (1, .int (nI v))] := hl
  refine lv_iload_n hx hb d_Ma_doSimple_42 rfl (lv_at hl 4 rfl) ?_
  refine lv_bipush (v := 7) hx hb d_Ma_doSimple_43 (by decide) ?_
  refine lv_icmp_lt (tgt := 62) hx hb d_Ma_doSimple_45 rfl (fun _ => ?_) (fun hz9 => absurd (nI_lt (a := v) (b := 7) (by omega) (by decide)) hz9)
  refine lv_iload_n hx hb d_Ma_doSimple_62 rfl (lv_at hl 4 rfl) ?_
  refine lv_iconst (v := 4) hx hb d_Ma_doSimple_63 (by decide) ?_
  refine lv_icmp_gt (tgt := 82) hx hb d_Ma_doSimple_64 rfl (fun h78 => ?_) (fun h78 => ?_)
  · refine lv_iload hx hb d_Ma_doSimple_82 (lv_at hl 0 rfl) ?_
    refine lv_istore hx hb d_Ma_doSimple_84 hl (by decide) rfl (fun ls hl => ?_)
    have hl : lv_has ls 6 [(5, .int (F (4 * q + 3))), (4, .int (F (4 * q + 3))), (3, .int (Rg b)), (2, .int (F (4 * q + 1))), (0, .ref mo), (1, .int (nI v))] := hl
    refine lv_aload_n hx hb d_Ma_doSimple_86 rfl (lv_at hl 4 rfl) ?_
    refine lv_iload_n hx hb d_Ma_doSimple_87 rfl (lv_at hl 3 rfl) ?_
    refine lv_iload_n hx hb d_Ma_doSimple_88 rfl (lv_at hl 5 rfl) ?_
    refine lv_iload_n hx hb d_Ma_doSimple_89 rfl (lv_at hl 2 rfl) ?_
    refine lv_iload hx hb d_Ma_doSimple_90 (lv_at hl 0 rfl) ?_
    refine xr_S (As := [.int (nI v), .int (Rg b), .int (F (4 * q + 3))]) (rest := [.int (F (4 * q + 1)), .ref mo]) ⟨hx, hb, hml, hown, hg⟩ (c_Ma_calculated l D cI cZ cJ v (Rg b) (F (4 * q + 3)) (by omega)) m_Ma_calculated q500 ⟨rfl, rfl⟩ ⟨Nat.le_of_ble_eq_true rfl, Nat.le_of_ble_eq_true rfl⟩ hK hP [] rfl rfl hl.1 rfl (Nat.le_of_ble_eq_true rfl) d_Ma_doSimple_92 ⟨Nat.zero_le _, Nat.zero_le _⟩ ?_
    have eq9 : (F (4 * q + 1) : Int32) = nI a := ha
    refine W.eq (g2 := F0 m 95 ls [.int (tm_calc (nI v) (Rg b) (F (4 * q + 3))), .int (nI a), .ref mo]) (by rw [eq9]) ?_
    refine xw_go (w2 := [(mo, .inr (4, [.ref li, .ref ra, .ref ca, .ref aa, .int (nI kp), .int (nI q), .int dn, .int en, .ref tr])), (ra, .inl (cI, 8, .inl (tm_set Rg (nI a) (tm_calc (nI v) (Rg b) (F (4 * q + 3)))))), (ca, .inl (cI, 64, .inl Ce)), (aa, .inl (cI, 120, .inl Ac)), (li, .inr (1, [.ref lf, .int (nI n)])), (lf, .inl (cI, 868, .inl F))]) (wr := []) (w1 := [(mo, .inr (4, [.ref li, .ref ra, .ref ca, .ref aa, .int (nI kp), .int (nI q), .int dn, .int en, .ref tr])), (ra, .inl (cI, 8, .inl (tm_set Rg (nI a) (tm_calc (nI v) (Rg b) (F (4 * q + 3)))))), (ca, .inl (cI, 64, .inl Ce)), (aa, .inl (cI, 120, .inl Ac)), (li, .inr (1, [.ref lf, .int (nI n)])), (lf, .inl (cI, 868, .inl F))]) (va_runU (As := [.int (nI a), .int (tm_calc (nI v) (Rg b) (F (4 * q + 3)))]) (rest := []) (C := R_Ta) ⟨hx, hb, hml, hown, hg⟩ (c_Ta_setRegister l D cI cZ cJ mo li ra ca aa lf tr Rg Ce Ac F n kp dn en (nI q) a (tm_calc (nI v) (Rg b) (F (4 * q + 3))) (by omega) s.heap.size) (xg_O (x := ⟨"TwoMachines$Machine", "setRegister", "(II)V"⟩) (owner := R_Ma) hg m_Ma_setRegister q489 q491 rfl m_Ma_setRegister q493 ⟨by decide, by decide, by decide +kernel⟩ rfl rfl ⟨Nat.le_of_ble_eq_true rfl, Nat.le_of_ble_eq_true rfl⟩) ⟨xw_blind, (va_recv (q0 := 0) hK.1 hP rfl rfl), xw_pre hK hP hD [0, 1, 2, 3, 4, 5] (by decide) rfl⟩ rfl rfl hl.1 rfl (lv_room (Nat.le_of_ble_eq_true rfl)) d_Ma_doSimple_95 ⟨Nat.zero_le _, Nat.zero_le _⟩) hP hD hS hA [0, 1, 2, 3, 4, 5] [] [0, 1, 2, 3, 4, 5] rfl rfl (by decide) (by decide) rfl (by decide) (fun H locs hP hD hS => ?_)
    refine lv_iconst (v := 1) hx hb d_Ma_doSimple_98 (by decide) ?_
    have ew1 : tm_set Rg (nI a) (tm_calc (nI v) (Rg b) (F (4 * q + 3))) = tm_alu F q Rg := by first | rfl | simp [tm_alu, ha, hbb, hv, hw7, hc_a, hc_b, hc_w, h78]
    have hP : va_P D cls [(mo, .inr (4, [.ref li, .ref ra, .ref ca, .ref aa, .int (nI kp), .int (nI q), .int dn, .int en, .ref tr])), (ra, .inl (cI, 8, .inl (tm_alu F q Rg))), (ca, .inl (cI, 64, .inl Ce)), (aa, .inl (cI, 120, .inl Ac)), (li, .inr (1, [.ref lf, .int (nI n)])), (lf, .inl (cI, 868, .inl F))] H := by rw [← ew1]; exact hP
    have hD : va_D A [(mo, .inr (4, [.ref li, .ref ra, .ref ca, .ref aa, .int (nI kp), .int (nI q), .int dn, .int en, .ref tr])), (ra, .inl (cI, 8, .inl (tm_alu F q Rg))), (ca, .inl (cI, 64, .inl Ce)), (aa, .inl (cI, 120, .inl Ac)), (li, .inr (1, [.ref lf, .int (nI n)])), (lf, .inl (cI, 868, .inl F))] := by rw [← ew1]; exact hD
    exact W.zret (v := 1) hx hb hr (rfl) (fun t9 ht9 hW9 => ⟨⟨1, (), rfl, rfl, by rw [ht9]; exact hP, hD⟩, hS.F ht9⟩) hS.2.2 d_Ma_doSimple_99
  · refine lv_aload_n hx hb d_Ma_doSimple_67 rfl (lv_at hl 3 rfl) ?_
    refine va_get (D := D) (ci := 4) (v := .ref ra) (C := R_Ta) (T := F_Ta) (N := 9) hx hb hg f_Ta hown hK.1 hP 0 rfl rfl 1 (by decide) (hg _ q80) (fun _ h9 => h9) rfl d_Ma_doSimple_68 ?_
    refine lv_iload hx hb d_Ma_doSimple_71 (lv_at hl 0 rfl) ?_
    refine lv_bipush (v := 8) hx hb d_Ma_doSimple_73 (by decide) ?_
    refine xr_S (As := [.int (F (4 * q + 3)), .int 8]) (rest := [.ref ra]) ⟨hx, hb, hml, hown, hg⟩ (c_JM_floorMod l D cI cZ cJ (F (4 * q + 3))) m_JM_floorMod q499 ⟨rfl, rfl⟩ ⟨Nat.le_of_ble_eq_true rfl, Nat.le_of_ble_eq_true rfl⟩ hK hP [] rfl rfl hl.1 rfl (Nat.le_of_ble_eq_true rfl) d_Ma_doSimple_75 ⟨Nat.zero_le _, Nat.zero_le _⟩ ?_
    refine xa_ld hx hb hK hP 1 0 rfl rfl (kx := w) (hw) (by omega) (by decide) d_Ma_doSimple_78 ?_
    refine lv_goto (tgt := 84) hx hb d_Ma_doSimple_79 rfl ?_
    refine lv_istore hx hb d_Ma_doSimple_84 hl (by decide) rfl (fun ls hl => ?_)
    have hl : lv_has ls 6 [(5, .int (Rg w)), (4, .int (F (4 * q + 3))), (3, .int (Rg b)), (2, .int (F (4 * q + 1))), (0, .ref mo), (1, .int (nI v))] := hl
    refine lv_aload_n hx hb d_Ma_doSimple_86 rfl (lv_at hl 4 rfl) ?_
    refine lv_iload_n hx hb d_Ma_doSimple_87 rfl (lv_at hl 3 rfl) ?_
    refine lv_iload_n hx hb d_Ma_doSimple_88 rfl (lv_at hl 5 rfl) ?_
    refine lv_iload_n hx hb d_Ma_doSimple_89 rfl (lv_at hl 2 rfl) ?_
    refine lv_iload hx hb d_Ma_doSimple_90 (lv_at hl 0 rfl) ?_
    refine xr_S (As := [.int (nI v), .int (Rg b), .int (Rg w)]) (rest := [.int (F (4 * q + 1)), .ref mo]) ⟨hx, hb, hml, hown, hg⟩ (c_Ma_calculated l D cI cZ cJ v (Rg b) (Rg w) (by omega)) m_Ma_calculated q500 ⟨rfl, rfl⟩ ⟨Nat.le_of_ble_eq_true rfl, Nat.le_of_ble_eq_true rfl⟩ hK hP [] rfl rfl hl.1 rfl (Nat.le_of_ble_eq_true rfl) d_Ma_doSimple_92 ⟨Nat.zero_le _, Nat.zero_le _⟩ ?_
    have eq9 : (F (4 * q + 1) : Int32) = nI a := ha
    refine W.eq (g2 := F0 m 95 ls [.int (tm_calc (nI v) (Rg b) (Rg w)), .int (nI a), .ref mo]) (by rw [eq9]) ?_
    refine xw_go (w2 := [(mo, .inr (4, [.ref li, .ref ra, .ref ca, .ref aa, .int (nI kp), .int (nI q), .int dn, .int en, .ref tr])), (ra, .inl (cI, 8, .inl (tm_set Rg (nI a) (tm_calc (nI v) (Rg b) (Rg w))))), (ca, .inl (cI, 64, .inl Ce)), (aa, .inl (cI, 120, .inl Ac)), (li, .inr (1, [.ref lf, .int (nI n)])), (lf, .inl (cI, 868, .inl F))]) (wr := []) (w1 := [(mo, .inr (4, [.ref li, .ref ra, .ref ca, .ref aa, .int (nI kp), .int (nI q), .int dn, .int en, .ref tr])), (ra, .inl (cI, 8, .inl (tm_set Rg (nI a) (tm_calc (nI v) (Rg b) (Rg w))))), (ca, .inl (cI, 64, .inl Ce)), (aa, .inl (cI, 120, .inl Ac)), (li, .inr (1, [.ref lf, .int (nI n)])), (lf, .inl (cI, 868, .inl F))]) (va_runU (As := [.int (nI a), .int (tm_calc (nI v) (Rg b) (Rg w))]) (rest := []) (C := R_Ta) ⟨hx, hb, hml, hown, hg⟩ (c_Ta_setRegister l D cI cZ cJ mo li ra ca aa lf tr Rg Ce Ac F n kp dn en (nI q) a (tm_calc (nI v) (Rg b) (Rg w)) (by omega) s.heap.size) (xg_O (x := ⟨"TwoMachines$Machine", "setRegister", "(II)V"⟩) (owner := R_Ma) hg m_Ma_setRegister q489 q491 rfl m_Ma_setRegister q493 ⟨by decide, by decide, by decide +kernel⟩ rfl rfl ⟨Nat.le_of_ble_eq_true rfl, Nat.le_of_ble_eq_true rfl⟩) ⟨xw_blind, (va_recv (q0 := 0) hK.1 hP rfl rfl), xw_pre hK hP hD [0, 1, 2, 3, 4, 5] (by decide) rfl⟩ rfl rfl hl.1 rfl (lv_room (Nat.le_of_ble_eq_true rfl)) d_Ma_doSimple_95 ⟨Nat.zero_le _, Nat.zero_le _⟩) hP hD hS hA [0, 1, 2, 3, 4, 5] [] [0, 1, 2, 3, 4, 5] rfl rfl (by decide) (by decide) rfl (by decide) (fun H locs hP hD hS => ?_)
    refine lv_iconst (v := 1) hx hb d_Ma_doSimple_98 (by decide) ?_
    have ew1 : tm_set Rg (nI a) (tm_calc (nI v) (Rg b) (Rg w)) = tm_alu F q Rg := by first | rfl | simp [tm_alu, ha, hbb, hv, hw7, hc_a, hc_b, hc_w, h78]
    have hP : va_P D cls [(mo, .inr (4, [.ref li, .ref ra, .ref ca, .ref aa, .int (nI kp), .int (nI q), .int dn, .int en, .ref tr])), (ra, .inl (cI, 8, .inl (tm_alu F q Rg))), (ca, .inl (cI, 64, .inl Ce)), (aa, .inl (cI, 120, .inl Ac)), (li, .inr (1, [.ref lf, .int (nI n)])), (lf, .inl (cI, 868, .inl F))] H := by rw [← ew1]; exact hP
    have hD : va_D A [(mo, .inr (4, [.ref li, .ref ra, .ref ca, .ref aa, .int (nI kp), .int (nI q), .int dn, .int en, .ref tr])), (ra, .inl (cI, 8, .inl (tm_alu F q Rg))), (ca, .inl (cI, 64, .inl Ce)), (aa, .inl (cI, 120, .inl Ac)), (li, .inr (1, [.ref lf, .int (nI n)])), (lf, .inl (cI, 868, .inl F))] := by rw [← ew1]; exact hD
    exact W.zret (v := 1) hx hb hr (rfl) (fun t9 ht9 hW9 => ⟨⟨1, (), rfl, rfl, by rw [ht9]; exact hP, hD⟩, hS.F ht9⟩) hS.2.2 d_Ma_doSimple_99

set_option maxHeartbeats 4000000 in
set_option maxRecDepth 100000 in
theorem c_Ta_doSimple_out (l : Launch) (D : va_G) (cI cZ cJ : ClassId) (mo li ra ca aa lf tr : Nat) (Rg Ce Ac F : Nat → Int32) (n kp : Nat) (dn en : Int32) (q : Nat) (v a b : Nat) (hn : n ≤ 217) (hq : q < n) (ha : F (4 * q + 1) = nI a) (ha8 : a < 8) (hbb : F (4 * q + 2) = nI b) (hb8 : b < 8) (hv7 : 7 ≤ v) (hv8 : v ≤ 13) (ho : tm_adr F q Rg < 0 ∨ nI 64 ≤ tm_adr F q Rg) : xi_Met l y_Ma_doSimple b_Ma_doSimple 6 (some .boolean) { frames := 2, cells := 0, slots := 0, locals := 43 } [.ref mo, .int (nI v)] D cls (tyL cI cZ cJ) [(mo, .inr (4, [.ref li, .ref ra, .ref ca, .ref aa, .int (nI kp), .int (nI q), .int dn, .int en, .ref tr])), (ra, .inl (cI, 8, .inl Rg)), (ca, .inl (cI, 64, .inl Ce)), (aa, .inl (cI, 120, .inl Ac)), (li, .inr (1, [.ref lf, .int (nI n)])), (lf, .inl (cI, 868, .inl F))] [(mo, .inr (4, [.ref li, .ref ra, .ref ca, .ref aa, .int (nI kp), .int (nI q), .int dn, .int en, .ref tr])), (ra, .inl (cI, 8, .inl Rg)), (ca, .inl (cI, 64, .inl Ce)), (aa, .inl (cI, 120, .inl Ac)), (li, .inr (1, [.ref lf, .int (nI n)])), (lf, .inl (cI, 868, .inl F))] (0) := by
  intro sz
  refine Met.ofW (cc := b_Ma_doSimple) (maxL := 6) (ret := (some .boolean)) (by decide) rfl ?_
  intro p e s m args below meth c s₁ B0 hml hv
  obtain ⟨rfl, hsz, hP, hK, hD0⟩ := hv
  have hx := B0.exec
  have hb := B0.bytes
  have hr := B0.returns
  have hlocks := B0.notSynchronized
  have hg : ∀ w ∈ gG, w.before _ s = true := fun w h => atoms_spec B0.pre w (List.mem_cons_of_mem _ h)
  have hown : s.vm.findClass R_Ma = some m.cls := findClass_of_methodNamed B0.named
  subst hsz
  have hD := hD0.self (sz := s.heap.size)
  generalize hAe : va_A [(mo, .inr (4, [.ref li, .ref ra, .ref ca, .ref aa, .int (nI kp), .int (nI q), .int dn, .int en, .ref tr])), (ra, .inl (cI, 8, .inl Rg)), (ca, .inl (cI, 64, .inl Ce)), (aa, .inl (cI, 120, .inl Ac)), (li, .inr (1, [.ref lf, .int (nI n)])), (lf, .inl (cI, 868, .inl F))] s.heap.size = A at hD ⊢
  have hA : ∀ q : Nat, s.heap.size ≤ q → A q := fun q h => by rw [← hAe]; exact Or.inr h
  have hS : va_S A s.heap s.heap [] := va_S.rf
  have hP : va_P D cls [(mo, .inr (4, [.ref li, .ref ra, .ref ca, .ref aa, .int (nI kp), .int (nI q), .int dn, .int en, .ref tr])), (ra, .inl (cI, 8, .inl Rg)), (ca, .inl (cI, 64, .inl Ce)), (aa, .inl (cI, 120, .inl Ac)), (li, .inr (1, [.ref lf, .int (nI n)])), (lf, .inl (cI, 868, .inl F))] s.heap := hP
  have hl := lv_entry ([.ref mo, .int (nI v)]) (n := 6) (Nat.le_of_ble_eq_true rfl)
  rw [lg_entry_eq]
  generalize (lg_sl ([.ref mo, .int (nI v)]) ++ List.replicate (6 - (lg_sl ([.ref mo, .int (nI v)])).length) Slot.unset).toArray = ls at hl ⊢
  have hl : lv_has ls 6 [(0, .ref mo), (1, .int (nI v))] := hl
  have hc_a : (nI a).toNatClampNeg = a := nI_clamp (by omega)
  have hc_b : (nI b).toNatClampNeg = b := nI_clamp (by omega)
  refine lv_aload_n hx hb d_Ma_doSimple_0 rfl (lv_at hl 0 rfl) ?_
  refine va_get (D := D) (ci := 4) (v := .ref li) (C := R_Ta) (T := F_Ta) (N := 9) hx hb hg f_Ta hown hK.1 hP 0 rfl rfl 0 (by decide) (hg _ q75) (fun _ h9 => h9) rfl d_Ma_doSimple_1 ?_
  refine lv_aload_n hx hb d_Ma_doSimple_4 rfl (lv_at hl 0 rfl) ?_
  refine va_get (D := D) (ci := 4) (v := .int (nI q)) (C := R_Ta) (T := F_Ta) (N := 9) hx hb hg f_Ta hown hK.1 hP 0 rfl rfl 5 (by decide) (hg _ q97) (fun _ h9 => h9) rfl d_Ma_doSimple_5 ?_
  refine xr_V (C := R_Li) (As := [.int (nI q)]) (rest := []) ⟨hx, hb, hml, hown, hg⟩ (c_Li_first l D cI cZ cJ li lf 868 F (nI n) q (by omega) (by omega)) m_Li_first q479 q222 ⟨rfl, rfl⟩ ⟨Nat.le_of_ble_eq_true rfl, Nat.le_of_ble_eq_true rfl⟩ hK hP [4, 5] rfl (va_recv (q0 := 4) hK.1 hP rfl rfl) rfl hl.1 rfl (Nat.le_of_ble_eq_true rfl) d_Ma_doSimple_8 ⟨Nat.zero_le _, Nat.zero_le _⟩ ?_
  refine lv_istore_n hx hb d_Ma_doSimple_11 rfl hl (by decide) rfl (fun ls hl => ?_)
  have hl : lv_has ls 6 [(2, .int (F (4 * q + 1))), (0, .ref mo), (1, .int (nI v))] := hl
  refine lv_aload_n hx hb d_Ma_doSimple_12 rfl (lv_at hl 1 rfl) ?_
  refine va_get (D := D) (ci := 4) (v := .ref ra) (C := R_Ta) (T := F_Ta) (N := 9) hx hb hg f_Ta hown hK.1 hP 0 rfl rfl 1 (by decide) (hg _ q80) (fun _ h9 => h9) rfl d_Ma_doSimple_13 ?_
  refine lv_aload_n hx hb d_Ma_doSimple_16 rfl (lv_at hl 1 rfl) ?_
  refine va_get (D := D) (ci := 4) (v := .ref li) (C := R_Ta) (T := F_Ta) (N := 9) hx hb hg f_Ta hown hK.1 hP 0 rfl rfl 0 (by decide) (hg _ q75) (fun _ h9 => h9) rfl d_Ma_doSimple_17 ?_
  refine lv_aload_n hx hb d_Ma_doSimple_20 rfl (lv_at hl 1 rfl) ?_
  refine va_get (D := D) (ci := 4) (v := .int (nI q)) (C := R_Ta) (T := F_Ta) (N := 9) hx hb hg f_Ta hown hK.1 hP 0 rfl rfl 5 (by decide) (hg _ q97) (fun _ h9 => h9) rfl d_Ma_doSimple_21 ?_
  refine xr_V (C := R_Li) (As := [.int (nI q)]) (rest := [.ref ra]) ⟨hx, hb, hml, hown, hg⟩ (c_Li_second l D cI cZ cJ li lf 868 F (nI n) q (by omega) (by omega)) m_Li_second q480 q230 ⟨rfl, rfl⟩ ⟨Nat.le_of_ble_eq_true rfl, Nat.le_of_ble_eq_true rfl⟩ hK hP [4, 5] rfl (va_recv (q0 := 4) hK.1 hP rfl rfl) rfl hl.1 rfl (Nat.le_of_ble_eq_true rfl) d_Ma_doSimple_24 ⟨Nat.zero_le _, Nat.zero_le _⟩ ?_
  refine xa_ld hx hb hK hP 1 0 rfl rfl (kx := b) (hbb) (by omega) (by decide) d_Ma_doSimple_27 ?_
  refine lv_istore_n hx hb d_Ma_doSimple_28 rfl hl (by decide) rfl (fun ls hl => ?_)
  have hl : lv_has ls 6 [(3, .int (Rg b)), (2, .int (F (4 * q + 1))), (0, .ref mo), (1, .int (nI v))] := hl
  refine lv_aload_n hx hb d_Ma_doSimple_29 rfl (lv_at hl 2 rfl) ?_
  refine va_get (D := D) (ci := 4) (v := .ref li) (C := R_Ta) (T := F_Ta) (N := 9) hx hb hg f_Ta hown hK.1 hP 0 rfl rfl 0 (by decide) (hg _ q75) (fun _ h9 => h9) rfl d_Ma_doSimple_30 ?_
  refine lv_aload_n hx hb d_Ma_doSimple_33 rfl (lv_at hl 2 rfl) ?_
  refine va_get (D := D) (ci := 4) (v := .int (nI q)) (C := R_Ta) (T := F_Ta) (N := 9) hx hb hg f_Ta hown hK.1 hP 0 rfl rfl 5 (by decide) (hg _ q97) (fun _ h9 => h9) rfl d_Ma_doSimple_34 ?_
  refine xr_V (C := R_Li) (As := [.int (nI q)]) (rest := []) ⟨hx, hb, hml, hown, hg⟩ (c_Li_third l D cI cZ cJ li lf 868 F (nI n) q (by omega) (by omega)) m_Li_third q481 q201 ⟨rfl, rfl⟩ ⟨Nat.le_of_ble_eq_true rfl, Nat.le_of_ble_eq_true rfl⟩ hK hP [4, 5] rfl (va_recv (q0 := 4) hK.1 hP rfl rfl) rfl hl.1 rfl (Nat.le_of_ble_eq_true rfl) d_Ma_doSimple_37 ⟨Nat.zero_le _, Nat.zero_le _⟩ ?_
  refine lv_istore hx hb d_Ma_doSimple_40 hl (by decide) rfl (fun ls hl => ?_)
  have hl : lv_has ls 6 [(4, .int (F (4 * q + 3))), (3, .int (Rg b)), (2, .int (F (4 * q + 1))), (0, .ref mo), (1, .int (nI v))] := hl
  refine lv_iload_n hx hb d_Ma_doSimple_42 rfl (lv_at hl 4 rfl) ?_
  refine lv_bipush (v := 7) hx hb d_Ma_doSimple_43 (by decide) ?_
  refine lv_icmp_lt (tgt := 62) hx hb d_Ma_doSimple_45 rfl (fun hz9 => absurd hz9 (nI_nlt (a := v) (b := 7) (by omega) (by omega))) (fun _ => ?_)
  refine lv_aload_n hx hb d_Ma_doSimple_48 rfl (lv_at hl 3 rfl) ?_
  refine lv_iload_n hx hb d_Ma_doSimple_49 rfl (lv_at hl 4 rfl) ?_
  refine lv_iload_n hx hb d_Ma_doSimple_50 rfl (lv_at hl 2 rfl) ?_
  refine lv_iload_n hx hb d_Ma_doSimple_51 rfl (lv_at hl 1 rfl) ?_
  refine lv_iload hx hb d_Ma_doSimple_52 (lv_at hl 0 rfl) ?_
  refine lv_iadd hx hb d_Ma_doSimple_54 ?_
  refine xr_S (As := [.int ((Rg b) + (F (4 * q + 3)))]) (rest := [.int (F (4 * q + 1)), .int (nI v), .ref mo]) ⟨hx, hb, hml, hown, hg⟩ (c_Ma_wrapped l D cI cZ cJ ((Rg b) + (F (4 * q + 3)))) m_Ma_wrapped q482 ⟨rfl, rfl⟩ ⟨Nat.le_of_ble_eq_true rfl, Nat.le_of_ble_eq_true rfl⟩ hK hP [] rfl rfl hl.1 rfl (Nat.le_of_ble_eq_true rfl) d_Ma_doSimple_55 ⟨Nat.zero_le _, Nat.zero_le _⟩ ?_
  have eq9 : (tm_wr ((Rg b) + (F (4 * q + 3))) : Int32) = tm_adr F q Rg := by simp [tm_adr, hbb, hc_b]
  refine W.eq (g2 := F0 m 58 ls [.int (tm_adr F q Rg), .int (F (4 * q + 1)), .int (nI v), .ref mo]) (by rw [eq9]) ?_
  refine xi_go (w2 := [(mo, .inr (4, [.ref li, .ref ra, .ref ca, .ref aa, .int (nI kp), .int (nI q), .int dn, .int en, .ref tr])), (ra, .inl (cI, 8, .inl Rg)), (ca, .inl (cI, 64, .inl Ce)), (aa, .inl (cI, 120, .inl Ac)), (li, .inr (1, [.ref lf, .int (nI n)])), (lf, .inl (cI, 868, .inl F))]) (wr := []) (w1 := [(mo, .inr (4, [.ref li, .ref ra, .ref ca, .ref aa, .int (nI kp), .int (nI q), .int dn, .int en, .ref tr])), (ra, .inl (cI, 8, .inl Rg)), (ca, .inl (cI, 64, .inl Ce)), (aa, .inl (cI, 120, .inl Ac)), (li, .inr (1, [.ref lf, .int (nI n)])), (lf, .inl (cI, 868, .inl F))]) (va_runU (As := [.int (nI v), .int (F (4 * q + 1)), .int (tm_adr F q Rg)]) (rest := []) (C := R_Ta) ⟨hx, hb, hml, hown, hg⟩ (c_Ta_reachCell_out l D cI cZ cJ mo li ra ca aa lf tr Rg Ce Ac F n kp dn en (nI q) (nI v) (F (4 * q + 1)) (tm_adr F q Rg) (ho) s.heap.size) (xg_O (x := ⟨"TwoMachines$Machine", "reachCell", "(III)Z"⟩) (owner := R_Ma) hg m_Ma_reachCell q485 q760 rfl m_Ma_reachCell sx_Ta_Ma_reachCell ⟨by decide, by decide, by decide +kernel⟩ rfl rfl ⟨Nat.le_of_ble_eq_true rfl, Nat.le_of_ble_eq_true rfl⟩) ⟨xw_blind, (va_recv (q0 := 0) hK.1 hP rfl rfl), xw_pre hK hP hD [0, 1, 2, 3, 4, 5] (by decide) rfl⟩ rfl rfl hl.1 rfl (lv_room (Nat.le_of_ble_eq_true rfl)) d_Ma_doSimple_58 ⟨Nat.zero_le _, Nat.zero_le _⟩) hP hD hS hA [0, 1, 2, 3, 4, 5] [] [0, 1, 2, 3, 4, 5] rfl rfl (by decide) (by decide) rfl (by decide) (fun H locs hP hD hS => ?_)
  have hP : va_P D cls [(mo, .inr (4, [.ref li, .ref ra, .ref ca, .ref aa, .int (nI kp), .int (nI q), .int dn, .int en, .ref tr])), (ra, .inl (cI, 8, .inl Rg)), (ca, .inl (cI, 64, .inl Ce)), (aa, .inl (cI, 120, .inl Ac)), (li, .inr (1, [.ref lf, .int (nI n)])), (lf, .inl (cI, 868, .inl F))] H := by exact hP
  have hD : va_D A [(mo, .inr (4, [.ref li, .ref ra, .ref ca, .ref aa, .int (nI kp), .int (nI q), .int dn, .int en, .ref tr])), (ra, .inl (cI, 8, .inl Rg)), (ca, .inl (cI, 64, .inl Ce)), (aa, .inl (cI, 120, .inl Ac)), (li, .inr (1, [.ref lf, .int (nI n)])), (lf, .inl (cI, 868, .inl F))] := by exact hD
  exact W.zret (v := 0) hx hb hr (rfl) (fun t9 ht9 hW9 => ⟨⟨0, (), rfl, rfl, by rw [ht9]; exact hP, hD⟩, hS.F ht9⟩) hS.2.2 d_Ma_doSimple_61

set_option maxHeartbeats 4000000 in
set_option maxRecDepth 100000 in
theorem c_Ta_doSimple_in (l : Launch) (D : va_G) (cI cZ cJ : ClassId) (mo li ra ca aa lf tr : Nat) (Rg Ce Ac F : Nat → Int32) (n kp : Nat) (dn en : Int32) (q : Nat) (v a b : Nat) (dd : Nat) (hn : n ≤ 217) (hq : q < n) (hv : F (4 * q) = nI v) (ha : F (4 * q + 1) = nI a) (ha8 : a < 8) (hbb : F (4 * q + 2) = nI b) (hb8 : b < 8) (hv7 : 7 ≤ v) (hv8 : v ≤ 13) (hkp : kp ≤ 40) (hd : tm_adr F q Rg = nI dd) (hdM : dd < 64) : xi_Met l y_Ma_doSimple b_Ma_doSimple 6 (some .boolean) { frames := 2, cells := 0, slots := 0, locals := 48 } [.ref mo, .int (nI v)] D cls (tyL cI cZ cJ) [(mo, .inr (4, [.ref li, .ref ra, .ref ca, .ref aa, .int (nI kp), .int (nI q), .int dn, .int en, .ref tr])), (ra, .inl (cI, 8, .inl Rg)), (ca, .inl (cI, 64, .inl Ce)), (aa, .inl (cI, 120, .inl Ac)), (li, .inr (1, [.ref lf, .int (nI n)])), (lf, .inl (cI, 868, .inl F))] [(mo, .inr (4, [.ref li, .ref ra, .ref ca, .ref aa, .int (nI (tm_dk kp (tm_adr F q Rg))), .int (nI q), .int dn, .int en, .ref tr])), (ra, .inl (cI, 8, .inl (tm_mR F q Rg Ce))), (ca, .inl (cI, 64, .inl (tm_mC F q Rg Ce))), (aa, .inl (cI, 120, .inl (tm_mA F q Rg Ce Ac kp))), (li, .inr (1, [.ref lf, .int (nI n)])), (lf, .inl (cI, 868, .inl F))] (1) := by
  intro sz
  refine Met.ofW (cc := b_Ma_doSimple) (maxL := 6) (ret := (some .boolean)) (by decide) rfl ?_
  intro p e s m args below meth c s₁ B0 hml hv
  obtain ⟨rfl, hsz, hP, hK, hD0⟩ := hv
  have hx := B0.exec
  have hb := B0.bytes
  have hr := B0.returns
  have hlocks := B0.notSynchronized
  have hg : ∀ w ∈ gG, w.before _ s = true := fun w h => atoms_spec B0.pre w (List.mem_cons_of_mem _ h)
  have hown : s.vm.findClass R_Ma = some m.cls := findClass_of_methodNamed B0.named
  subst hsz
  have hD := hD0.self (sz := s.heap.size)
  generalize hAe : va_A [(mo, .inr (4, [.ref li, .ref ra, .ref ca, .ref aa, .int (nI kp), .int (nI q), .int dn, .int en, .ref tr])), (ra, .inl (cI, 8, .inl Rg)), (ca, .inl (cI, 64, .inl Ce)), (aa, .inl (cI, 120, .inl Ac)), (li, .inr (1, [.ref lf, .int (nI n)])), (lf, .inl (cI, 868, .inl F))] s.heap.size = A at hD ⊢
  have hA : ∀ q : Nat, s.heap.size ≤ q → A q := fun q h => by rw [← hAe]; exact Or.inr h
  have hS : va_S A s.heap s.heap [] := va_S.rf
  have hP : va_P D cls [(mo, .inr (4, [.ref li, .ref ra, .ref ca, .ref aa, .int (nI kp), .int (nI q), .int dn, .int en, .ref tr])), (ra, .inl (cI, 8, .inl Rg)), (ca, .inl (cI, 64, .inl Ce)), (aa, .inl (cI, 120, .inl Ac)), (li, .inr (1, [.ref lf, .int (nI n)])), (lf, .inl (cI, 868, .inl F))] s.heap := hP
  have hl := lv_entry ([.ref mo, .int (nI v)]) (n := 6) (Nat.le_of_ble_eq_true rfl)
  rw [lg_entry_eq]
  generalize (lg_sl ([.ref mo, .int (nI v)]) ++ List.replicate (6 - (lg_sl ([.ref mo, .int (nI v)])).length) Slot.unset).toArray = ls at hl ⊢
  have hl : lv_has ls 6 [(0, .ref mo), (1, .int (nI v))] := hl
  have hc_a : (nI a).toNatClampNeg = a := nI_clamp (by omega)
  have hc_b : (nI b).toNatClampNeg = b := nI_clamp (by omega)
  have hc_dd : (nI dd).toNatClampNeg = dd := nI_clamp (by omega)
  refine lv_aload_n hx hb d_Ma_doSimple_0 rfl (lv_at hl 0 rfl) ?_
  refine va_get (D := D) (ci := 4) (v := .ref li) (C := R_Ta) (T := F_Ta) (N := 9) hx hb hg f_Ta hown hK.1 hP 0 rfl rfl 0 (by decide) (hg _ q75) (fun _ h9 => h9) rfl d_Ma_doSimple_1 ?_
  refine lv_aload_n hx hb d_Ma_doSimple_4 rfl (lv_at hl 0 rfl) ?_
  refine va_get (D := D) (ci := 4) (v := .int (nI q)) (C := R_Ta) (T := F_Ta) (N := 9) hx hb hg f_Ta hown hK.1 hP 0 rfl rfl 5 (by decide) (hg _ q97) (fun _ h9 => h9) rfl d_Ma_doSimple_5 ?_
  refine xr_V (C := R_Li) (As := [.int (nI q)]) (rest := []) ⟨hx, hb, hml, hown, hg⟩ (c_Li_first l D cI cZ cJ li lf 868 F (nI n) q (by omega) (by omega)) m_Li_first q479 q222 ⟨rfl, rfl⟩ ⟨Nat.le_of_ble_eq_true rfl, Nat.le_of_ble_eq_true rfl⟩ hK hP [4, 5] rfl (va_recv (q0 := 4) hK.1 hP rfl rfl) rfl hl.1 rfl (Nat.le_of_ble_eq_true rfl) d_Ma_doSimple_8 ⟨Nat.zero_le _, Nat.zero_le _⟩ ?_
  refine lv_istore_n hx hb d_Ma_doSimple_11 rfl hl (by decide) rfl (fun ls hl => ?_)
  have hl : lv_has ls 6 [(2, .int (F (4 * q + 1))), (0, .ref mo), (1, .int (nI v))] := hl
  refine lv_aload_n hx hb d_Ma_doSimple_12 rfl (lv_at hl 1 rfl) ?_
  refine va_get (D := D) (ci := 4) (v := .ref ra) (C := R_Ta) (T := F_Ta) (N := 9) hx hb hg f_Ta hown hK.1 hP 0 rfl rfl 1 (by decide) (hg _ q80) (fun _ h9 => h9) rfl d_Ma_doSimple_13 ?_
  refine lv_aload_n hx hb d_Ma_doSimple_16 rfl (lv_at hl 1 rfl) ?_
  refine va_get (D := D) (ci := 4) (v := .ref li) (C := R_Ta) (T := F_Ta) (N := 9) hx hb hg f_Ta hown hK.1 hP 0 rfl rfl 0 (by decide) (hg _ q75) (fun _ h9 => h9) rfl d_Ma_doSimple_17 ?_
  refine lv_aload_n hx hb d_Ma_doSimple_20 rfl (lv_at hl 1 rfl) ?_
  refine va_get (D := D) (ci := 4) (v := .int (nI q)) (C := R_Ta) (T := F_Ta) (N := 9) hx hb hg f_Ta hown hK.1 hP 0 rfl rfl 5 (by decide) (hg _ q97) (fun _ h9 => h9) rfl d_Ma_doSimple_21 ?_
  refine xr_V (C := R_Li) (As := [.int (nI q)]) (rest := [.ref ra]) ⟨hx, hb, hml, hown, hg⟩ (c_Li_second l D cI cZ cJ li lf 868 F (nI n) q (by omega) (by omega)) m_Li_second q480 q230 ⟨rfl, rfl⟩ ⟨Nat.le_of_ble_eq_true rfl, Nat.le_of_ble_eq_true rfl⟩ hK hP [4, 5] rfl (va_recv (q0 := 4) hK.1 hP rfl rfl) rfl hl.1 rfl (Nat.le_of_ble_eq_true rfl) d_Ma_doSimple_24 ⟨Nat.zero_le _, Nat.zero_le _⟩ ?_
  refine xa_ld hx hb hK hP 1 0 rfl rfl (kx := b) (hbb) (by omega) (by decide) d_Ma_doSimple_27 ?_
  refine lv_istore_n hx hb d_Ma_doSimple_28 rfl hl (by decide) rfl (fun ls hl => ?_)
  have hl : lv_has ls 6 [(3, .int (Rg b)), (2, .int (F (4 * q + 1))), (0, .ref mo), (1, .int (nI v))] := hl
  refine lv_aload_n hx hb d_Ma_doSimple_29 rfl (lv_at hl 2 rfl) ?_
  refine va_get (D := D) (ci := 4) (v := .ref li) (C := R_Ta) (T := F_Ta) (N := 9) hx hb hg f_Ta hown hK.1 hP 0 rfl rfl 0 (by decide) (hg _ q75) (fun _ h9 => h9) rfl d_Ma_doSimple_30 ?_
  refine lv_aload_n hx hb d_Ma_doSimple_33 rfl (lv_at hl 2 rfl) ?_
  refine va_get (D := D) (ci := 4) (v := .int (nI q)) (C := R_Ta) (T := F_Ta) (N := 9) hx hb hg f_Ta hown hK.1 hP 0 rfl rfl 5 (by decide) (hg _ q97) (fun _ h9 => h9) rfl d_Ma_doSimple_34 ?_
  refine xr_V (C := R_Li) (As := [.int (nI q)]) (rest := []) ⟨hx, hb, hml, hown, hg⟩ (c_Li_third l D cI cZ cJ li lf 868 F (nI n) q (by omega) (by omega)) m_Li_third q481 q201 ⟨rfl, rfl⟩ ⟨Nat.le_of_ble_eq_true rfl, Nat.le_of_ble_eq_true rfl⟩ hK hP [4, 5] rfl (va_recv (q0 := 4) hK.1 hP rfl rfl) rfl hl.1 rfl (Nat.le_of_ble_eq_true rfl) d_Ma_doSimple_37 ⟨Nat.zero_le _, Nat.zero_le _⟩ ?_
  refine lv_istore hx hb d_Ma_doSimple_40 hl (by decide) rfl (fun ls hl => ?_)
  have hl : lv_has ls 6 [(4, .int (F (4 * q + 3))), (3, .int (Rg b)), (2, .int (F (4 * q + 1))), (0, .ref mo), (1, .int (nI v))] := hl
  refine lv_iload_n hx hb d_Ma_doSimple_42 rfl (lv_at hl 4 rfl) ?_
  refine lv_bipush (v := 7) hx hb d_Ma_doSimple_43 (by decide) ?_
  refine lv_icmp_lt (tgt := 62) hx hb d_Ma_doSimple_45 rfl (fun hz9 => absurd hz9 (nI_nlt (a := v) (b := 7) (by omega) (by omega))) (fun _ => ?_)
  refine lv_aload_n hx hb d_Ma_doSimple_48 rfl (lv_at hl 3 rfl) ?_
  refine lv_iload_n hx hb d_Ma_doSimple_49 rfl (lv_at hl 4 rfl) ?_
  refine lv_iload_n hx hb d_Ma_doSimple_50 rfl (lv_at hl 2 rfl) ?_
  refine lv_iload_n hx hb d_Ma_doSimple_51 rfl (lv_at hl 1 rfl) ?_
  refine lv_iload hx hb d_Ma_doSimple_52 (lv_at hl 0 rfl) ?_
  refine lv_iadd hx hb d_Ma_doSimple_54 ?_
  refine xr_S (As := [.int ((Rg b) + (F (4 * q + 3)))]) (rest := [.int (F (4 * q + 1)), .int (nI v), .ref mo]) ⟨hx, hb, hml, hown, hg⟩ (c_Ma_wrapped l D cI cZ cJ ((Rg b) + (F (4 * q + 3)))) m_Ma_wrapped q482 ⟨rfl, rfl⟩ ⟨Nat.le_of_ble_eq_true rfl, Nat.le_of_ble_eq_true rfl⟩ hK hP [] rfl rfl hl.1 rfl (Nat.le_of_ble_eq_true rfl) d_Ma_doSimple_55 ⟨Nat.zero_le _, Nat.zero_le _⟩ ?_
  have eq9 : (tm_wr ((Rg b) + (F (4 * q + 3))) : Int32) = tm_adr F q Rg := by simp [tm_adr, hbb, hc_b]
  refine W.eq (g2 := F0 m 58 ls [.int (tm_adr F q Rg), .int (F (4 * q + 1)), .int (nI v), .ref mo]) (by rw [eq9]) ?_
  have eq9 : (tm_adr F q Rg : Int32) = nI dd := hd
  refine W.eq (g2 := F0 m 58 ls [.int (nI dd), .int (F (4 * q + 1)), .int (nI v), .ref mo]) (by rw [eq9]) ?_
  have eq9 : (F (4 * q + 1) : Int32) = nI a := ha
  refine W.eq (g2 := F0 m 58 ls [.int (nI dd), .int (nI a), .int (nI v), .ref mo]) (by rw [eq9]) ?_
  refine xi_go (w2 := [(mo, .inr (4, [.ref li, .ref ra, .ref ca, .ref aa, .int (nI (tm_dk kp (nI dd))), .int (nI q), .int dn, .int en, .ref tr])), (ra, .inl (cI, 8, .inl (if (nI v) = 8 then Rg else tm_set Rg (nI a) (Ce dd)))), (ca, .inl (cI, 64, .inl (if (nI v) = 8 then upd Ce dd (Rg a) else Ce))), (aa, .inl (cI, 120, .inl (tm_da Ac kp (nI dd) (if (nI v) = 8 then 1 else 0) (if (nI v) = 8 then Rg a else Ce dd)))), (li, .inr (1, [.ref lf, .int (nI n)])), (lf, .inl (cI, 868, .inl F))]) (wr := []) (w1 := [(mo, .inr (4, [.ref li, .ref ra, .ref ca, .ref aa, .int (nI (tm_dk kp (nI dd))), .int (nI q), .int dn, .int en, .ref tr])), (ra, .inl (cI, 8, .inl (if (nI v) = 8 then Rg else tm_set Rg (nI a) (Ce dd)))), (ca, .inl (cI, 64, .inl (if (nI v) = 8 then upd Ce dd (Rg a) else Ce))), (aa, .inl (cI, 120, .inl (tm_da Ac kp (nI dd) (if (nI v) = 8 then 1 else 0) (if (nI v) = 8 then Rg a else Ce dd)))), (li, .inr (1, [.ref lf, .int (nI n)])), (lf, .inl (cI, 868, .inl F))]) (va_runU (As := [.int (nI v), .int (nI a), .int (nI dd)]) (rest := []) (C := R_Ta) ⟨hx, hb, hml, hown, hg⟩ (c_Ta_reachCell_in l D cI cZ cJ mo li ra ca aa lf tr Rg Ce Ac F n kp dn en (nI q) (nI v) a dd (ha8) (hdM) (hkp) s.heap.size) (xg_O (x := ⟨"TwoMachines$Machine", "reachCell", "(III)Z"⟩) (owner := R_Ma) hg m_Ma_reachCell q485 q760 rfl m_Ma_reachCell sx_Ta_Ma_reachCell ⟨by decide, by decide, by decide +kernel⟩ rfl rfl ⟨Nat.le_of_ble_eq_true rfl, Nat.le_of_ble_eq_true rfl⟩) ⟨xw_blind, (va_recv (q0 := 0) hK.1 hP rfl rfl), xw_pre hK hP hD [0, 1, 2, 3, 4, 5] (by decide) rfl⟩ rfl rfl hl.1 rfl (lv_room (Nat.le_of_ble_eq_true rfl)) d_Ma_doSimple_58 ⟨Nat.zero_le _, Nat.zero_le _⟩) hP hD hS hA [0, 1, 2, 3, 4, 5] [] [0, 1, 2, 3, 4, 5] rfl rfl (by decide) (by decide) rfl (by decide) (fun H locs hP hD hS => ?_)
  have ew1 : nI (tm_dk kp (nI dd)) = nI (tm_dk kp (tm_adr F q Rg)) := congrArg nI (by first | (simp [tm_mR, tm_mC, tm_mA, ha, hbb, hv, hd, hc_a, hc_dd]; done) | (simp [tm_mR, tm_mC, tm_mA, ha, hbb, hv, hd, hc_a, hc_dd]; omega) | omega)
  have ew2 : (if (nI v) = 8 then Rg else tm_set Rg (nI a) (Ce dd)) = tm_mR F q Rg Ce := by first | rfl | simp [tm_mR, tm_mC, tm_mA, ha, hbb, hv, hd, hc_a, hc_dd]
  have ew3 : (if (nI v) = 8 then upd Ce dd (Rg a) else Ce) = tm_mC F q Rg Ce := by first | rfl | simp [tm_mR, tm_mC, tm_mA, ha, hbb, hv, hd, hc_a, hc_dd]
  have ew4 : tm_da Ac kp (nI dd) (if (nI v) = 8 then 1 else 0) (if (nI v) = 8 then Rg a else Ce dd) = tm_mA F q Rg Ce Ac kp := by first | rfl | simp [tm_mR, tm_mC, tm_mA, ha, hbb, hv, hd, hc_a, hc_dd]
  have hP : va_P D cls [(mo, .inr (4, [.ref li, .ref ra, .ref ca, .ref aa, .int (nI (tm_dk kp (tm_adr F q Rg))), .int (nI q), .int dn, .int en, .ref tr])), (ra, .inl (cI, 8, .inl (tm_mR F q Rg Ce))), (ca, .inl (cI, 64, .inl (tm_mC F q Rg Ce))), (aa, .inl (cI, 120, .inl (tm_mA F q Rg Ce Ac kp))), (li, .inr (1, [.ref lf, .int (nI n)])), (lf, .inl (cI, 868, .inl F))] H := by rw [← ew1, ← ew2, ← ew3, ← ew4]; exact hP
  have hD : va_D A [(mo, .inr (4, [.ref li, .ref ra, .ref ca, .ref aa, .int (nI (tm_dk kp (tm_adr F q Rg))), .int (nI q), .int dn, .int en, .ref tr])), (ra, .inl (cI, 8, .inl (tm_mR F q Rg Ce))), (ca, .inl (cI, 64, .inl (tm_mC F q Rg Ce))), (aa, .inl (cI, 120, .inl (tm_mA F q Rg Ce Ac kp))), (li, .inr (1, [.ref lf, .int (nI n)])), (lf, .inl (cI, 868, .inl F))] := by rw [← ew1, ← ew2, ← ew3, ← ew4]; exact hD
  exact W.zret (v := 1) hx hb hr (rfl) (fun t9 ht9 hW9 => ⟨⟨1, (), rfl, rfl, by rw [ht9]; exact hP, hD⟩, hS.F ht9⟩) hS.2.2 d_Ma_doSimple_61

set_option maxHeartbeats 4000000 in
set_option maxRecDepth 100000 in
theorem c_Ta_howItStops (l : Launch) (D : va_G) (cI cZ cJ : ClassId) (mo li ra ca aa lf tr : Nat) (Rg Ce Ac F : Nat → Int32) (n kp : Nat) (dn en : Int32) (q : Nat) (hn : n ≤ 217) (hq : q < n) : xr_Met l y_Ta_howItStops b_Ta_howItStops 1 (some .int) { frames := 2, cells := 0, slots := 0, locals := 43 } [.ref mo] (xb D cls [(mo, .inr (4, [.ref li, .ref ra, .ref ca, .ref aa, .int (nI kp), .int (nI q), .int dn, .int en, .ref tr])), (ra, .inl (cI, 8, .inl Rg)), (ca, .inl (cI, 64, .inl Ce)), (aa, .inl (cI, 120, .inl Ac)), (li, .inr (1, [.ref lf, .int (nI n)])), (lf, .inl (cI, 868, .inl F))] (tyL cI cZ cJ)) (if F (4 * q + 3) = 0 then 1 else 2) := by
  refine Met.ofW (cc := b_Ta_howItStops) (maxL := 1) (ret := (some .int)) (by decide) rfl ?_
  intro p e s m args below meth c s₁ B0 hml hv
  obtain ⟨rfl, hP, hK⟩ := hv
  have hx := B0.exec
  have hb := B0.bytes
  have hr := B0.returns
  have hlocks := B0.notSynchronized
  have hg : ∀ w ∈ gG, w.before _ s = true := fun w h => atoms_spec B0.pre w (List.mem_cons_of_mem _ h)
  have hown : s.vm.findClass R_Ta = some m.cls := findClass_of_methodNamed B0.named
  have hP : va_P D cls [(mo, .inr (4, [.ref li, .ref ra, .ref ca, .ref aa, .int (nI kp), .int (nI q), .int dn, .int en, .ref tr])), (ra, .inl (cI, 8, .inl Rg)), (ca, .inl (cI, 64, .inl Ce)), (aa, .inl (cI, 120, .inl Ac)), (li, .inr (1, [.ref lf, .int (nI n)])), (lf, .inl (cI, 868, .inl F))] s.heap := hP
  have hl := lv_entry ([.ref mo]) (n := 1) (Nat.le_of_ble_eq_true rfl)
  rw [lg_entry_eq]
  generalize (lg_sl ([.ref mo]) ++ List.replicate (1 - (lg_sl ([.ref mo])).length) Slot.unset).toArray = ls at hl ⊢
  have hl : lv_has ls 1 [(0, .ref mo)] := hl
  refine lv_aload_n hx hb d_Ta_howItStops_0 rfl (lv_at hl 0 rfl) ?_
  refine va_get (D := D) (ci := 4) (v := .ref li) (C := R_Ta) (T := F_Ta) (N := 9) hx hb hg f_Ta hown hK.1 hP 0 rfl rfl 0 (by decide) (hg _ q76) (fun x9 h9 => u_same (hg _ q77) x9 h9) rfl d_Ta_howItStops_1 ?_
  refine lv_aload_n hx hb d_Ta_howItStops_4 rfl (lv_at hl 0 rfl) ?_
  refine va_get (D := D) (ci := 4) (v := .int (nI q)) (C := R_Ta) (T := F_Ta) (N := 9) hx hb hg f_Ta hown hK.1 hP 0 rfl rfl 5 (by decide) (hg _ q93) (fun x9 h9 => u_same (hg _ q94) x9 h9) rfl d_Ta_howItStops_5 ?_
  refine xr_V (C := R_Li) (As := [.int (nI q)]) (rest := []) ⟨hx, hb, hml, hown, hg⟩ (c_Li_third l D cI cZ cJ li lf 868 F (nI n) q (by omega) (by omega)) m_Li_third q512 q201 ⟨rfl, rfl⟩ ⟨Nat.le_of_ble_eq_true rfl, Nat.le_of_ble_eq_true rfl⟩ hK hP [4, 5] rfl (va_recv (q0 := 4) hK.1 hP rfl rfl) rfl hl.1 rfl (Nat.le_of_ble_eq_true rfl) d_Ta_howItStops_8 ⟨Nat.zero_le _, Nat.zero_le _⟩ ?_
  refine lv_if_ne (tgt := 18) hx hb d_Ta_howItStops_11 rfl (fun h80 => ?_) (fun h80 => ?_)
  · refine lv_iconst (v := 2) hx hb d_Ta_howItStops_18 (by decide) ?_
    exact W.iret (v := 2) hx hb hr (fun t9 ht9 hW9 => ⟨2, rfl, by simp [h80], ht9⟩) (fun _ h => by cases h) d_Ta_howItStops_19
  · refine lv_iconst (v := 1) hx hb d_Ta_howItStops_14 (by decide) ?_
    refine lv_goto (tgt := 19) hx hb d_Ta_howItStops_15 rfl ?_
    exact W.iret (v := 1) hx hb hr (fun t9 ht9 hW9 => ⟨1, rfl, by simp [h80], ht9⟩) (fun _ h => by cases h) d_Ta_howItStops_19

set_option maxHeartbeats 4000000 in
set_option maxRecDepth 100000 in
theorem c_Ta_branch (l : Launch) (D : va_G) (cI cZ cJ : ClassId) (mo li ra ca aa lf tr : Nat) (Rg Ce Ac F : Nat → Int32) (n kp : Nat) (dn en : Int32) (q : Nat) (v a b : Nat) (hn : n ≤ 217) (hq : q < n) (hv : F (4 * q) = nI v) (ha : F (4 * q + 1) = nI a) (ha8 : a < 8) (hbb : F (4 * q + 2) = nI b) (hb8 : b < 8) (hv9 : 9 ≤ v) (hv13 : v ≤ 13) : xr_Met l y_Ta_branch b_Ta_branch 5 (some .int) { frames := 2, cells := 0, slots := 0, locals := 43 } [.ref mo, .int (nI v)] (xb D cls [(mo, .inr (4, [.ref li, .ref ra, .ref ca, .ref aa, .int (nI kp), .int (nI q), .int dn, .int en, .ref tr])), (ra, .inl (cI, 8, .inl Rg)), (ca, .inl (cI, 64, .inl Ce)), (aa, .inl (cI, 120, .inl Ac)), (li, .inr (1, [.ref lf, .int (nI n)])), (lf, .inl (cI, 868, .inl F))] (tyL cI cZ cJ)) (tm_tb F q Rg) := by
  refine Met.ofW (cc := b_Ta_branch) (maxL := 5) (ret := (some .int)) (by decide) rfl ?_
  intro p e s m args below meth c s₁ B0 hml hv
  obtain ⟨rfl, hP, hK⟩ := hv
  have hx := B0.exec
  have hb := B0.bytes
  have hr := B0.returns
  have hlocks := B0.notSynchronized
  have hg : ∀ w ∈ gG, w.before _ s = true := fun w h => atoms_spec B0.pre w (List.mem_cons_of_mem _ h)
  have hown : s.vm.findClass R_Ta = some m.cls := findClass_of_methodNamed B0.named
  have hP : va_P D cls [(mo, .inr (4, [.ref li, .ref ra, .ref ca, .ref aa, .int (nI kp), .int (nI q), .int dn, .int en, .ref tr])), (ra, .inl (cI, 8, .inl Rg)), (ca, .inl (cI, 64, .inl Ce)), (aa, .inl (cI, 120, .inl Ac)), (li, .inr (1, [.ref lf, .int (nI n)])), (lf, .inl (cI, 868, .inl F))] s.heap := hP
  have hl := lv_entry ([.ref mo, .int (nI v)]) (n := 5) (Nat.le_of_ble_eq_true rfl)
  rw [lg_entry_eq]
  generalize (lg_sl ([.ref mo, .int (nI v)]) ++ List.replicate (5 - (lg_sl ([.ref mo, .int (nI v)])).length) Slot.unset).toArray = ls at hl ⊢
  have hl : lv_has ls 5 [(0, .ref mo), (1, .int (nI v))] := hl
  have hc_a : (nI a).toNatClampNeg = a := nI_clamp (by omega)
  have hc_b : (nI b).toNatClampNeg = b := nI_clamp (by omega)
  refine lv_aload_n hx hb d_Ta_branch_0 rfl (lv_at hl 0 rfl) ?_
  refine va_get (D := D) (ci := 4) (v := .ref ra) (C := R_Ta) (T := F_Ta) (N := 9) hx hb hg f_Ta hown hK.1 hP 0 rfl rfl 1 (by decide) (hg _ q83) (fun x9 h9 => u_same (hg _ q84) x9 h9) rfl d_Ta_branch_1 ?_
  refine lv_aload_n hx hb d_Ta_branch_4 rfl (lv_at hl 0 rfl) ?_
  refine va_get (D := D) (ci := 4) (v := .ref li) (C := R_Ta) (T := F_Ta) (N := 9) hx hb hg f_Ta hown hK.1 hP 0 rfl rfl 0 (by decide) (hg _ q76) (fun x9 h9 => u_same (hg _ q77) x9 h9) rfl d_Ta_branch_5 ?_
  refine lv_aload_n hx hb d_Ta_branch_8 rfl (lv_at hl 0 rfl) ?_
  refine va_get (D := D) (ci := 4) (v := .int (nI q)) (C := R_Ta) (T := F_Ta) (N := 9) hx hb hg f_Ta hown hK.1 hP 0 rfl rfl 5 (by decide) (hg _ q93) (fun x9 h9 => u_same (hg _ q94) x9 h9) rfl d_Ta_branch_9 ?_
  refine xr_V (C := R_Li) (As := [.int (nI q)]) (rest := [.ref ra]) ⟨hx, hb, hml, hown, hg⟩ (c_Li_first l D cI cZ cJ li lf 868 F (nI n) q (by omega) (by omega)) m_Li_first q537 q222 ⟨rfl, rfl⟩ ⟨Nat.le_of_ble_eq_true rfl, Nat.le_of_ble_eq_true rfl⟩ hK hP [4, 5] rfl (va_recv (q0 := 4) hK.1 hP rfl rfl) rfl hl.1 rfl (Nat.le_of_ble_eq_true rfl) d_Ta_branch_12 ⟨Nat.zero_le _, Nat.zero_le _⟩ ?_
  refine xa_ld hx hb hK hP 1 0 rfl rfl (kx := a) (ha) (by omega) (by decide) d_Ta_branch_15 ?_
  refine lv_istore_n hx hb d_Ta_branch_16 rfl hl (by decide) rfl (fun ls hl => ?_)
  have hl : lv_has ls 5 [(2, .int (Rg a)), (0, .ref mo), (1, .int (nI v))] := hl
  refine lv_aload_n hx hb d_Ta_branch_17 rfl (lv_at hl 1 rfl) ?_
  refine va_get (D := D) (ci := 4) (v := .ref ra) (C := R_Ta) (T := F_Ta) (N := 9) hx hb hg f_Ta hown hK.1 hP 0 rfl rfl 1 (by decide) (hg _ q83) (fun x9 h9 => u_same (hg _ q84) x9 h9) rfl d_Ta_branch_18 ?_
  refine lv_aload_n hx hb d_Ta_branch_21 rfl (lv_at hl 1 rfl) ?_
  refine va_get (D := D) (ci := 4) (v := .ref li) (C := R_Ta) (T := F_Ta) (N := 9) hx hb hg f_Ta hown hK.1 hP 0 rfl rfl 0 (by decide) (hg _ q76) (fun x9 h9 => u_same (hg _ q77) x9 h9) rfl d_Ta_branch_22 ?_
  refine lv_aload_n hx hb d_Ta_branch_25 rfl (lv_at hl 1 rfl) ?_
  refine va_get (D := D) (ci := 4) (v := .int (nI q)) (C := R_Ta) (T := F_Ta) (N := 9) hx hb hg f_Ta hown hK.1 hP 0 rfl rfl 5 (by decide) (hg _ q93) (fun x9 h9 => u_same (hg _ q94) x9 h9) rfl d_Ta_branch_26 ?_
  refine xr_V (C := R_Li) (As := [.int (nI q)]) (rest := [.ref ra]) ⟨hx, hb, hml, hown, hg⟩ (c_Li_second l D cI cZ cJ li lf 868 F (nI n) q (by omega) (by omega)) m_Li_second q538 q230 ⟨rfl, rfl⟩ ⟨Nat.le_of_ble_eq_true rfl, Nat.le_of_ble_eq_true rfl⟩ hK hP [4, 5] rfl (va_recv (q0 := 4) hK.1 hP rfl rfl) rfl hl.1 rfl (Nat.le_of_ble_eq_true rfl) d_Ta_branch_29 ⟨Nat.zero_le _, Nat.zero_le _⟩ ?_
  refine xa_ld hx hb hK hP 1 0 rfl rfl (kx := b) (hbb) (by omega) (by decide) d_Ta_branch_32 ?_
  refine lv_istore_n hx hb d_Ta_branch_33 rfl hl (by decide) rfl (fun ls hl => ?_)
  have hl : lv_has ls 5 [(3, .int (Rg b)), (2, .int (Rg a)), (0, .ref mo), (1, .int (nI v))] := hl
  refine lv_aload_n hx hb d_Ta_branch_34 rfl (lv_at hl 2 rfl) ?_
  refine va_get (D := D) (ci := 4) (v := .ref li) (C := R_Ta) (T := F_Ta) (N := 9) hx hb hg f_Ta hown hK.1 hP 0 rfl rfl 0 (by decide) (hg _ q76) (fun x9 h9 => u_same (hg _ q77) x9 h9) rfl d_Ta_branch_35 ?_
  refine lv_aload_n hx hb d_Ta_branch_38 rfl (lv_at hl 2 rfl) ?_
  refine va_get (D := D) (ci := 4) (v := .int (nI q)) (C := R_Ta) (T := F_Ta) (N := 9) hx hb hg f_Ta hown hK.1 hP 0 rfl rfl 5 (by decide) (hg _ q93) (fun x9 h9 => u_same (hg _ q94) x9 h9) rfl d_Ta_branch_39 ?_
  refine xr_V (C := R_Li) (As := [.int (nI q)]) (rest := []) ⟨hx, hb, hml, hown, hg⟩ (c_Li_third l D cI cZ cJ li lf 868 F (nI n) q (by omega) (by omega)) m_Li_third q512 q201 ⟨rfl, rfl⟩ ⟨Nat.le_of_ble_eq_true rfl, Nat.le_of_ble_eq_true rfl⟩ hK hP [4, 5] rfl (va_recv (q0 := 4) hK.1 hP rfl rfl) rfl hl.1 rfl (Nat.le_of_ble_eq_true rfl) d_Ta_branch_42 ⟨Nat.zero_le _, Nat.zero_le _⟩ ?_
  refine lv_istore hx hb d_Ta_branch_45 hl (by decide) rfl (fun ls hl => ?_)
  have hl : lv_has ls 5 [(4, .int (F (4 * q + 3))), (3, .int (Rg b)), (2, .int (Rg a)), (0, .ref mo), (1, .int (nI v))] := hl
  refine lv_iload_n hx hb d_Ta_branch_47 rfl (lv_at hl 4 rfl) ?_
  rcases (show v = 9 ∨ v = 10 ∨ v = 11 ∨ v = 12 ∨ v = 13 by omega) with e0 | e0 | e0 | e0 | e0
  · subst e0
    have hv : F (4 * q) = 9 := hv
    refine lv_tableIn (x := nI 9) (off := 36) (tgt := 84) hx hb d_Ta_branch_48 (by decide) (by decide) rfl rfl ?_
    refine lv_iload_n hx hb d_Ta_branch_84 rfl (lv_at hl 2 rfl) ?_
    refine lv_iload_n hx hb d_Ta_branch_85 rfl (lv_at hl 1 rfl) ?_
    refine lv_icmp_ne (tgt := 94) hx hb d_Ta_branch_86 rfl (fun h84 => ?_) (fun h84 => ?_)
    · refine lv_aload_n hx hb d_Ta_branch_94 rfl (lv_at hl 3 rfl) ?_
      refine va_get (D := D) (ci := 4) (v := .int (nI q)) (C := R_Ta) (T := F_Ta) (N := 9) hx hb hg f_Ta hown hK.1 hP 0 rfl rfl 5 (by decide) (hg _ q93) (fun x9 h9 => u_same (hg _ q94) x9 h9) rfl d_Ta_branch_95 ?_
      refine lv_iconst (v := 1) hx hb d_Ta_branch_98 (by decide) ?_
      refine lv_iadd hx hb d_Ta_branch_99 ?_
      have eq9 : ((nI q) + 1 : Int32) = nI (q + 1) := nI_add q 1
      refine W.eq (g2 := F0 m 100 ls [.int (nI (q + 1))]) (by rw [eq9]) ?_
      exact W.iret (v := nI (q + 1)) hx hb hr (fun t9 ht9 hW9 => ⟨nI (q + 1), rfl, by simp [tm_tb, ha, hbb, hc_a, hc_b, hv, h84], ht9⟩) (fun _ h => by cases h) d_Ta_branch_100
    · refine lv_iload hx hb d_Ta_branch_89 (lv_at hl 0 rfl) ?_
      refine lv_goto (tgt := 100) hx hb d_Ta_branch_91 rfl ?_
      exact W.iret (v := F (4 * q + 3)) hx hb hr (fun t9 ht9 hW9 => ⟨F (4 * q + 3), rfl, by simp [tm_tb, ha, hbb, hc_a, hc_b, hv, h84], ht9⟩) (fun _ h => by cases h) d_Ta_branch_100
  · subst e0
    have hv : F (4 * q) = 10 := hv
    refine lv_tableIn (x := nI 10) (off := 53) (tgt := 101) hx hb d_Ta_branch_48 (by decide) (by decide) rfl rfl ?_
    refine lv_iload_n hx hb d_Ta_branch_101 rfl (lv_at hl 2 rfl) ?_
    refine lv_iload_n hx hb d_Ta_branch_102 rfl (lv_at hl 1 rfl) ?_
    refine lv_icmp_eq (tgt := 111) hx hb d_Ta_branch_103 rfl (fun h85 => ?_) (fun h85 => ?_)
    · refine lv_aload_n hx hb d_Ta_branch_111 rfl (lv_at hl 3 rfl) ?_
      refine va_get (D := D) (ci := 4) (v := .int (nI q)) (C := R_Ta) (T := F_Ta) (N := 9) hx hb hg f_Ta hown hK.1 hP 0 rfl rfl 5 (by decide) (hg _ q93) (fun x9 h9 => u_same (hg _ q94) x9 h9) rfl d_Ta_branch_112 ?_
      refine lv_iconst (v := 1) hx hb d_Ta_branch_115 (by decide) ?_
      refine lv_iadd hx hb d_Ta_branch_116 ?_
      have eq9 : ((nI q) + 1 : Int32) = nI (q + 1) := nI_add q 1
      refine W.eq (g2 := F0 m 117 ls [.int (nI (q + 1))]) (by rw [eq9]) ?_
      exact W.iret (v := nI (q + 1)) hx hb hr (fun t9 ht9 hW9 => ⟨nI (q + 1), rfl, by simp [tm_tb, ha, hbb, hc_a, hc_b, hv, h85], ht9⟩) (fun _ h => by cases h) d_Ta_branch_117
    · refine lv_iload hx hb d_Ta_branch_106 (lv_at hl 0 rfl) ?_
      refine lv_goto (tgt := 117) hx hb d_Ta_branch_108 rfl ?_
      exact W.iret (v := F (4 * q + 3)) hx hb hr (fun t9 ht9 hW9 => ⟨F (4 * q + 3), rfl, by simp [tm_tb, ha, hbb, hc_a, hc_b, hv, h85], ht9⟩) (fun _ h => by cases h) d_Ta_branch_117
  · subst e0
    have hv : F (4 * q) = 11 := hv
    refine lv_tableIn (x := nI 11) (off := 95) (tgt := 143) hx hb d_Ta_branch_48 (by decide) (by decide) rfl rfl ?_
    refine lv_iload hx hb d_Ta_branch_143 (lv_at hl 0 rfl) ?_
    exact W.iret (v := F (4 * q + 3)) hx hb hr (fun t9 ht9 hW9 => ⟨F (4 * q + 3), rfl, by simp [tm_tb, ha, hbb, hc_a, hc_b, hv], ht9⟩) (fun _ h => by cases h) d_Ta_branch_145
  · subst e0
    have hv : F (4 * q) = 12 := hv
    refine lv_tableIn (x := nI 12) (off := 70) (tgt := 118) hx hb d_Ta_branch_48 (by decide) (by decide) rfl rfl ?_
    refine lv_iload_n hx hb d_Ta_branch_118 rfl (lv_at hl 2 rfl) ?_
    refine xr_S (As := [.int (Rg a)]) (rest := []) ⟨hx, hb, hml, hown, hg⟩ (c_Ta_unsigned l D cI cZ cJ (Rg a)) m_Ta_unsigned q539 ⟨rfl, rfl⟩ ⟨Nat.le_of_ble_eq_true rfl, Nat.le_of_ble_eq_true rfl⟩ hK hP [] rfl rfl hl.1 rfl (Nat.le_of_ble_eq_true rfl) d_Ta_branch_119 ⟨Nat.zero_le _, Nat.zero_le _⟩ ?_
    refine lv_iload_n hx hb d_Ta_branch_122 rfl (lv_at hl 1 rfl) ?_
    refine xr_S (As := [.int (Rg b)]) (rest := [.int ((Rg a) &&& 65535)]) ⟨hx, hb, hml, hown, hg⟩ (c_Ta_unsigned l D cI cZ cJ (Rg b)) m_Ta_unsigned q539 ⟨rfl, rfl⟩ ⟨Nat.le_of_ble_eq_true rfl, Nat.le_of_ble_eq_true rfl⟩ hK hP [] rfl rfl hl.1 rfl (Nat.le_of_ble_eq_true rfl) d_Ta_branch_123 ⟨Nat.zero_le _, Nat.zero_le _⟩ ?_
    refine lv_icmp_lt (tgt := 134) hx hb d_Ta_branch_126 rfl (fun h86 => ?_) (fun h86 => ?_)
    · refine lv_aload_n hx hb d_Ta_branch_134 rfl (lv_at hl 3 rfl) ?_
      refine va_get (D := D) (ci := 4) (v := .int (nI q)) (C := R_Ta) (T := F_Ta) (N := 9) hx hb hg f_Ta hown hK.1 hP 0 rfl rfl 5 (by decide) (hg _ q93) (fun x9 h9 => u_same (hg _ q94) x9 h9) rfl d_Ta_branch_135 ?_
      refine lv_iconst (v := 1) hx hb d_Ta_branch_138 (by decide) ?_
      refine lv_iadd hx hb d_Ta_branch_139 ?_
      have eq9 : ((nI q) + 1 : Int32) = nI (q + 1) := nI_add q 1
      refine W.eq (g2 := F0 m 140 ls [.int (nI (q + 1))]) (by rw [eq9]) ?_
      exact W.iret (v := nI (q + 1)) hx hb hr (fun t9 ht9 hW9 => ⟨nI (q + 1), rfl, by simp [tm_tb, ha, hbb, hc_a, hc_b, hv, h86], ht9⟩) (fun _ h => by cases h) d_Ta_branch_140
    · refine lv_iload hx hb d_Ta_branch_129 (lv_at hl 0 rfl) ?_
      refine lv_goto (tgt := 140) hx hb d_Ta_branch_131 rfl ?_
      exact W.iret (v := F (4 * q + 3)) hx hb hr (fun t9 ht9 hW9 => ⟨F (4 * q + 3), rfl, by simp [tm_tb, ha, hbb, hc_a, hc_b, hv, h86], ht9⟩) (fun _ h => by cases h) d_Ta_branch_140
  · subst e0
    have hv : F (4 * q) = 13 := hv
    refine lv_tableIn (x := nI 13) (off := 93) (tgt := 141) hx hb d_Ta_branch_48 (by decide) (by decide) rfl rfl ?_
    refine lv_iload_n hx hb d_Ta_branch_141 rfl (lv_at hl 2 rfl) ?_
    exact W.iret (v := Rg a) hx hb hr (fun t9 ht9 hW9 => ⟨Rg a, rfl, by simp [tm_tb, ha, hbb, hc_a, hc_b, hv], ht9⟩) (fun _ h => by cases h) d_Ta_branch_142

set_option maxHeartbeats 4000000 in
set_option maxRecDepth 100000 in
theorem c_Ta_goOn_s (l : Launch) (D : va_G) (cI cZ cJ : ClassId) (mo li ra ca aa lf tr : Nat) (Rg Ce Ac F : Nat → Int32) (n kp : Nat) (dn en : Int32) (q : Nat) (v : Nat) (hv8 : v ≤ 8) : xw_Met l y_Ta_goOn b_Ta_goOn 2 none { frames := 0, cells := 0, slots := 0, locals := 0 } [.ref mo, .int (nI v)] D cls (tyL cI cZ cJ) [(mo, .inr (4, [.ref li, .ref ra, .ref ca, .ref aa, .int (nI kp), .int (nI q), .int dn, .int en, .ref tr])), (ra, .inl (cI, 8, .inl Rg)), (ca, .inl (cI, 64, .inl Ce)), (aa, .inl (cI, 120, .inl Ac)), (li, .inr (1, [.ref lf, .int (nI n)])), (lf, .inl (cI, 868, .inl F))] [(mo, .inr (4, [.ref li, .ref ra, .ref ca, .ref aa, .int (nI kp), .int (nI (q + 1)), .int dn, .int en, .ref tr])), (ra, .inl (cI, 8, .inl Rg)), (ca, .inl (cI, 64, .inl Ce)), (aa, .inl (cI, 120, .inl Ac)), (li, .inr (1, [.ref lf, .int (nI n)])), (lf, .inl (cI, 868, .inl F))] := by
  intro sz
  refine Met.ofW (cc := b_Ta_goOn) (maxL := 2) (ret := none) (by decide) rfl ?_
  intro p e s m args below meth c s₁ B0 hml hv
  obtain ⟨rfl, hsz, hP, hK, hD0⟩ := hv
  have hx := B0.exec
  have hb := B0.bytes
  have hr := B0.returns
  have hlocks := B0.notSynchronized
  have hg : ∀ w ∈ gG, w.before _ s = true := fun w h => atoms_spec B0.pre w (List.mem_cons_of_mem _ h)
  have hown : s.vm.findClass R_Ta = some m.cls := findClass_of_methodNamed B0.named
  subst hsz
  have hD := hD0.self (sz := s.heap.size)
  generalize hAe : va_A [(mo, .inr (4, [.ref li, .ref ra, .ref ca, .ref aa, .int (nI kp), .int (nI q), .int dn, .int en, .ref tr])), (ra, .inl (cI, 8, .inl Rg)), (ca, .inl (cI, 64, .inl Ce)), (aa, .inl (cI, 120, .inl Ac)), (li, .inr (1, [.ref lf, .int (nI n)])), (lf, .inl (cI, 868, .inl F))] s.heap.size = A at hD ⊢
  have hA : ∀ q : Nat, s.heap.size ≤ q → A q := fun q h => by rw [← hAe]; exact Or.inr h
  have hS : va_S A s.heap s.heap [] := va_S.rf
  have hP : va_P D cls [(mo, .inr (4, [.ref li, .ref ra, .ref ca, .ref aa, .int (nI kp), .int (nI q), .int dn, .int en, .ref tr])), (ra, .inl (cI, 8, .inl Rg)), (ca, .inl (cI, 64, .inl Ce)), (aa, .inl (cI, 120, .inl Ac)), (li, .inr (1, [.ref lf, .int (nI n)])), (lf, .inl (cI, 868, .inl F))] s.heap := hP
  have hl := lv_entry ([.ref mo, .int (nI v)]) (n := 2) (Nat.le_of_ble_eq_true rfl)
  rw [lg_entry_eq]
  generalize (lg_sl ([.ref mo, .int (nI v)]) ++ List.replicate (2 - (lg_sl ([.ref mo, .int (nI v)])).length) Slot.unset).toArray = ls at hl ⊢
  have hl : lv_has ls 2 [(0, .ref mo), (1, .int (nI v))] := hl
  refine lv_aload_n hx hb d_Ta_goOn_0 rfl (lv_at hl 0 rfl) ?_
  refine lv_iload_n hx hb d_Ta_goOn_1 rfl (lv_at hl 1 rfl) ?_
  refine lv_bipush (v := 9) hx hb d_Ta_goOn_2 (by decide) ?_
  refine lv_icmp_ge (tgt := 16) hx hb d_Ta_goOn_4 rfl (fun hz9 => absurd hz9 (nI_ge (a := v) (b := 9) (by omega) (by decide))) (fun _ => ?_)
  refine lv_aload_n hx hb d_Ta_goOn_7 rfl (lv_at hl 0 rfl) ?_
  refine va_get (D := D) (ci := 4) (v := .int (nI q)) (C := R_Ta) (T := F_Ta) (N := 9) hx hb hg f_Ta hown hK.1 hP 0 rfl rfl 5 (by decide) (hg _ q93) (fun x9 h9 => u_same (hg _ q94) x9 h9) rfl d_Ta_goOn_8 ?_
  refine lv_iconst (v := 1) hx hb d_Ta_goOn_11 (by decide) ?_
  refine lv_iadd hx hb d_Ta_goOn_12 ?_
  have eq9 : ((nI q) + 1 : Int32) = nI (q + 1) := nI_add q 1
  refine W.eq (g2 := F0 m 13 ls [.int (nI (q + 1)), .ref mo]) (by rw [eq9]) ?_
  refine lv_goto (tgt := 21) hx hb d_Ta_goOn_13 rfl ?_
  refine va_put (D := D) (ci := 4) (v := .int (nI (q + 1))) (ty := .int) (C := R_Ta) (T := F_Ta) (N := 9) hx hb hg f_Ta t_Ta t_Ta_ok n_Ta hown hK.1 hP hD hS 0 rfl rfl 5 (by decide) (hg _ q93) (fun x9 h9 => u_same (hg _ q94) x9 h9) rfl (by decide +kernel) rfl rfl (Nat.le_of_ble_eq_true rfl) d_Ta_goOn_21 (fun H locs hP hD hS => ?_)
  have hP : va_P D cls [(mo, .inr (4, [.ref li, .ref ra, .ref ca, .ref aa, .int (nI kp), .int (nI (q + 1)), .int dn, .int en, .ref tr])), (ra, .inl (cI, 8, .inl Rg)), (ca, .inl (cI, 64, .inl Ce)), (aa, .inl (cI, 120, .inl Ac)), (li, .inr (1, [.ref lf, .int (nI n)])), (lf, .inl (cI, 868, .inl F))] H := hP
  have hD : va_D A [(mo, .inr (4, [.ref li, .ref ra, .ref ca, .ref aa, .int (nI kp), .int (nI (q + 1)), .int dn, .int en, .ref tr])), (ra, .inl (cI, 8, .inl Rg)), (ca, .inl (cI, 64, .inl Ce)), (aa, .inl (cI, 120, .inl Ac)), (li, .inr (1, [.ref lf, .int (nI n)])), (lf, .inl (cI, 868, .inl F))] := hD
  have hP : va_P D cls [(mo, .inr (4, [.ref li, .ref ra, .ref ca, .ref aa, .int (nI kp), .int (nI (q + 1)), .int dn, .int en, .ref tr])), (ra, .inl (cI, 8, .inl Rg)), (ca, .inl (cI, 64, .inl Ce)), (aa, .inl (cI, 120, .inl Ac)), (li, .inr (1, [.ref lf, .int (nI n)])), (lf, .inl (cI, 868, .inl F))] H := by exact hP
  have hD : va_D A [(mo, .inr (4, [.ref li, .ref ra, .ref ca, .ref aa, .int (nI kp), .int (nI (q + 1)), .int dn, .int en, .ref tr])), (ra, .inl (cI, 8, .inl Rg)), (ca, .inl (cI, 64, .inl Ce)), (aa, .inl (cI, 120, .inl Ac)), (li, .inr (1, [.ref lf, .int (nI n)])), (lf, .inl (cI, 868, .inl F))] := by exact hD
  exact W.vret hx hb hr (fun t9 ht9 hW9 => ⟨⟨(), rfl, trivial, by rw [ht9]; exact hP, hD⟩, hS.F ht9⟩) hS.2.2 d_Ta_goOn_24

set_option maxHeartbeats 4000000 in
set_option maxRecDepth 100000 in
theorem c_Ta_goOn_b (l : Launch) (D : va_G) (cI cZ cJ : ClassId) (mo li ra ca aa lf tr : Nat) (Rg Ce Ac F : Nat → Int32) (n kp : Nat) (dn en : Int32) (q : Nat) (v a b : Nat) (hn : n ≤ 217) (hq : q < n) (hv : F (4 * q) = nI v) (ha : F (4 * q + 1) = nI a) (ha8 : a < 8) (hbb : F (4 * q + 2) = nI b) (hb8 : b < 8) (hv9 : 9 ≤ v) (hv13 : v ≤ 13) : xw_Met l y_Ta_goOn b_Ta_goOn 2 none { frames := 3, cells := 0, slots := 0, locals := 67 } [.ref mo, .int (nI v)] D cls (tyL cI cZ cJ) [(mo, .inr (4, [.ref li, .ref ra, .ref ca, .ref aa, .int (nI kp), .int (nI q), .int dn, .int en, .ref tr])), (ra, .inl (cI, 8, .inl Rg)), (ca, .inl (cI, 64, .inl Ce)), (aa, .inl (cI, 120, .inl Ac)), (li, .inr (1, [.ref lf, .int (nI n)])), (lf, .inl (cI, 868, .inl F))] [(mo, .inr (4, [.ref li, .ref ra, .ref ca, .ref aa, .int (nI kp), .int (tm_tb F q Rg), .int dn, .int en, .ref tr])), (ra, .inl (cI, 8, .inl Rg)), (ca, .inl (cI, 64, .inl Ce)), (aa, .inl (cI, 120, .inl Ac)), (li, .inr (1, [.ref lf, .int (nI n)])), (lf, .inl (cI, 868, .inl F))] := by
  intro sz
  refine Met.ofW (cc := b_Ta_goOn) (maxL := 2) (ret := none) (by decide) rfl ?_
  intro p e s m args below meth c s₁ B0 hml hv
  obtain ⟨rfl, hsz, hP, hK, hD0⟩ := hv
  have hx := B0.exec
  have hb := B0.bytes
  have hr := B0.returns
  have hlocks := B0.notSynchronized
  have hg : ∀ w ∈ gG, w.before _ s = true := fun w h => atoms_spec B0.pre w (List.mem_cons_of_mem _ h)
  have hown : s.vm.findClass R_Ta = some m.cls := findClass_of_methodNamed B0.named
  subst hsz
  have hD := hD0.self (sz := s.heap.size)
  generalize hAe : va_A [(mo, .inr (4, [.ref li, .ref ra, .ref ca, .ref aa, .int (nI kp), .int (nI q), .int dn, .int en, .ref tr])), (ra, .inl (cI, 8, .inl Rg)), (ca, .inl (cI, 64, .inl Ce)), (aa, .inl (cI, 120, .inl Ac)), (li, .inr (1, [.ref lf, .int (nI n)])), (lf, .inl (cI, 868, .inl F))] s.heap.size = A at hD ⊢
  have hA : ∀ q : Nat, s.heap.size ≤ q → A q := fun q h => by rw [← hAe]; exact Or.inr h
  have hS : va_S A s.heap s.heap [] := va_S.rf
  have hP : va_P D cls [(mo, .inr (4, [.ref li, .ref ra, .ref ca, .ref aa, .int (nI kp), .int (nI q), .int dn, .int en, .ref tr])), (ra, .inl (cI, 8, .inl Rg)), (ca, .inl (cI, 64, .inl Ce)), (aa, .inl (cI, 120, .inl Ac)), (li, .inr (1, [.ref lf, .int (nI n)])), (lf, .inl (cI, 868, .inl F))] s.heap := hP
  have hl := lv_entry ([.ref mo, .int (nI v)]) (n := 2) (Nat.le_of_ble_eq_true rfl)
  rw [lg_entry_eq]
  generalize (lg_sl ([.ref mo, .int (nI v)]) ++ List.replicate (2 - (lg_sl ([.ref mo, .int (nI v)])).length) Slot.unset).toArray = ls at hl ⊢
  have hl : lv_has ls 2 [(0, .ref mo), (1, .int (nI v))] := hl
  refine lv_aload_n hx hb d_Ta_goOn_0 rfl (lv_at hl 0 rfl) ?_
  refine lv_iload_n hx hb d_Ta_goOn_1 rfl (lv_at hl 1 rfl) ?_
  refine lv_bipush (v := 9) hx hb d_Ta_goOn_2 (by decide) ?_
  refine lv_icmp_ge (tgt := 16) hx hb d_Ta_goOn_4 rfl (fun _ => ?_) (fun hz9 => absurd (nI_le (a := 9) (b := v) (by omega) (by omega)) hz9)
  refine lv_aload_n hx hb d_Ta_goOn_16 rfl (lv_at hl 0 rfl) ?_
  refine lv_iload_n hx hb d_Ta_goOn_17 rfl (lv_at hl 1 rfl) ?_
  refine xr_V (C := R_Ta) (As := [.int (nI v)]) (rest := [.ref mo]) ⟨hx, hb, hml, hown, hg⟩ (c_Ta_branch l D cI cZ cJ mo li ra ca aa lf tr Rg Ce Ac F n kp dn en q v a b (by omega) (by omega) (hv) (ha) (by omega) (hbb) (by omega) (by omega) (by omega)) m_Ta_branch q533 sp_Ta_branch ⟨rfl, rfl⟩ ⟨Nat.le_of_ble_eq_true rfl, Nat.le_of_ble_eq_true rfl⟩ hK hP [0, 1, 2, 3, 4, 5] rfl (va_recv (q0 := 0) hK.1 hP rfl rfl) rfl hl.1 rfl (Nat.le_of_ble_eq_true rfl) d_Ta_goOn_18 ⟨Nat.zero_le _, Nat.zero_le _⟩ ?_
  refine va_put (D := D) (ci := 4) (v := .int (tm_tb F q Rg)) (ty := .int) (C := R_Ta) (T := F_Ta) (N := 9) hx hb hg f_Ta t_Ta t_Ta_ok n_Ta hown hK.1 hP hD hS 0 rfl rfl 5 (by decide) (hg _ q93) (fun x9 h9 => u_same (hg _ q94) x9 h9) rfl (by decide +kernel) rfl rfl (Nat.le_of_ble_eq_true rfl) d_Ta_goOn_21 (fun H locs hP hD hS => ?_)
  have hP : va_P D cls [(mo, .inr (4, [.ref li, .ref ra, .ref ca, .ref aa, .int (nI kp), .int (tm_tb F q Rg), .int dn, .int en, .ref tr])), (ra, .inl (cI, 8, .inl Rg)), (ca, .inl (cI, 64, .inl Ce)), (aa, .inl (cI, 120, .inl Ac)), (li, .inr (1, [.ref lf, .int (nI n)])), (lf, .inl (cI, 868, .inl F))] H := hP
  have hD : va_D A [(mo, .inr (4, [.ref li, .ref ra, .ref ca, .ref aa, .int (nI kp), .int (tm_tb F q Rg), .int dn, .int en, .ref tr])), (ra, .inl (cI, 8, .inl Rg)), (ca, .inl (cI, 64, .inl Ce)), (aa, .inl (cI, 120, .inl Ac)), (li, .inr (1, [.ref lf, .int (nI n)])), (lf, .inl (cI, 868, .inl F))] := hD
  have hP : va_P D cls [(mo, .inr (4, [.ref li, .ref ra, .ref ca, .ref aa, .int (nI kp), .int (tm_tb F q Rg), .int dn, .int en, .ref tr])), (ra, .inl (cI, 8, .inl Rg)), (ca, .inl (cI, 64, .inl Ce)), (aa, .inl (cI, 120, .inl Ac)), (li, .inr (1, [.ref lf, .int (nI n)])), (lf, .inl (cI, 868, .inl F))] H := by exact hP
  have hD : va_D A [(mo, .inr (4, [.ref li, .ref ra, .ref ca, .ref aa, .int (nI kp), .int (tm_tb F q Rg), .int dn, .int en, .ref tr])), (ra, .inl (cI, 8, .inl Rg)), (ca, .inl (cI, 64, .inl Ce)), (aa, .inl (cI, 120, .inl Ac)), (li, .inr (1, [.ref lf, .int (nI n)])), (lf, .inl (cI, 868, .inl F))] := by exact hD
  exact W.vret hx hb hr (fun t9 ht9 hW9 => ⟨⟨(), rfl, trivial, by rw [ht9]; exact hP, hD⟩, hS.F ht9⟩) hS.2.2 d_Ta_goOn_24
