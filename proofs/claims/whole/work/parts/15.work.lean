/-! MACHINES: work (printed by wip/whole/gen/c15.py) -/
set_option maxHeartbeats 4000000 in
set_option maxRecDepth 100000 in
theorem c_So_work (l : Launch) (D : va_G) (cI cZ cJ : ClassId) (mo li ra ca aa lf : Nat) (Rg Ce Ac F : Nat → Int32) (n kp : Nat) (dn en nx : Int32) (he : Int32) (lim : Nat) (hn : n ≤ 24) (hiv : tm_iv F n) (hkp : kp ≤ 40) (hlim : lim ≤ 2000) : xw_Met l y_Ma_work b_Ma_work 3 none { frames := 5, cells := 0, slots := 0, locals := 111 } [.ref mo, .int (nI lim)] D cls (tyL cI cZ cJ) [(mo, .inr (3, [.ref li, .ref ra, .ref ca, .ref aa, .int (nI kp), .int he, .int dn, .int en, .int nx])), (ra, .inl (cI, 8, .inl Rg)), (ca, .inl (cI, 32, .inl Ce)), (aa, .inl (cI, 120, .inl Ac)), (li, .inr (1, [.ref lf, .int (nI n)])), (lf, .inl (cI, 96, .inl F))] [(mo, .inr (3, [.ref li, .ref ra, .ref ca, .ref aa, .int (nI (tm_run tm_ss F n lim (Rg, Ce, Ac, kp, he, dn, en, nx)).2.2.2.1), .int ((tm_run tm_ss F n lim (Rg, Ce, Ac, kp, he, dn, en, nx)).2.2.2.2.1), .int ((tm_run tm_ss F n lim (Rg, Ce, Ac, kp, he, dn, en, nx)).2.2.2.2.2.1), .int ((tm_run tm_ss F n lim (Rg, Ce, Ac, kp, he, dn, en, nx)).2.2.2.2.2.2.1), .int ((tm_run tm_ss F n lim (Rg, Ce, Ac, kp, he, dn, en, nx)).2.2.2.2.2.2.2)])), (ra, .inl (cI, 8, .inl ((tm_run tm_ss F n lim (Rg, Ce, Ac, kp, he, dn, en, nx)).1))), (ca, .inl (cI, 32, .inl ((tm_run tm_ss F n lim (Rg, Ce, Ac, kp, he, dn, en, nx)).2.1))), (aa, .inl (cI, 120, .inl ((tm_run tm_ss F n lim (Rg, Ce, Ac, kp, he, dn, en, nx)).2.2.1))), (li, .inr (1, [.ref lf, .int (nI n)])), (lf, .inl (cI, 96, .inl F))] := by
  intro sz
  refine Met.ofW (cc := b_Ma_work) (maxL := 3) (ret := none) (by decide) rfl ?_
  intro p e s m args below meth c s₁ B0 hml hv
  obtain ⟨rfl, hsz, hP, hK, hD0⟩ := hv
  have hx := B0.exec
  have hb := B0.bytes
  have hr := B0.returns
  have hlocks := B0.notSynchronized
  have hg : ∀ w ∈ gG, w.before _ s = true := fun w h => atoms_spec B0.pre w (List.mem_cons_of_mem _ h)
  have hown : s.vm.findClass R_Ma = some m.cls := findClass_of_methodNamed B0.named
  subst hsz
  have hD := hD0.self (sz := s.heap.size)
  generalize hAe : va_A [(mo, .inr (3, [.ref li, .ref ra, .ref ca, .ref aa, .int (nI kp), .int he, .int dn, .int en, .int nx])), (ra, .inl (cI, 8, .inl Rg)), (ca, .inl (cI, 32, .inl Ce)), (aa, .inl (cI, 120, .inl Ac)), (li, .inr (1, [.ref lf, .int (nI n)])), (lf, .inl (cI, 96, .inl F))] s.heap.size = A at hD ⊢
  have hA : ∀ q : Nat, s.heap.size ≤ q → A q := fun q h => by rw [← hAe]; exact Or.inr h
  have hS : va_S A s.heap s.heap [] := va_S.rf
  have hP : va_P D cls [(mo, .inr (3, [.ref li, .ref ra, .ref ca, .ref aa, .int (nI kp), .int he, .int dn, .int en, .int nx])), (ra, .inl (cI, 8, .inl Rg)), (ca, .inl (cI, 32, .inl Ce)), (aa, .inl (cI, 120, .inl Ac)), (li, .inr (1, [.ref lf, .int (nI n)])), (lf, .inl (cI, 96, .inl F))] s.heap := hP
  have hl := lv_entry ([.ref mo, .int (nI lim)]) (n := 3) (Nat.le_of_ble_eq_true rfl)
  rw [lg_entry_eq]
  generalize (lg_sl ([.ref mo, .int (nI lim)]) ++ List.replicate (3 - (lg_sl ([.ref mo, .int (nI lim)])).length) Slot.unset).toArray = ls at hl ⊢
  have hl : lv_has ls 3 [(0, .ref mo), (1, .int (nI lim))] := hl
  refine lv_iconst (v := 0) hx hb d_Ma_work_0 (by decide) ?_
  refine lv_istore_n hx hb d_Ma_work_1 rfl hl (by decide) rfl (fun ls hl => ?_)
  have hl : lv_has ls 3 [(2, .int 0), (0, .ref mo), (1, .int (nI lim))] := hl
  have loop : ∀ (g j : Nat) (R1 C1 A1 : tF) (k1 : Nat) (h1 d1 e1 x1 : Int32) (H : Heap) (locs : List Loc) (ls : Array Slot), j + g = lim → k1 ≤ 40 → tm_run tm_ss F n lim (Rg, Ce, Ac, kp, he, dn, en, nx) = tm_run tm_ss F n g (R1, C1, A1, k1, h1, d1, e1, x1) → lv_has ls 3 [(2, .int (nI j)), (1, .int (nI lim)), (0, .ref mo)] → va_P D cls [(mo, .inr (3, [.ref li, .ref ra, .ref ca, .ref aa, .int (nI k1), .int h1, .int d1, .int e1, .int x1])), (ra, .inl (cI, 8, .inl R1)), (ca, .inl (cI, 32, .inl C1)), (aa, .inl (cI, 120, .inl A1)), (li, .inr (1, [.ref lf, .int (nI n)])), (lf, .inl (cI, 96, .inl F))] H → va_D A [(mo, .inr (3, [.ref li, .ref ra, .ref ca, .ref aa, .int (nI k1), .int h1, .int d1, .int e1, .int x1])), (ra, .inl (cI, 8, .inl R1)), (ca, .inl (cI, 32, .inl C1)), (aa, .inl (cI, 120, .inl A1)), (li, .inr (1, [.ref lf, .int (nI n)])), (lf, .inl (cI, 96, .inl F))] → va_S A s.heap H locs → W p l e (headSpec (Cond.code y_Ma_work b_Ma_work 3 none :: gG) { frames := 5, cells := 0, slots := 0, locals := 111 }).room s m ([.ref mo, .int (nI lim)] : List Value).toArray below meth c H locs 0 0 (MQ below (va_Qv (fun _ : Unit => True) (fun _ t9 => xw_B D cls [(mo, .inr (3, [.ref li, .ref ra, .ref ca, .ref aa, .int (nI (tm_run tm_ss F n lim (Rg, Ce, Ac, kp, he, dn, en, nx)).2.2.2.1), .int ((tm_run tm_ss F n lim (Rg, Ce, Ac, kp, he, dn, en, nx)).2.2.2.2.1), .int ((tm_run tm_ss F n lim (Rg, Ce, Ac, kp, he, dn, en, nx)).2.2.2.2.2.1), .int ((tm_run tm_ss F n lim (Rg, Ce, Ac, kp, he, dn, en, nx)).2.2.2.2.2.2.1), .int ((tm_run tm_ss F n lim (Rg, Ce, Ac, kp, he, dn, en, nx)).2.2.2.2.2.2.2)])), (ra, .inl (cI, 8, .inl ((tm_run tm_ss F n lim (Rg, Ce, Ac, kp, he, dn, en, nx)).1))), (ca, .inl (cI, 32, .inl ((tm_run tm_ss F n lim (Rg, Ce, Ac, kp, he, dn, en, nx)).2.1))), (aa, .inl (cI, 120, .inl ((tm_run tm_ss F n lim (Rg, Ce, Ac, kp, he, dn, en, nx)).2.2.1))), (li, .inr (1, [.ref lf, .int (nI n)])), (lf, .inl (cI, 96, .inl F))] A t9) A) ([.ref mo, .int (nI lim)] : List Value).toArray s 0 0 A) (F0 m 2 ls []) := by
    intro g
    induction g with
    | zero =>
      intro j R1 C1 A1 k1 h1 d1 e1 x1 H locs ls hj hk1 hres hl hP hD hS
      refine lv_iload_n hx hb d_Ma_work_2 rfl (lv_at hl 0 rfl) ?_
      refine lv_iload_n hx hb d_Ma_work_3 rfl (lv_at hl 1 rfl) ?_
      refine lv_icmp_ge (tgt := 57) hx hb d_Ma_work_4 rfl (fun _ => ?_) (fun hz9 => absurd (nI_le (by omega) (by omega)) hz9)
      have ew1 : nI k1 = nI (tm_run tm_ss F n lim (Rg, Ce, Ac, kp, he, dn, en, nx)).2.2.2.1 := congrArg nI (by first | (simp [hres, tm_run]; done) | (simp [hres, tm_run]; omega) | omega)
      have ew2 : h1 = (tm_run tm_ss F n lim (Rg, Ce, Ac, kp, he, dn, en, nx)).2.2.2.2.1 := by first | rfl | simp [hres, tm_run]
      have ew3 : d1 = (tm_run tm_ss F n lim (Rg, Ce, Ac, kp, he, dn, en, nx)).2.2.2.2.2.1 := by first | rfl | simp [hres, tm_run]
      have ew4 : e1 = (tm_run tm_ss F n lim (Rg, Ce, Ac, kp, he, dn, en, nx)).2.2.2.2.2.2.1 := by first | rfl | simp [hres, tm_run]
      have ew5 : x1 = (tm_run tm_ss F n lim (Rg, Ce, Ac, kp, he, dn, en, nx)).2.2.2.2.2.2.2 := by first | rfl | simp [hres, tm_run]
      have ew6 : R1 = (tm_run tm_ss F n lim (Rg, Ce, Ac, kp, he, dn, en, nx)).1 := by first | rfl | simp [hres, tm_run]
      have ew7 : C1 = (tm_run tm_ss F n lim (Rg, Ce, Ac, kp, he, dn, en, nx)).2.1 := by first | rfl | simp [hres, tm_run]
      have ew8 : A1 = (tm_run tm_ss F n lim (Rg, Ce, Ac, kp, he, dn, en, nx)).2.2.1 := by first | rfl | simp [hres, tm_run]
      have hP : va_P D cls [(mo, .inr (3, [.ref li, .ref ra, .ref ca, .ref aa, .int (nI (tm_run tm_ss F n lim (Rg, Ce, Ac, kp, he, dn, en, nx)).2.2.2.1), .int ((tm_run tm_ss F n lim (Rg, Ce, Ac, kp, he, dn, en, nx)).2.2.2.2.1), .int ((tm_run tm_ss F n lim (Rg, Ce, Ac, kp, he, dn, en, nx)).2.2.2.2.2.1), .int ((tm_run tm_ss F n lim (Rg, Ce, Ac, kp, he, dn, en, nx)).2.2.2.2.2.2.1), .int ((tm_run tm_ss F n lim (Rg, Ce, Ac, kp, he, dn, en, nx)).2.2.2.2.2.2.2)])), (ra, .inl (cI, 8, .inl ((tm_run tm_ss F n lim (Rg, Ce, Ac, kp, he, dn, en, nx)).1))), (ca, .inl (cI, 32, .inl ((tm_run tm_ss F n lim (Rg, Ce, Ac, kp, he, dn, en, nx)).2.1))), (aa, .inl (cI, 120, .inl ((tm_run tm_ss F n lim (Rg, Ce, Ac, kp, he, dn, en, nx)).2.2.1))), (li, .inr (1, [.ref lf, .int (nI n)])), (lf, .inl (cI, 96, .inl F))] H := by rw [← ew1, ← ew2, ← ew3, ← ew4, ← ew5, ← ew6, ← ew7, ← ew8]; exact hP
      have hD : va_D A [(mo, .inr (3, [.ref li, .ref ra, .ref ca, .ref aa, .int (nI (tm_run tm_ss F n lim (Rg, Ce, Ac, kp, he, dn, en, nx)).2.2.2.1), .int ((tm_run tm_ss F n lim (Rg, Ce, Ac, kp, he, dn, en, nx)).2.2.2.2.1), .int ((tm_run tm_ss F n lim (Rg, Ce, Ac, kp, he, dn, en, nx)).2.2.2.2.2.1), .int ((tm_run tm_ss F n lim (Rg, Ce, Ac, kp, he, dn, en, nx)).2.2.2.2.2.2.1), .int ((tm_run tm_ss F n lim (Rg, Ce, Ac, kp, he, dn, en, nx)).2.2.2.2.2.2.2)])), (ra, .inl (cI, 8, .inl ((tm_run tm_ss F n lim (Rg, Ce, Ac, kp, he, dn, en, nx)).1))), (ca, .inl (cI, 32, .inl ((tm_run tm_ss F n lim (Rg, Ce, Ac, kp, he, dn, en, nx)).2.1))), (aa, .inl (cI, 120, .inl ((tm_run tm_ss F n lim (Rg, Ce, Ac, kp, he, dn, en, nx)).2.2.1))), (li, .inr (1, [.ref lf, .int (nI n)])), (lf, .inl (cI, 96, .inl F))] := by rw [← ew1, ← ew2, ← ew3, ← ew4, ← ew5, ← ew6, ← ew7, ← ew8]; exact hD
      exact W.vret hx hb hr (fun t9 ht9 hW9 => ⟨⟨(), rfl, trivial, by rw [ht9]; exact hP, hD⟩, hS.F ht9⟩) hS.2.2 d_Ma_work_57
    | succ g ih =>
      intro j R1 C1 A1 k1 h1 d1 e1 x1 H locs ls hj hk1 hres hl hP hD hS
      refine lv_iload_n hx hb d_Ma_work_2 rfl (lv_at hl 0 rfl) ?_
      refine lv_iload_n hx hb d_Ma_work_3 rfl (lv_at hl 1 rfl) ?_
      refine lv_icmp_ge (tgt := 57) hx hb d_Ma_work_4 rfl (fun hz9 => absurd hz9 (nI_ge (by omega) (by omega))) (fun _ => ?_)
      refine lv_aload_n hx hb d_Ma_work_7 rfl (lv_at hl 2 rfl) ?_
      refine va_get (D := D) (ci := 3) (v := .int e1) (C := R_So) (T := F_So) (N := 9) hx hb hg f_So hown hK.1 hP 0 rfl rfl 7 (by decide) (hg _ q101) (fun _ h9 => h9) rfl d_Ma_work_8 ?_
      refine lv_if_ne (tgt := 57) hx hb d_Ma_work_11 rfl (fun he1 => ?_) (fun he1 => ?_)
      · have ew1 : nI k1 = nI (tm_run tm_ss F n lim (Rg, Ce, Ac, kp, he, dn, en, nx)).2.2.2.1 := congrArg nI (by first | (simp [hres, tm_run, he1]; done) | (simp [hres, tm_run, he1]; omega) | omega)
        have ew2 : h1 = (tm_run tm_ss F n lim (Rg, Ce, Ac, kp, he, dn, en, nx)).2.2.2.2.1 := by first | rfl | simp [hres, tm_run, he1]
        have ew3 : d1 = (tm_run tm_ss F n lim (Rg, Ce, Ac, kp, he, dn, en, nx)).2.2.2.2.2.1 := by first | rfl | simp [hres, tm_run, he1]
        have ew4 : e1 = (tm_run tm_ss F n lim (Rg, Ce, Ac, kp, he, dn, en, nx)).2.2.2.2.2.2.1 := by first | rfl | simp [hres, tm_run, he1]
        have ew5 : x1 = (tm_run tm_ss F n lim (Rg, Ce, Ac, kp, he, dn, en, nx)).2.2.2.2.2.2.2 := by first | rfl | simp [hres, tm_run, he1]
        have ew6 : R1 = (tm_run tm_ss F n lim (Rg, Ce, Ac, kp, he, dn, en, nx)).1 := by first | rfl | simp [hres, tm_run, he1]
        have ew7 : C1 = (tm_run tm_ss F n lim (Rg, Ce, Ac, kp, he, dn, en, nx)).2.1 := by first | rfl | simp [hres, tm_run, he1]
        have ew8 : A1 = (tm_run tm_ss F n lim (Rg, Ce, Ac, kp, he, dn, en, nx)).2.2.1 := by first | rfl | simp [hres, tm_run, he1]
        have hP : va_P D cls [(mo, .inr (3, [.ref li, .ref ra, .ref ca, .ref aa, .int (nI (tm_run tm_ss F n lim (Rg, Ce, Ac, kp, he, dn, en, nx)).2.2.2.1), .int ((tm_run tm_ss F n lim (Rg, Ce, Ac, kp, he, dn, en, nx)).2.2.2.2.1), .int ((tm_run tm_ss F n lim (Rg, Ce, Ac, kp, he, dn, en, nx)).2.2.2.2.2.1), .int ((tm_run tm_ss F n lim (Rg, Ce, Ac, kp, he, dn, en, nx)).2.2.2.2.2.2.1), .int ((tm_run tm_ss F n lim (Rg, Ce, Ac, kp, he, dn, en, nx)).2.2.2.2.2.2.2)])), (ra, .inl (cI, 8, .inl ((tm_run tm_ss F n lim (Rg, Ce, Ac, kp, he, dn, en, nx)).1))), (ca, .inl (cI, 32, .inl ((tm_run tm_ss F n lim (Rg, Ce, Ac, kp, he, dn, en, nx)).2.1))), (aa, .inl (cI, 120, .inl ((tm_run tm_ss F n lim (Rg, Ce, Ac, kp, he, dn, en, nx)).2.2.1))), (li, .inr (1, [.ref lf, .int (nI n)])), (lf, .inl (cI, 96, .inl F))] H := by rw [← ew1, ← ew2, ← ew3, ← ew4, ← ew5, ← ew6, ← ew7, ← ew8]; exact hP
        have hD : va_D A [(mo, .inr (3, [.ref li, .ref ra, .ref ca, .ref aa, .int (nI (tm_run tm_ss F n lim (Rg, Ce, Ac, kp, he, dn, en, nx)).2.2.2.1), .int ((tm_run tm_ss F n lim (Rg, Ce, Ac, kp, he, dn, en, nx)).2.2.2.2.1), .int ((tm_run tm_ss F n lim (Rg, Ce, Ac, kp, he, dn, en, nx)).2.2.2.2.2.1), .int ((tm_run tm_ss F n lim (Rg, Ce, Ac, kp, he, dn, en, nx)).2.2.2.2.2.2.1), .int ((tm_run tm_ss F n lim (Rg, Ce, Ac, kp, he, dn, en, nx)).2.2.2.2.2.2.2)])), (ra, .inl (cI, 8, .inl ((tm_run tm_ss F n lim (Rg, Ce, Ac, kp, he, dn, en, nx)).1))), (ca, .inl (cI, 32, .inl ((tm_run tm_ss F n lim (Rg, Ce, Ac, kp, he, dn, en, nx)).2.1))), (aa, .inl (cI, 120, .inl ((tm_run tm_ss F n lim (Rg, Ce, Ac, kp, he, dn, en, nx)).2.2.1))), (li, .inr (1, [.ref lf, .int (nI n)])), (lf, .inl (cI, 96, .inl F))] := by rw [← ew1, ← ew2, ← ew3, ← ew4, ← ew5, ← ew6, ← ew7, ← ew8]; exact hD
        exact W.vret hx hb hr (fun t9 ht9 hW9 => ⟨⟨(), rfl, trivial, by rw [ht9]; exact hP, hD⟩, hS.F ht9⟩) hS.2.2 d_Ma_work_57
      · refine lv_aload_n hx hb d_Ma_work_14 rfl (lv_at hl 2 rfl) ?_
        refine va_get (D := D) (ci := 3) (v := .ref li) (C := R_So) (T := F_So) (N := 9) hx hb hg f_So hown hK.1 hP 0 rfl rfl 0 (by decide) (hg _ q75) (fun _ h9 => h9) rfl d_Ma_work_15 ?_
        refine lv_aload_n hx hb d_Ma_work_18 rfl (lv_at hl 2 rfl) ?_
        refine va_get (D := D) (ci := 3) (v := .int h1) (C := R_So) (T := F_So) (N := 9) hx hb hg f_So hown hK.1 hP 0 rfl rfl 5 (by decide) (hg _ q97) (fun _ h9 => h9) rfl d_Ma_work_19 ?_
        refine xr_V (C := R_Li) (As := [.int h1]) (rest := []) ⟨hx, hb, hml, hown, hg⟩ (c_Li_has l D cI cZ cJ li lf 96 F n h1) m_Li_has q469 q193 ⟨rfl, rfl⟩ ⟨Nat.le_of_ble_eq_true rfl, Nat.le_of_ble_eq_true rfl⟩ hK hP [4, 5] rfl (va_recv (q0 := 4) hK.1 hP rfl rfl) rfl hl.1 rfl (Nat.le_of_ble_eq_true rfl) d_Ma_work_22 ⟨Nat.zero_le _, Nat.zero_le _⟩ ?_
        refine lv_if_eq (tgt := 46) hx hb d_Ma_work_25 rfl (fun hh => ?_) (fun hh => ?_)
        · refine lv_aload_n hx hb d_Ma_work_46 rfl (lv_at hl 2 rfl) ?_
          refine lv_iconst (v := 2) hx hb d_Ma_work_47 (by decide) ?_
          refine va_put (D := D) (ci := 3) (v := .int 2) (ty := .int) (C := R_So) (T := F_So) (N := 9) hx hb hg f_So t_So t_So_ok n_So hown hK.1 hP hD hS 0 rfl rfl 7 (by decide) (hg _ q101) (fun _ h9 => h9) rfl (by decide +kernel) rfl rfl (Nat.le_of_ble_eq_true rfl) d_Ma_work_48 (fun H locs hP hD hS => ?_)
          have hP : va_P D cls [(mo, .inr (3, [.ref li, .ref ra, .ref ca, .ref aa, .int (nI k1), .int h1, .int d1, .int 2, .int x1])), (ra, .inl (cI, 8, .inl R1)), (ca, .inl (cI, 32, .inl C1)), (aa, .inl (cI, 120, .inl A1)), (li, .inr (1, [.ref lf, .int (nI n)])), (lf, .inl (cI, 96, .inl F))] H := hP
          have hD : va_D A [(mo, .inr (3, [.ref li, .ref ra, .ref ca, .ref aa, .int (nI k1), .int h1, .int d1, .int 2, .int x1])), (ra, .inl (cI, 8, .inl R1)), (ca, .inl (cI, 32, .inl C1)), (aa, .inl (cI, 120, .inl A1)), (li, .inr (1, [.ref lf, .int (nI n)])), (lf, .inl (cI, 96, .inl F))] := hD
          refine lv_iinc (k := 0) (v := nI (j + 1)) hx hb d_Ma_work_51 hl rfl (xn_inc j 1 (by decide)) (by decide) rfl (fun ls hl => ?_)
          have hl : lv_has ls 3 [(2, .int (nI (j + 1))), (1, .int (nI lim)), (0, .ref mo)] := hl
          refine lv_goto (tgt := 2) hx hb d_Ma_work_54 rfl ?_
          exact ih (j + 1) R1 C1 A1 k1 h1 d1 2 x1 H locs ls (by omega) hk1 (by rw [hres, tm_run_end g (S := (R1, C1, A1, k1, h1, d1, 2, x1)) (show (2 : Int32) ≠ 0 by decide)]; simp [tm_run, he1, hh]) hl hP hD hS
        · obtain ⟨q, hq, ehq⟩ := tm_hs_1 (by omega) hh
          subst ehq
          have hcq : (nI q).toNatClampNeg = q := nI_clamp (by omega)
          obtain ⟨v, a, b, hv, hv15, ha, ha8, hbb, hb8⟩ := hiv q hq
          refine lv_aload_n hx hb d_Ma_work_28 rfl (lv_at hl 2 rfl) ?_
          refine lv_aload_n hx hb d_Ma_work_29 rfl (lv_at hl 2 rfl) ?_
          refine va_get (D := D) (ci := 3) (v := .ref li) (C := R_So) (T := F_So) (N := 9) hx hb hg f_So hown hK.1 hP 0 rfl rfl 0 (by decide) (hg _ q75) (fun _ h9 => h9) rfl d_Ma_work_30 ?_
          refine lv_aload_n hx hb d_Ma_work_33 rfl (lv_at hl 2 rfl) ?_
          refine va_get (D := D) (ci := 3) (v := .int (nI q)) (C := R_So) (T := F_So) (N := 9) hx hb hg f_So hown hK.1 hP 0 rfl rfl 5 (by decide) (hg _ q97) (fun _ h9 => h9) rfl d_Ma_work_34 ?_
          refine xr_V (C := R_Li) (As := [.int (nI q)]) (rest := [.ref mo]) ⟨hx, hb, hml, hown, hg⟩ (c_Li_operation l D cI cZ cJ li lf 96 F (nI n) q (by omega) (by omega)) m_Li_operation q470 q181 ⟨rfl, rfl⟩ ⟨Nat.le_of_ble_eq_true rfl, Nat.le_of_ble_eq_true rfl⟩ hK hP [4, 5] rfl (va_recv (q0 := 4) hK.1 hP rfl rfl) rfl hl.1 rfl (Nat.le_of_ble_eq_true rfl) d_Ma_work_37 ⟨Nat.zero_le _, Nat.zero_le _⟩ ?_
          have eq9 : (F (4 * q) : Int32) = nI v := hv
          refine W.eq (g2 := F0 m 40 ls [.int (nI v), .ref mo]) (by rw [eq9]) ?_
          refine xw_go (w2 := [(mo, .inr (3, [.ref li, .ref ra, .ref ca, .ref aa, .int (nI (tm_ss F q (R1, C1, A1, k1, nI q, d1, e1, x1)).2.2.2.1), .int ((tm_ss F q (R1, C1, A1, k1, nI q, d1, e1, x1)).2.2.2.2.1), .int ((tm_ss F q (R1, C1, A1, k1, nI q, d1, e1, x1)).2.2.2.2.2.1), .int ((tm_ss F q (R1, C1, A1, k1, nI q, d1, e1, x1)).2.2.2.2.2.2.1), .int ((tm_ss F q (R1, C1, A1, k1, nI q, d1, e1, x1)).2.2.2.2.2.2.2)])), (ra, .inl (cI, 8, .inl ((tm_ss F q (R1, C1, A1, k1, nI q, d1, e1, x1)).1))), (ca, .inl (cI, 32, .inl ((tm_ss F q (R1, C1, A1, k1, nI q, d1, e1, x1)).2.1))), (aa, .inl (cI, 120, .inl ((tm_ss F q (R1, C1, A1, k1, nI q, d1, e1, x1)).2.2.1))), (li, .inr (1, [.ref lf, .int (nI n)])), (lf, .inl (cI, 96, .inl F))]) (wr := []) (w1 := [(mo, .inr (3, [.ref li, .ref ra, .ref ca, .ref aa, .int (nI (tm_ss F q (R1, C1, A1, k1, nI q, d1, e1, x1)).2.2.2.1), .int ((tm_ss F q (R1, C1, A1, k1, nI q, d1, e1, x1)).2.2.2.2.1), .int ((tm_ss F q (R1, C1, A1, k1, nI q, d1, e1, x1)).2.2.2.2.2.1), .int ((tm_ss F q (R1, C1, A1, k1, nI q, d1, e1, x1)).2.2.2.2.2.2.1), .int ((tm_ss F q (R1, C1, A1, k1, nI q, d1, e1, x1)).2.2.2.2.2.2.2)])), (ra, .inl (cI, 8, .inl ((tm_ss F q (R1, C1, A1, k1, nI q, d1, e1, x1)).1))), (ca, .inl (cI, 32, .inl ((tm_ss F q (R1, C1, A1, k1, nI q, d1, e1, x1)).2.1))), (aa, .inl (cI, 120, .inl ((tm_ss F q (R1, C1, A1, k1, nI q, d1, e1, x1)).2.2.1))), (li, .inr (1, [.ref lf, .int (nI n)])), (lf, .inl (cI, 96, .inl F))]) (va_runU (As := [.int (nI v)]) (rest := []) (C := R_So) ⟨hx, hb, hml, hown, hg⟩ (c_So_step l D cI cZ cJ mo li ra ca aa lf R1 C1 A1 F n k1 d1 e1 x1 q v a b (by omega) (by omega) (hv) (ha) (by omega) (hbb) (by omega) (by omega) (by omega) H.size) (xg_O (x := ⟨"TwoMachines$Machine", "step", "(I)V"⟩) (owner := R_Ma) hg m_Ma_step q471 q758 rfl m_Ma_step sx_So_Ma_step ⟨by decide, by decide, by decide +kernel⟩ rfl rfl ⟨Nat.le_of_ble_eq_true rfl, Nat.le_of_ble_eq_true rfl⟩) ⟨xw_blind, (va_recv (q0 := 0) hK.1 hP rfl rfl), xw_pre hK hP hD [0, 1, 2, 3, 4, 5] (by decide) rfl⟩ rfl rfl hl.1 rfl (lv_room (Nat.le_of_ble_eq_true rfl)) d_Ma_work_40 ⟨Nat.zero_le _, Nat.zero_le _⟩) hP hD hS hA [0, 1, 2, 3, 4, 5] [] [0, 1, 2, 3, 4, 5] rfl rfl (by decide) (by decide) rfl (by decide) (fun H locs hP hD hS => ?_)
          refine lv_goto (tgt := 51) hx hb d_Ma_work_43 rfl ?_
          refine lv_iinc (k := 0) (v := nI (j + 1)) hx hb d_Ma_work_51 hl rfl (xn_inc j 1 (by decide)) (by decide) rfl (fun ls hl => ?_)
          have hl : lv_has ls 3 [(2, .int (nI (j + 1))), (1, .int (nI lim)), (0, .ref mo)] := hl
          refine lv_goto (tgt := 2) hx hb d_Ma_work_54 rfl ?_
          exact ih (j + 1) (tm_ss F q (R1, C1, A1, k1, nI q, d1, e1, x1)).1 (tm_ss F q (R1, C1, A1, k1, nI q, d1, e1, x1)).2.1 (tm_ss F q (R1, C1, A1, k1, nI q, d1, e1, x1)).2.2.1 (tm_ss F q (R1, C1, A1, k1, nI q, d1, e1, x1)).2.2.2.1 (tm_ss F q (R1, C1, A1, k1, nI q, d1, e1, x1)).2.2.2.2.1 (tm_ss F q (R1, C1, A1, k1, nI q, d1, e1, x1)).2.2.2.2.2.1 (tm_ss F q (R1, C1, A1, k1, nI q, d1, e1, x1)).2.2.2.2.2.2.1 (tm_ss F q (R1, C1, A1, k1, nI q, d1, e1, x1)).2.2.2.2.2.2.2 H locs ls (by omega) (tm_ss_k (S := (R1, C1, A1, k1, nI q, d1, e1, x1)) hk1) (by rw [hres]; simp only [tm_run, he1, hh, hcq, ne_eq, not_true_eq_false, if_false]) hl hP hD hS
  exact loop lim 0 Rg Ce Ac kp he dn en nx s.heap [] ls (by omega) hkp rfl (lv_sub hl [0, 2, 1] rfl) hP hD hS

set_option maxHeartbeats 4000000 in
set_option maxRecDepth 100000 in
theorem c_Ta_work (l : Launch) (D : va_G) (cI cZ cJ : ClassId) (mo li ra ca aa lf tr : Nat) (Rg Ce Ac F : Nat → Int32) (n kp : Nat) (dn en nx : Int32) (he : Int32) (lim : Nat) (hn : n ≤ 217) (hiv : tm_iv F n) (hkp : kp ≤ 40) (hlim : lim ≤ 2000) : xw_Met l y_Ma_work b_Ma_work 3 none { frames := 5, cells := 0, slots := 0, locals := 110 } [.ref mo, .int (nI lim)] D cls (tyL cI cZ cJ) [(mo, .inr (4, [.ref li, .ref ra, .ref ca, .ref aa, .int (nI kp), .int he, .int dn, .int en, .ref tr])), (ra, .inl (cI, 8, .inl Rg)), (ca, .inl (cI, 64, .inl Ce)), (aa, .inl (cI, 120, .inl Ac)), (li, .inr (1, [.ref lf, .int (nI n)])), (lf, .inl (cI, 868, .inl F))] [(mo, .inr (4, [.ref li, .ref ra, .ref ca, .ref aa, .int (nI (tm_run tm_ts F n lim (Rg, Ce, Ac, kp, he, dn, en, nx)).2.2.2.1), .int ((tm_run tm_ts F n lim (Rg, Ce, Ac, kp, he, dn, en, nx)).2.2.2.2.1), .int ((tm_run tm_ts F n lim (Rg, Ce, Ac, kp, he, dn, en, nx)).2.2.2.2.2.1), .int ((tm_run tm_ts F n lim (Rg, Ce, Ac, kp, he, dn, en, nx)).2.2.2.2.2.2.1), .ref tr])), (ra, .inl (cI, 8, .inl ((tm_run tm_ts F n lim (Rg, Ce, Ac, kp, he, dn, en, nx)).1))), (ca, .inl (cI, 64, .inl ((tm_run tm_ts F n lim (Rg, Ce, Ac, kp, he, dn, en, nx)).2.1))), (aa, .inl (cI, 120, .inl ((tm_run tm_ts F n lim (Rg, Ce, Ac, kp, he, dn, en, nx)).2.2.1))), (li, .inr (1, [.ref lf, .int (nI n)])), (lf, .inl (cI, 868, .inl F))] := by
  intro sz
  refine Met.ofW (cc := b_Ma_work) (maxL := 3) (ret := none) (by decide) rfl ?_
  intro p e s m args below meth c s₁ B0 hml hv
  obtain ⟨rfl, hsz, hP, hK, hD0⟩ := hv
  have hx := B0.exec
  have hb := B0.bytes
  have hr := B0.returns
  have hlocks := B0.notSynchronized
  have hg : ∀ w ∈ gG, w.before _ s = true := fun w h => atoms_spec B0.pre w (List.mem_cons_of_mem _ h)
  have hown : s.vm.findClass R_Ma = some m.cls := findClass_of_methodNamed B0.named
  subst hsz
  have hD := hD0.self (sz := s.heap.size)
  generalize hAe : va_A [(mo, .inr (4, [.ref li, .ref ra, .ref ca, .ref aa, .int (nI kp), .int he, .int dn, .int en, .ref tr])), (ra, .inl (cI, 8, .inl Rg)), (ca, .inl (cI, 64, .inl Ce)), (aa, .inl (cI, 120, .inl Ac)), (li, .inr (1, [.ref lf, .int (nI n)])), (lf, .inl (cI, 868, .inl F))] s.heap.size = A at hD ⊢
  have hA : ∀ q : Nat, s.heap.size ≤ q → A q := fun q h => by rw [← hAe]; exact Or.inr h
  have hS : va_S A s.heap s.heap [] := va_S.rf
  have hP : va_P D cls [(mo, .inr (4, [.ref li, .ref ra, .ref ca, .ref aa, .int (nI kp), .int he, .int dn, .int en, .ref tr])), (ra, .inl (cI, 8, .inl Rg)), (ca, .inl (cI, 64, .inl Ce)), (aa, .inl (cI, 120, .inl Ac)), (li, .inr (1, [.ref lf, .int (nI n)])), (lf, .inl (cI, 868, .inl F))] s.heap := hP
  have hl := lv_entry ([.ref mo, .int (nI lim)]) (n := 3) (Nat.le_of_ble_eq_true rfl)
  rw [lg_entry_eq]
  generalize (lg_sl ([.ref mo, .int (nI lim)]) ++ List.replicate (3 - (lg_sl ([.ref mo, .int (nI lim)])).length) Slot.unset).toArray = ls at hl ⊢
  have hl : lv_has ls 3 [(0, .ref mo), (1, .int (nI lim))] := hl
  refine lv_iconst (v := 0) hx hb d_Ma_work_0 (by decide) ?_
  refine lv_istore_n hx hb d_Ma_work_1 rfl hl (by decide) rfl (fun ls hl => ?_)
  have hl : lv_has ls 3 [(2, .int 0), (0, .ref mo), (1, .int (nI lim))] := hl
  have loop : ∀ (g j : Nat) (R1 C1 A1 : tF) (k1 : Nat) (h1 d1 e1 x1 : Int32) (H : Heap) (locs : List Loc) (ls : Array Slot), j + g = lim → k1 ≤ 40 → tm_run tm_ts F n lim (Rg, Ce, Ac, kp, he, dn, en, nx) = tm_run tm_ts F n g (R1, C1, A1, k1, h1, d1, e1, x1) → lv_has ls 3 [(2, .int (nI j)), (1, .int (nI lim)), (0, .ref mo)] → va_P D cls [(mo, .inr (4, [.ref li, .ref ra, .ref ca, .ref aa, .int (nI k1), .int h1, .int d1, .int e1, .ref tr])), (ra, .inl (cI, 8, .inl R1)), (ca, .inl (cI, 64, .inl C1)), (aa, .inl (cI, 120, .inl A1)), (li, .inr (1, [.ref lf, .int (nI n)])), (lf, .inl (cI, 868, .inl F))] H → va_D A [(mo, .inr (4, [.ref li, .ref ra, .ref ca, .ref aa, .int (nI k1), .int h1, .int d1, .int e1, .ref tr])), (ra, .inl (cI, 8, .inl R1)), (ca, .inl (cI, 64, .inl C1)), (aa, .inl (cI, 120, .inl A1)), (li, .inr (1, [.ref lf, .int (nI n)])), (lf, .inl (cI, 868, .inl F))] → va_S A s.heap H locs → W p l e (headSpec (Cond.code y_Ma_work b_Ma_work 3 none :: gG) { frames := 5, cells := 0, slots := 0, locals := 110 }).room s m ([.ref mo, .int (nI lim)] : List Value).toArray below meth c H locs 0 0 (MQ below (va_Qv (fun _ : Unit => True) (fun _ t9 => xw_B D cls [(mo, .inr (4, [.ref li, .ref ra, .ref ca, .ref aa, .int (nI (tm_run tm_ts F n lim (Rg, Ce, Ac, kp, he, dn, en, nx)).2.2.2.1), .int ((tm_run tm_ts F n lim (Rg, Ce, Ac, kp, he, dn, en, nx)).2.2.2.2.1), .int ((tm_run tm_ts F n lim (Rg, Ce, Ac, kp, he, dn, en, nx)).2.2.2.2.2.1), .int ((tm_run tm_ts F n lim (Rg, Ce, Ac, kp, he, dn, en, nx)).2.2.2.2.2.2.1), .ref tr])), (ra, .inl (cI, 8, .inl ((tm_run tm_ts F n lim (Rg, Ce, Ac, kp, he, dn, en, nx)).1))), (ca, .inl (cI, 64, .inl ((tm_run tm_ts F n lim (Rg, Ce, Ac, kp, he, dn, en, nx)).2.1))), (aa, .inl (cI, 120, .inl ((tm_run tm_ts F n lim (Rg, Ce, Ac, kp, he, dn, en, nx)).2.2.1))), (li, .inr (1, [.ref lf, .int (nI n)])), (lf, .inl (cI, 868, .inl F))] A t9) A) ([.ref mo, .int (nI lim)] : List Value).toArray s 0 0 A) (F0 m 2 ls []) := by
    intro g
    induction g with
    | zero =>
      intro j R1 C1 A1 k1 h1 d1 e1 x1 H locs ls hj hk1 hres hl hP hD hS
      refine lv_iload_n hx hb d_Ma_work_2 rfl (lv_at hl 0 rfl) ?_
      refine lv_iload_n hx hb d_Ma_work_3 rfl (lv_at hl 1 rfl) ?_
      refine lv_icmp_ge (tgt := 57) hx hb d_Ma_work_4 rfl (fun _ => ?_) (fun hz9 => absurd (nI_le (by omega) (by omega)) hz9)
      have ew1 : nI k1 = nI (tm_run tm_ts F n lim (Rg, Ce, Ac, kp, he, dn, en, nx)).2.2.2.1 := congrArg nI (by first | (simp [hres, tm_run]; done) | (simp [hres, tm_run]; omega) | omega)
      have ew2 : h1 = (tm_run tm_ts F n lim (Rg, Ce, Ac, kp, he, dn, en, nx)).2.2.2.2.1 := by first | rfl | simp [hres, tm_run]
      have ew3 : d1 = (tm_run tm_ts F n lim (Rg, Ce, Ac, kp, he, dn, en, nx)).2.2.2.2.2.1 := by first | rfl | simp [hres, tm_run]
      have ew4 : e1 = (tm_run tm_ts F n lim (Rg, Ce, Ac, kp, he, dn, en, nx)).2.2.2.2.2.2.1 := by first | rfl | simp [hres, tm_run]
      have ew5 : R1 = (tm_run tm_ts F n lim (Rg, Ce, Ac, kp, he, dn, en, nx)).1 := by first | rfl | simp [hres, tm_run]
      have ew6 : C1 = (tm_run tm_ts F n lim (Rg, Ce, Ac, kp, he, dn, en, nx)).2.1 := by first | rfl | simp [hres, tm_run]
      have ew7 : A1 = (tm_run tm_ts F n lim (Rg, Ce, Ac, kp, he, dn, en, nx)).2.2.1 := by first | rfl | simp [hres, tm_run]
      have hP : va_P D cls [(mo, .inr (4, [.ref li, .ref ra, .ref ca, .ref aa, .int (nI (tm_run tm_ts F n lim (Rg, Ce, Ac, kp, he, dn, en, nx)).2.2.2.1), .int ((tm_run tm_ts F n lim (Rg, Ce, Ac, kp, he, dn, en, nx)).2.2.2.2.1), .int ((tm_run tm_ts F n lim (Rg, Ce, Ac, kp, he, dn, en, nx)).2.2.2.2.2.1), .int ((tm_run tm_ts F n lim (Rg, Ce, Ac, kp, he, dn, en, nx)).2.2.2.2.2.2.1), .ref tr])), (ra, .inl (cI, 8, .inl ((tm_run tm_ts F n lim (Rg, Ce, Ac, kp, he, dn, en, nx)).1))), (ca, .inl (cI, 64, .inl ((tm_run tm_ts F n lim (Rg, Ce, Ac, kp, he, dn, en, nx)).2.1))), (aa, .inl (cI, 120, .inl ((tm_run tm_ts F n lim (Rg, Ce, Ac, kp, he, dn, en, nx)).2.2.1))), (li, .inr (1, [.ref lf, .int (nI n)])), (lf, .inl (cI, 868, .inl F))] H := by rw [← ew1, ← ew2, ← ew3, ← ew4, ← ew5, ← ew6, ← ew7]; exact hP
      have hD : va_D A [(mo, .inr (4, [.ref li, .ref ra, .ref ca, .ref aa, .int (nI (tm_run tm_ts F n lim (Rg, Ce, Ac, kp, he, dn, en, nx)).2.2.2.1), .int ((tm_run tm_ts F n lim (Rg, Ce, Ac, kp, he, dn, en, nx)).2.2.2.2.1), .int ((tm_run tm_ts F n lim (Rg, Ce, Ac, kp, he, dn, en, nx)).2.2.2.2.2.1), .int ((tm_run tm_ts F n lim (Rg, Ce, Ac, kp, he, dn, en, nx)).2.2.2.2.2.2.1), .ref tr])), (ra, .inl (cI, 8, .inl ((tm_run tm_ts F n lim (Rg, Ce, Ac, kp, he, dn, en, nx)).1))), (ca, .inl (cI, 64, .inl ((tm_run tm_ts F n lim (Rg, Ce, Ac, kp, he, dn, en, nx)).2.1))), (aa, .inl (cI, 120, .inl ((tm_run tm_ts F n lim (Rg, Ce, Ac, kp, he, dn, en, nx)).2.2.1))), (li, .inr (1, [.ref lf, .int (nI n)])), (lf, .inl (cI, 868, .inl F))] := by rw [← ew1, ← ew2, ← ew3, ← ew4, ← ew5, ← ew6, ← ew7]; exact hD
      exact W.vret hx hb hr (fun t9 ht9 hW9 => ⟨⟨(), rfl, trivial, by rw [ht9]; exact hP, hD⟩, hS.F ht9⟩) hS.2.2 d_Ma_work_57
    | succ g ih =>
      intro j R1 C1 A1 k1 h1 d1 e1 x1 H locs ls hj hk1 hres hl hP hD hS
      refine lv_iload_n hx hb d_Ma_work_2 rfl (lv_at hl 0 rfl) ?_
      refine lv_iload_n hx hb d_Ma_work_3 rfl (lv_at hl 1 rfl) ?_
      refine lv_icmp_ge (tgt := 57) hx hb d_Ma_work_4 rfl (fun hz9 => absurd hz9 (nI_ge (by omega) (by omega))) (fun _ => ?_)
      refine lv_aload_n hx hb d_Ma_work_7 rfl (lv_at hl 2 rfl) ?_
      refine va_get (D := D) (ci := 4) (v := .int e1) (C := R_Ta) (T := F_Ta) (N := 9) hx hb hg f_Ta hown hK.1 hP 0 rfl rfl 7 (by decide) (hg _ q101) (fun _ h9 => h9) rfl d_Ma_work_8 ?_
      refine lv_if_ne (tgt := 57) hx hb d_Ma_work_11 rfl (fun he1 => ?_) (fun he1 => ?_)
      · have ew1 : nI k1 = nI (tm_run tm_ts F n lim (Rg, Ce, Ac, kp, he, dn, en, nx)).2.2.2.1 := congrArg nI (by first | (simp [hres, tm_run, he1]; done) | (simp [hres, tm_run, he1]; omega) | omega)
        have ew2 : h1 = (tm_run tm_ts F n lim (Rg, Ce, Ac, kp, he, dn, en, nx)).2.2.2.2.1 := by first | rfl | simp [hres, tm_run, he1]
        have ew3 : d1 = (tm_run tm_ts F n lim (Rg, Ce, Ac, kp, he, dn, en, nx)).2.2.2.2.2.1 := by first | rfl | simp [hres, tm_run, he1]
        have ew4 : e1 = (tm_run tm_ts F n lim (Rg, Ce, Ac, kp, he, dn, en, nx)).2.2.2.2.2.2.1 := by first | rfl | simp [hres, tm_run, he1]
        have ew5 : R1 = (tm_run tm_ts F n lim (Rg, Ce, Ac, kp, he, dn, en, nx)).1 := by first | rfl | simp [hres, tm_run, he1]
        have ew6 : C1 = (tm_run tm_ts F n lim (Rg, Ce, Ac, kp, he, dn, en, nx)).2.1 := by first | rfl | simp [hres, tm_run, he1]
        have ew7 : A1 = (tm_run tm_ts F n lim (Rg, Ce, Ac, kp, he, dn, en, nx)).2.2.1 := by first | rfl | simp [hres, tm_run, he1]
        have hP : va_P D cls [(mo, .inr (4, [.ref li, .ref ra, .ref ca, .ref aa, .int (nI (tm_run tm_ts F n lim (Rg, Ce, Ac, kp, he, dn, en, nx)).2.2.2.1), .int ((tm_run tm_ts F n lim (Rg, Ce, Ac, kp, he, dn, en, nx)).2.2.2.2.1), .int ((tm_run tm_ts F n lim (Rg, Ce, Ac, kp, he, dn, en, nx)).2.2.2.2.2.1), .int ((tm_run tm_ts F n lim (Rg, Ce, Ac, kp, he, dn, en, nx)).2.2.2.2.2.2.1), .ref tr])), (ra, .inl (cI, 8, .inl ((tm_run tm_ts F n lim (Rg, Ce, Ac, kp, he, dn, en, nx)).1))), (ca, .inl (cI, 64, .inl ((tm_run tm_ts F n lim (Rg, Ce, Ac, kp, he, dn, en, nx)).2.1))), (aa, .inl (cI, 120, .inl ((tm_run tm_ts F n lim (Rg, Ce, Ac, kp, he, dn, en, nx)).2.2.1))), (li, .inr (1, [.ref lf, .int (nI n)])), (lf, .inl (cI, 868, .inl F))] H := by rw [← ew1, ← ew2, ← ew3, ← ew4, ← ew5, ← ew6, ← ew7]; exact hP
        have hD : va_D A [(mo, .inr (4, [.ref li, .ref ra, .ref ca, .ref aa, .int (nI (tm_run tm_ts F n lim (Rg, Ce, Ac, kp, he, dn, en, nx)).2.2.2.1), .int ((tm_run tm_ts F n lim (Rg, Ce, Ac, kp, he, dn, en, nx)).2.2.2.2.1), .int ((tm_run tm_ts F n lim (Rg, Ce, Ac, kp, he, dn, en, nx)).2.2.2.2.2.1), .int ((tm_run tm_ts F n lim (Rg, Ce, Ac, kp, he, dn, en, nx)).2.2.2.2.2.2.1), .ref tr])), (ra, .inl (cI, 8, .inl ((tm_run tm_ts F n lim (Rg, Ce, Ac, kp, he, dn, en, nx)).1))), (ca, .inl (cI, 64, .inl ((tm_run tm_ts F n lim (Rg, Ce, Ac, kp, he, dn, en, nx)).2.1))), (aa, .inl (cI, 120, .inl ((tm_run tm_ts F n lim (Rg, Ce, Ac, kp, he, dn, en, nx)).2.2.1))), (li, .inr (1, [.ref lf, .int (nI n)])), (lf, .inl (cI, 868, .inl F))] := by rw [← ew1, ← ew2, ← ew3, ← ew4, ← ew5, ← ew6, ← ew7]; exact hD
        exact W.vret hx hb hr (fun t9 ht9 hW9 => ⟨⟨(), rfl, trivial, by rw [ht9]; exact hP, hD⟩, hS.F ht9⟩) hS.2.2 d_Ma_work_57
      · refine lv_aload_n hx hb d_Ma_work_14 rfl (lv_at hl 2 rfl) ?_
        refine va_get (D := D) (ci := 4) (v := .ref li) (C := R_Ta) (T := F_Ta) (N := 9) hx hb hg f_Ta hown hK.1 hP 0 rfl rfl 0 (by decide) (hg _ q75) (fun _ h9 => h9) rfl d_Ma_work_15 ?_
        refine lv_aload_n hx hb d_Ma_work_18 rfl (lv_at hl 2 rfl) ?_
        refine va_get (D := D) (ci := 4) (v := .int h1) (C := R_Ta) (T := F_Ta) (N := 9) hx hb hg f_Ta hown hK.1 hP 0 rfl rfl 5 (by decide) (hg _ q97) (fun _ h9 => h9) rfl d_Ma_work_19 ?_
        refine xr_V (C := R_Li) (As := [.int h1]) (rest := []) ⟨hx, hb, hml, hown, hg⟩ (c_Li_has l D cI cZ cJ li lf 868 F n h1) m_Li_has q469 q193 ⟨rfl, rfl⟩ ⟨Nat.le_of_ble_eq_true rfl, Nat.le_of_ble_eq_true rfl⟩ hK hP [4, 5] rfl (va_recv (q0 := 4) hK.1 hP rfl rfl) rfl hl.1 rfl (Nat.le_of_ble_eq_true rfl) d_Ma_work_22 ⟨Nat.zero_le _, Nat.zero_le _⟩ ?_
        refine lv_if_eq (tgt := 46) hx hb d_Ma_work_25 rfl (fun hh => ?_) (fun hh => ?_)
        · refine lv_aload_n hx hb d_Ma_work_46 rfl (lv_at hl 2 rfl) ?_
          refine lv_iconst (v := 2) hx hb d_Ma_work_47 (by decide) ?_
          refine va_put (D := D) (ci := 4) (v := .int 2) (ty := .int) (C := R_Ta) (T := F_Ta) (N := 9) hx hb hg f_Ta t_Ta t_Ta_ok n_Ta hown hK.1 hP hD hS 0 rfl rfl 7 (by decide) (hg _ q101) (fun _ h9 => h9) rfl (by decide +kernel) rfl rfl (Nat.le_of_ble_eq_true rfl) d_Ma_work_48 (fun H locs hP hD hS => ?_)
          have hP : va_P D cls [(mo, .inr (4, [.ref li, .ref ra, .ref ca, .ref aa, .int (nI k1), .int h1, .int d1, .int 2, .ref tr])), (ra, .inl (cI, 8, .inl R1)), (ca, .inl (cI, 64, .inl C1)), (aa, .inl (cI, 120, .inl A1)), (li, .inr (1, [.ref lf, .int (nI n)])), (lf, .inl (cI, 868, .inl F))] H := hP
          have hD : va_D A [(mo, .inr (4, [.ref li, .ref ra, .ref ca, .ref aa, .int (nI k1), .int h1, .int d1, .int 2, .ref tr])), (ra, .inl (cI, 8, .inl R1)), (ca, .inl (cI, 64, .inl C1)), (aa, .inl (cI, 120, .inl A1)), (li, .inr (1, [.ref lf, .int (nI n)])), (lf, .inl (cI, 868, .inl F))] := hD
          refine lv_iinc (k := 0) (v := nI (j + 1)) hx hb d_Ma_work_51 hl rfl (xn_inc j 1 (by decide)) (by decide) rfl (fun ls hl => ?_)
          have hl : lv_has ls 3 [(2, .int (nI (j + 1))), (1, .int (nI lim)), (0, .ref mo)] := hl
          refine lv_goto (tgt := 2) hx hb d_Ma_work_54 rfl ?_
          exact ih (j + 1) R1 C1 A1 k1 h1 d1 2 x1 H locs ls (by omega) hk1 (by rw [hres, tm_run_end g (S := (R1, C1, A1, k1, h1, d1, 2, x1)) (show (2 : Int32) ≠ 0 by decide)]; simp [tm_run, he1, hh]) hl hP hD hS
        · obtain ⟨q, hq, ehq⟩ := tm_hs_1 (by omega) hh
          subst ehq
          have hcq : (nI q).toNatClampNeg = q := nI_clamp (by omega)
          obtain ⟨v, a, b, hv, hv15, ha, ha8, hbb, hb8⟩ := hiv q hq
          refine lv_aload_n hx hb d_Ma_work_28 rfl (lv_at hl 2 rfl) ?_
          refine lv_aload_n hx hb d_Ma_work_29 rfl (lv_at hl 2 rfl) ?_
          refine va_get (D := D) (ci := 4) (v := .ref li) (C := R_Ta) (T := F_Ta) (N := 9) hx hb hg f_Ta hown hK.1 hP 0 rfl rfl 0 (by decide) (hg _ q75) (fun _ h9 => h9) rfl d_Ma_work_30 ?_
          refine lv_aload_n hx hb d_Ma_work_33 rfl (lv_at hl 2 rfl) ?_
          refine va_get (D := D) (ci := 4) (v := .int (nI q)) (C := R_Ta) (T := F_Ta) (N := 9) hx hb hg f_Ta hown hK.1 hP 0 rfl rfl 5 (by decide) (hg _ q97) (fun _ h9 => h9) rfl d_Ma_work_34 ?_
          refine xr_V (C := R_Li) (As := [.int (nI q)]) (rest := [.ref mo]) ⟨hx, hb, hml, hown, hg⟩ (c_Li_operation l D cI cZ cJ li lf 868 F (nI n) q (by omega) (by omega)) m_Li_operation q470 q181 ⟨rfl, rfl⟩ ⟨Nat.le_of_ble_eq_true rfl, Nat.le_of_ble_eq_true rfl⟩ hK hP [4, 5] rfl (va_recv (q0 := 4) hK.1 hP rfl rfl) rfl hl.1 rfl (Nat.le_of_ble_eq_true rfl) d_Ma_work_37 ⟨Nat.zero_le _, Nat.zero_le _⟩ ?_
          have eq9 : (F (4 * q) : Int32) = nI v := hv
          refine W.eq (g2 := F0 m 40 ls [.int (nI v), .ref mo]) (by rw [eq9]) ?_
          refine xw_go (w2 := [(mo, .inr (4, [.ref li, .ref ra, .ref ca, .ref aa, .int (nI (tm_ts F q (R1, C1, A1, k1, nI q, d1, e1, x1)).2.2.2.1), .int ((tm_ts F q (R1, C1, A1, k1, nI q, d1, e1, x1)).2.2.2.2.1), .int ((tm_ts F q (R1, C1, A1, k1, nI q, d1, e1, x1)).2.2.2.2.2.1), .int ((tm_ts F q (R1, C1, A1, k1, nI q, d1, e1, x1)).2.2.2.2.2.2.1), .ref tr])), (ra, .inl (cI, 8, .inl ((tm_ts F q (R1, C1, A1, k1, nI q, d1, e1, x1)).1))), (ca, .inl (cI, 64, .inl ((tm_ts F q (R1, C1, A1, k1, nI q, d1, e1, x1)).2.1))), (aa, .inl (cI, 120, .inl ((tm_ts F q (R1, C1, A1, k1, nI q, d1, e1, x1)).2.2.1))), (li, .inr (1, [.ref lf, .int (nI n)])), (lf, .inl (cI, 868, .inl F))]) (wr := []) (w1 := [(mo, .inr (4, [.ref li, .ref ra, .ref ca, .ref aa, .int (nI (tm_ts F q (R1, C1, A1, k1, nI q, d1, e1, x1)).2.2.2.1), .int ((tm_ts F q (R1, C1, A1, k1, nI q, d1, e1, x1)).2.2.2.2.1), .int ((tm_ts F q (R1, C1, A1, k1, nI q, d1, e1, x1)).2.2.2.2.2.1), .int ((tm_ts F q (R1, C1, A1, k1, nI q, d1, e1, x1)).2.2.2.2.2.2.1), .ref tr])), (ra, .inl (cI, 8, .inl ((tm_ts F q (R1, C1, A1, k1, nI q, d1, e1, x1)).1))), (ca, .inl (cI, 64, .inl ((tm_ts F q (R1, C1, A1, k1, nI q, d1, e1, x1)).2.1))), (aa, .inl (cI, 120, .inl ((tm_ts F q (R1, C1, A1, k1, nI q, d1, e1, x1)).2.2.1))), (li, .inr (1, [.ref lf, .int (nI n)])), (lf, .inl (cI, 868, .inl F))]) (va_runU (As := [.int (nI v)]) (rest := []) (C := R_Ta) ⟨hx, hb, hml, hown, hg⟩ (c_Ta_step l D cI cZ cJ mo li ra ca aa lf tr R1 C1 A1 F n k1 d1 e1 x1 q v a b (by omega) (by omega) (hv) (ha) (by omega) (hbb) (by omega) (by omega) (by omega) H.size) (xg_O (x := ⟨"TwoMachines$Machine", "step", "(I)V"⟩) (owner := R_Ma) hg m_Ma_step q471 q758 rfl m_Ma_step sx_Ta_Ma_step ⟨by decide, by decide, by decide +kernel⟩ rfl rfl ⟨Nat.le_of_ble_eq_true rfl, Nat.le_of_ble_eq_true rfl⟩) ⟨xw_blind, (va_recv (q0 := 0) hK.1 hP rfl rfl), xw_pre hK hP hD [0, 1, 2, 3, 4, 5] (by decide) rfl⟩ rfl rfl hl.1 rfl (lv_room (Nat.le_of_ble_eq_true rfl)) d_Ma_work_40 ⟨Nat.zero_le _, Nat.zero_le _⟩) hP hD hS hA [0, 1, 2, 3, 4, 5] [] [0, 1, 2, 3, 4, 5] rfl rfl (by decide) (by decide) rfl (by decide) (fun H locs hP hD hS => ?_)
          refine lv_goto (tgt := 51) hx hb d_Ma_work_43 rfl ?_
          refine lv_iinc (k := 0) (v := nI (j + 1)) hx hb d_Ma_work_51 hl rfl (xn_inc j 1 (by decide)) (by decide) rfl (fun ls hl => ?_)
          have hl : lv_has ls 3 [(2, .int (nI (j + 1))), (1, .int (nI lim)), (0, .ref mo)] := hl
          refine lv_goto (tgt := 2) hx hb d_Ma_work_54 rfl ?_
          exact ih (j + 1) (tm_ts F q (R1, C1, A1, k1, nI q, d1, e1, x1)).1 (tm_ts F q (R1, C1, A1, k1, nI q, d1, e1, x1)).2.1 (tm_ts F q (R1, C1, A1, k1, nI q, d1, e1, x1)).2.2.1 (tm_ts F q (R1, C1, A1, k1, nI q, d1, e1, x1)).2.2.2.1 (tm_ts F q (R1, C1, A1, k1, nI q, d1, e1, x1)).2.2.2.2.1 (tm_ts F q (R1, C1, A1, k1, nI q, d1, e1, x1)).2.2.2.2.2.1 (tm_ts F q (R1, C1, A1, k1, nI q, d1, e1, x1)).2.2.2.2.2.2.1 (tm_ts F q (R1, C1, A1, k1, nI q, d1, e1, x1)).2.2.2.2.2.2.2 H locs ls (by omega) (tm_ts_k (S := (R1, C1, A1, k1, nI q, d1, e1, x1)) hk1) (by rw [hres]; simp only [tm_run, he1, hh, hcq, ne_eq, not_true_eq_false, if_false]) hl hP hD hS
  exact loop lim 0 Rg Ce Ac kp he dn en nx s.heap [] ls (by omega) hkp rfl (lv_sub hl [0, 2, 1] rfl) hP hD hS
