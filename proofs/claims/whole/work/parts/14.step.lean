/-! MACHINES: step and work (printed by wip/whole/gen/c14.py) -/
theorem tm_kk_le {k : Nat} (h : k ≤ 40) : tm_kk k ≤ 40 := by unfold tm_kk; split <;> omega
theorem tm_dk_le {k : Nat} (a : Int32) (h : k ≤ 40) : tm_dk k a ≤ 40 := by unfold tm_dk; split; exact h; exact tm_kk_le h
theorem tm_ss_k {F : tF} {q : Nat} {S : tM} (h : S.2.2.2.1 ≤ 40) : (tm_ss F q S).2.2.2.1 ≤ 40 := by
  obtain ⟨R, C, A, k, he, d, e, x⟩ := S
  unfold tm_ss
  dsimp only at h ⊢
  repeat' split
  all_goals first | exact h | exact tm_dk_le _ h
theorem tm_ts_k {F : tF} {q : Nat} {S : tM} (h : S.2.2.2.1 ≤ 40) : (tm_ts F q S).2.2.2.1 ≤ 40 := by
  obtain ⟨R, C, A, k, he, d, e, x⟩ := S
  unfold tm_ts
  dsimp only at h ⊢
  repeat' split
  all_goals first | exact h | exact tm_dk_le _ h
theorem tm_run_end {stp : tF → Nat → tM → tM} {F : tF} {N : Nat} (g : Nat) {S : tM} (h : S.2.2.2.2.2.2.1 ≠ 0) : tm_run stp F N g S = S := by
  cases g with
  | zero => rfl
  | succ g => unfold tm_run; rw [if_pos h]
/-- the instructions of a listing name registers that there are -/
def tm_iv (F : tF) (n : Nat) : Prop := ∀ q, q < n → ∃ v a b : Nat, F (4 * q) = nI v ∧ v ≤ 15 ∧ F (4 * q + 1) = nI a ∧ a < 8 ∧ F (4 * q + 2) = nI b ∧ b < 8

set_option maxHeartbeats 4000000 in
set_option maxRecDepth 100000 in
theorem c_So_step (l : Launch) (D : va_G) (cI cZ cJ : ClassId) (mo li ra ca aa lf : Nat) (Rg Ce Ac F : Nat → Int32) (n kp : Nat) (dn en nx : Int32) (q v a b : Nat) (hn : n ≤ 24) (hq : q < n) (hv : F (4 * q) = nI v) (ha : F (4 * q + 1) = nI a) (ha8 : a < 8) (hbb : F (4 * q + 2) = nI b) (hb8 : b < 8) (hv15 : v ≤ 15) (hkp : kp ≤ 40) : xw_Met l y_Ma_step b_Ma_step 3 none { frames := 4, cells := 0, slots := 0, locals := 89 } [.ref mo, .int (nI v)] D cls (tyL cI cZ cJ) [(mo, .inr (3, [.ref li, .ref ra, .ref ca, .ref aa, .int (nI kp), .int (nI q), .int dn, .int en, .int nx])), (ra, .inl (cI, 8, .inl Rg)), (ca, .inl (cI, 32, .inl Ce)), (aa, .inl (cI, 120, .inl Ac)), (li, .inr (1, [.ref lf, .int (nI n)])), (lf, .inl (cI, 96, .inl F))] [(mo, .inr (3, [.ref li, .ref ra, .ref ca, .ref aa, .int (nI (tm_ss F q (Rg, Ce, Ac, kp, nI q, dn, en, nx)).2.2.2.1), .int ((tm_ss F q (Rg, Ce, Ac, kp, nI q, dn, en, nx)).2.2.2.2.1), .int ((tm_ss F q (Rg, Ce, Ac, kp, nI q, dn, en, nx)).2.2.2.2.2.1), .int ((tm_ss F q (Rg, Ce, Ac, kp, nI q, dn, en, nx)).2.2.2.2.2.2.1), .int ((tm_ss F q (Rg, Ce, Ac, kp, nI q, dn, en, nx)).2.2.2.2.2.2.2)])), (ra, .inl (cI, 8, .inl ((tm_ss F q (Rg, Ce, Ac, kp, nI q, dn, en, nx)).1))), (ca, .inl (cI, 32, .inl ((tm_ss F q (Rg, Ce, Ac, kp, nI q, dn, en, nx)).2.1))), (aa, .inl (cI, 120, .inl ((tm_ss F q (Rg, Ce, Ac, kp, nI q, dn, en, nx)).2.2.1))), (li, .inr (1, [.ref lf, .int (nI n)])), (lf, .inl (cI, 96, .inl F))] := by
  intro sz
  refine Met.ofW (cc := b_Ma_step) (maxL := 3) (ret := none) (by decide) rfl ?_
  intro p e s m args below meth c s₁ B0 hml hv
  obtain ⟨rfl, hsz, hP, hK, hD0⟩ := hv
  have hx := B0.exec
  have hb := B0.bytes
  have hr := B0.returns
  have hlocks := B0.notSynchronized
  have hg : ∀ w ∈ gG, w.before _ s = true := fun w h => atoms_spec B0.pre w (List.mem_cons_of_mem _ h)
  have hown : s.vm.findClass R_Ma = some m.cls := findClass_of_methodNamed B0.named
  subst hsz
  have hD := hD0.self (sz := s.heap.size)
  generalize hAe : va_A [(mo, .inr (3, [.ref li, .ref ra, .ref ca, .ref aa, .int (nI kp), .int (nI q), .int dn, .int en, .int nx])), (ra, .inl (cI, 8, .inl Rg)), (ca, .inl (cI, 32, .inl Ce)), (aa, .inl (cI, 120, .inl Ac)), (li, .inr (1, [.ref lf, .int (nI n)])), (lf, .inl (cI, 96, .inl F))] s.heap.size = A at hD ⊢
  have hA : ∀ q : Nat, s.heap.size ≤ q → A q := fun q h => by rw [← hAe]; exact Or.inr h
  have hS : va_S A s.heap s.heap [] := va_S.rf
  have hP : va_P D cls [(mo, .inr (3, [.ref li, .ref ra, .ref ca, .ref aa, .int (nI kp), .int (nI q), .int dn, .int en, .int nx])), (ra, .inl (cI, 8, .inl Rg)), (ca, .inl (cI, 32, .inl Ce)), (aa, .inl (cI, 120, .inl Ac)), (li, .inr (1, [.ref lf, .int (nI n)])), (lf, .inl (cI, 96, .inl F))] s.heap := hP
  have hl := lv_entry ([.ref mo, .int (nI v)]) (n := 3) (Nat.le_of_ble_eq_true rfl)
  rw [lg_entry_eq]
  generalize (lg_sl ([.ref mo, .int (nI v)]) ++ List.replicate (3 - (lg_sl ([.ref mo, .int (nI v)])).length) Slot.unset).toArray = ls at hl ⊢
  have hl : lv_has ls 3 [(0, .ref mo), (1, .int (nI v))] := hl
  rcases (show 14 ≤ v ∨ v = 0 ∨ (1 ≤ v ∧ v ≤ 6) ∨ (7 ≤ v ∧ v ≤ 8) ∨ (9 ≤ v ∧ v ≤ 13) by omega) with e0 | e0 | e0 | e0 | e0
  · have f13 : 13 < F (4 * q) := by rw [hv]; exact nI_lt (a := 13) (b := v) (by omega) (by omega)
    refine lv_iload_n hx hb d_Ma_step_0 rfl (lv_at hl 1 rfl) ?_
    refine lv_iconst (v := 1) hx hb d_Ma_step_1 (by decide) ?_
    refine lv_icmp_lt (tgt := 15) hx hb d_Ma_step_2 rfl (fun hz9 => absurd hz9 (nI_nlt (a := v) (b := 1) (by omega) (by omega))) (fun _ => ?_)
    refine lv_iload_n hx hb d_Ma_step_5 rfl (lv_at hl 1 rfl) ?_
    refine lv_bipush (v := 9) hx hb d_Ma_step_6 (by decide) ?_
    refine lv_icmp_ge (tgt := 15) hx hb d_Ma_step_8 rfl (fun _ => ?_) (fun hz9 => absurd (nI_le (a := 9) (b := v) (by omega) (by omega)) hz9)
    refine lv_iconst (v := 0) hx hb d_Ma_step_15 (by decide) ?_
    refine lv_istore_n hx hb d_Ma_step_16 rfl hl (by decide) rfl (fun ls hl => ?_)
    have hl : lv_has ls 3 [(2, .int 0), (0, .ref mo), (1, .int (nI v))] := hl
    refine lv_iload_n hx hb d_Ma_step_17 rfl (lv_at hl 2 rfl) ?_
    refine lv_bipush (v := 13) hx hb d_Ma_step_18 (by decide) ?_
    refine lv_icmp_gt (tgt := 35) hx hb d_Ma_step_20 rfl (fun _ => ?_) (fun hz9 => absurd (nI_lt (a := 13) (b := v) (by omega) (by omega)) hz9)
    refine lv_aload_n hx hb d_Ma_step_35 rfl (lv_at hl 1 rfl) ?_
    refine lv_iconst (v := 2) hx hb d_Ma_step_36 (by decide) ?_
    refine va_put (D := D) (ci := 3) (v := .int 2) (ty := .int) (C := R_So) (T := F_So) (N := 9) hx hb hg f_So t_So t_So_ok n_So hown hK.1 hP hD hS 0 rfl rfl 7 (by decide) (hg _ q101) (fun _ h9 => h9) rfl (by decide +kernel) rfl rfl (Nat.le_of_ble_eq_true rfl) d_Ma_step_37 (fun H locs hP hD hS => ?_)
    have hP : va_P D cls [(mo, .inr (3, [.ref li, .ref ra, .ref ca, .ref aa, .int (nI kp), .int (nI q), .int dn, .int 2, .int nx])), (ra, .inl (cI, 8, .inl Rg)), (ca, .inl (cI, 32, .inl Ce)), (aa, .inl (cI, 120, .inl Ac)), (li, .inr (1, [.ref lf, .int (nI n)])), (lf, .inl (cI, 96, .inl F))] H := hP
    have hD : va_D A [(mo, .inr (3, [.ref li, .ref ra, .ref ca, .ref aa, .int (nI kp), .int (nI q), .int dn, .int 2, .int nx])), (ra, .inl (cI, 8, .inl Rg)), (ca, .inl (cI, 32, .inl Ce)), (aa, .inl (cI, 120, .inl Ac)), (li, .inr (1, [.ref lf, .int (nI n)])), (lf, .inl (cI, 96, .inl F))] := hD
    have ew1 : nI kp = nI (tm_ss F q (Rg, Ce, Ac, kp, nI q, dn, en, nx)).2.2.2.1 := congrArg nI (by first | (simp [tm_ss, f13]; done) | (simp [tm_ss, f13]; omega) | omega)
    have ew2 : nI q = (tm_ss F q (Rg, Ce, Ac, kp, nI q, dn, en, nx)).2.2.2.2.1 := by first | rfl | simp [tm_ss, f13]
    have ew3 : dn = (tm_ss F q (Rg, Ce, Ac, kp, nI q, dn, en, nx)).2.2.2.2.2.1 := by first | rfl | simp [tm_ss, f13]
    have ew4 : 2 = (tm_ss F q (Rg, Ce, Ac, kp, nI q, dn, en, nx)).2.2.2.2.2.2.1 := by first | rfl | simp [tm_ss, f13]
    have ew5 : nx = (tm_ss F q (Rg, Ce, Ac, kp, nI q, dn, en, nx)).2.2.2.2.2.2.2 := by first | rfl | simp [tm_ss, f13]
    have ew6 : Rg = (tm_ss F q (Rg, Ce, Ac, kp, nI q, dn, en, nx)).1 := by first | rfl | simp [tm_ss, f13]
    have ew7 : Ce = (tm_ss F q (Rg, Ce, Ac, kp, nI q, dn, en, nx)).2.1 := by first | rfl | simp [tm_ss, f13]
    have ew8 : Ac = (tm_ss F q (Rg, Ce, Ac, kp, nI q, dn, en, nx)).2.2.1 := by first | rfl | simp [tm_ss, f13]
    have hP : va_P D cls [(mo, .inr (3, [.ref li, .ref ra, .ref ca, .ref aa, .int (nI (tm_ss F q (Rg, Ce, Ac, kp, nI q, dn, en, nx)).2.2.2.1), .int ((tm_ss F q (Rg, Ce, Ac, kp, nI q, dn, en, nx)).2.2.2.2.1), .int ((tm_ss F q (Rg, Ce, Ac, kp, nI q, dn, en, nx)).2.2.2.2.2.1), .int ((tm_ss F q (Rg, Ce, Ac, kp, nI q, dn, en, nx)).2.2.2.2.2.2.1), .int ((tm_ss F q (Rg, Ce, Ac, kp, nI q, dn, en, nx)).2.2.2.2.2.2.2)])), (ra, .inl (cI, 8, .inl ((tm_ss F q (Rg, Ce, Ac, kp, nI q, dn, en, nx)).1))), (ca, .inl (cI, 32, .inl ((tm_ss F q (Rg, Ce, Ac, kp, nI q, dn, en, nx)).2.1))), (aa, .inl (cI, 120, .inl ((tm_ss F q (Rg, Ce, Ac, kp, nI q, dn, en, nx)).2.2.1))), (li, .inr (1, [.ref lf, .int (nI n)])), (lf, .inl (cI, 96, .inl F))] H := by rw [← ew1, ← ew2, ← ew3, ← ew4, ← ew5, ← ew6, ← ew7, ← ew8]; exact hP
    have hD : va_D A [(mo, .inr (3, [.ref li, .ref ra, .ref ca, .ref aa, .int (nI (tm_ss F q (Rg, Ce, Ac, kp, nI q, dn, en, nx)).2.2.2.1), .int ((tm_ss F q (Rg, Ce, Ac, kp, nI q, dn, en, nx)).2.2.2.2.1), .int ((tm_ss F q (Rg, Ce, Ac, kp, nI q, dn, en, nx)).2.2.2.2.2.1), .int ((tm_ss F q (Rg, Ce, Ac, kp, nI q, dn, en, nx)).2.2.2.2.2.2.1), .int ((tm_ss F q (Rg, Ce, Ac, kp, nI q, dn, en, nx)).2.2.2.2.2.2.2)])), (ra, .inl (cI, 8, .inl ((tm_ss F q (Rg, Ce, Ac, kp, nI q, dn, en, nx)).1))), (ca, .inl (cI, 32, .inl ((tm_ss F q (Rg, Ce, Ac, kp, nI q, dn, en, nx)).2.1))), (aa, .inl (cI, 120, .inl ((tm_ss F q (Rg, Ce, Ac, kp, nI q, dn, en, nx)).2.2.1))), (li, .inr (1, [.ref lf, .int (nI n)])), (lf, .inl (cI, 96, .inl F))] := by rw [← ew1, ← ew2, ← ew3, ← ew4, ← ew5, ← ew6, ← ew7, ← ew8]; exact hD
    exact W.vret hx hb hr (fun t9 ht9 hW9 => ⟨⟨(), rfl, trivial, by rw [ht9]; exact hP, hD⟩, hS.F ht9⟩) hS.2.2 d_Ma_step_40
  · subst e0
    have f13 : ¬ 13 < F (4 * q) := by rw [hv]; exact nI_nlt (a := 13) (b := 0) (by decide) (by decide)
    have f0 : F (4 * q) = 0 := hv
    have hl : lv_has ls 3 [(0, .ref mo), (1, .int (nI 0))] := hl
    refine lv_iload_n hx hb d_Ma_step_0 rfl (lv_at hl 1 rfl) ?_
    refine lv_iconst (v := 1) hx hb d_Ma_step_1 (by decide) ?_
    refine lv_icmp_lt (tgt := 15) hx hb d_Ma_step_2 rfl (fun _ => ?_) (fun hz9 => absurd (nI_lt (a := 0) (b := 1) (by decide) (by decide)) hz9)
    refine lv_iconst (v := 0) hx hb d_Ma_step_15 (by decide) ?_
    refine lv_istore_n hx hb d_Ma_step_16 rfl hl (by decide) rfl (fun ls hl => ?_)
    have hl : lv_has ls 3 [(2, .int 0), (0, .ref mo), (1, .int (nI 0))] := hl
    refine lv_iload_n hx hb d_Ma_step_17 rfl (lv_at hl 2 rfl) ?_
    refine lv_bipush (v := 13) hx hb d_Ma_step_18 (by decide) ?_
    refine lv_icmp_gt (tgt := 35) hx hb d_Ma_step_20 rfl (fun hz9 => absurd hz9 (nI_nlt (a := 13) (b := 0) (by decide) (by decide))) (fun _ => ?_)
    refine lv_iload_n hx hb d_Ma_step_23 rfl (lv_at hl 0 rfl) ?_
    refine lv_if_eq (tgt := 41) hx hb d_Ma_step_24 rfl (fun _ => ?_) (fun hz9 => absurd (by decide) hz9)
    refine lv_iload_n hx hb d_Ma_step_41 rfl (lv_at hl 2 rfl) ?_
    refine lv_if_ne (tgt := 56) hx hb d_Ma_step_42 rfl (fun hz9 => absurd (rfl) hz9) (fun _ => ?_)
    refine lv_aload_n hx hb d_Ma_step_45 rfl (lv_at hl 1 rfl) ?_
    refine lv_aload_n hx hb d_Ma_step_46 rfl (lv_at hl 1 rfl) ?_
    refine xr_U (C := R_So) (As := []) (rest := [.ref mo]) ⟨hx, hb, hml, hown, hg⟩ (c_So_howItStops l D cI cZ cJ mo li ra ca aa lf Rg Ce Ac F n kp dn en nx q) (xg_U (x := ⟨"TwoMachines$Machine", "howItStops", "()I"⟩) (owner := R_Ma) hg m_So_howItStops q503 q505 hK.2.2.2.1 q506 ⟨by decide, by decide, by decide +kernel⟩ rfl rfl ⟨Nat.le_of_ble_eq_true rfl, Nat.le_of_ble_eq_true rfl⟩) hK hP [0, 1, 2, 3, 4, 5] rfl (va_recv (q0 := 0) hK.1 hP rfl rfl) rfl hl.1 rfl (Nat.le_of_ble_eq_true rfl) d_Ma_step_47 ⟨Nat.zero_le _, Nat.zero_le _⟩ ?_
    refine va_put (D := D) (ci := 3) (v := .int 1) (ty := .int) (C := R_So) (T := F_So) (N := 9) hx hb hg f_So t_So t_So_ok n_So hown hK.1 hP hD hS 0 rfl rfl 7 (by decide) (hg _ q101) (fun _ h9 => h9) rfl (by decide +kernel) rfl rfl (Nat.le_of_ble_eq_true rfl) d_Ma_step_50 (fun H locs hP hD hS => ?_)
    have hP : va_P D cls [(mo, .inr (3, [.ref li, .ref ra, .ref ca, .ref aa, .int (nI kp), .int (nI q), .int dn, .int 1, .int nx])), (ra, .inl (cI, 8, .inl Rg)), (ca, .inl (cI, 32, .inl Ce)), (aa, .inl (cI, 120, .inl Ac)), (li, .inr (1, [.ref lf, .int (nI n)])), (lf, .inl (cI, 96, .inl F))] H := hP
    have hD : va_D A [(mo, .inr (3, [.ref li, .ref ra, .ref ca, .ref aa, .int (nI kp), .int (nI q), .int dn, .int 1, .int nx])), (ra, .inl (cI, 8, .inl Rg)), (ca, .inl (cI, 32, .inl Ce)), (aa, .inl (cI, 120, .inl Ac)), (li, .inr (1, [.ref lf, .int (nI n)])), (lf, .inl (cI, 96, .inl F))] := hD
    refine lv_goto (tgt := 61) hx hb d_Ma_step_53 rfl ?_
    refine lv_aload_n hx hb d_Ma_step_61 rfl (lv_at hl 1 rfl) ?_
    refine lv_dup hx hb d_Ma_step_62 rfl ?_
    refine va_get (D := D) (ci := 3) (v := .int dn) (C := R_So) (T := F_So) (N := 9) hx hb hg f_So hown hK.1 hP 0 rfl rfl 6 (by decide) (hg _ q99) (fun _ h9 => h9) rfl d_Ma_step_63 ?_
    refine lv_iconst (v := 1) hx hb d_Ma_step_66 (by decide) ?_
    refine lv_iadd hx hb d_Ma_step_67 ?_
    refine va_put (D := D) (ci := 3) (v := .int (dn + 1)) (ty := .int) (C := R_So) (T := F_So) (N := 9) hx hb hg f_So t_So t_So_ok n_So hown hK.1 hP hD hS 0 rfl rfl 6 (by decide) (hg _ q99) (fun _ h9 => h9) rfl (by decide +kernel) rfl rfl (Nat.le_of_ble_eq_true rfl) d_Ma_step_68 (fun H locs hP hD hS => ?_)
    have hP : va_P D cls [(mo, .inr (3, [.ref li, .ref ra, .ref ca, .ref aa, .int (nI kp), .int (nI q), .int (dn + 1), .int 1, .int nx])), (ra, .inl (cI, 8, .inl Rg)), (ca, .inl (cI, 32, .inl Ce)), (aa, .inl (cI, 120, .inl Ac)), (li, .inr (1, [.ref lf, .int (nI n)])), (lf, .inl (cI, 96, .inl F))] H := hP
    have hD : va_D A [(mo, .inr (3, [.ref li, .ref ra, .ref ca, .ref aa, .int (nI kp), .int (nI q), .int (dn + 1), .int 1, .int nx])), (ra, .inl (cI, 8, .inl Rg)), (ca, .inl (cI, 32, .inl Ce)), (aa, .inl (cI, 120, .inl Ac)), (li, .inr (1, [.ref lf, .int (nI n)])), (lf, .inl (cI, 96, .inl F))] := hD
    have ew1 : nI kp = nI (tm_ss F q (Rg, Ce, Ac, kp, nI q, dn, en, nx)).2.2.2.1 := congrArg nI (by first | (simp [tm_ss, f13, f0]; done) | (simp [tm_ss, f13, f0]; omega) | omega)
    have ew2 : nI q = (tm_ss F q (Rg, Ce, Ac, kp, nI q, dn, en, nx)).2.2.2.2.1 := by first | rfl | simp [tm_ss, f13, f0]
    have ew3 : dn + 1 = (tm_ss F q (Rg, Ce, Ac, kp, nI q, dn, en, nx)).2.2.2.2.2.1 := by first | rfl | simp [tm_ss, f13, f0]
    have ew4 : 1 = (tm_ss F q (Rg, Ce, Ac, kp, nI q, dn, en, nx)).2.2.2.2.2.2.1 := by first | rfl | simp [tm_ss, f13, f0]
    have ew5 : nx = (tm_ss F q (Rg, Ce, Ac, kp, nI q, dn, en, nx)).2.2.2.2.2.2.2 := by first | rfl | simp [tm_ss, f13, f0]
    have ew6 : Rg = (tm_ss F q (Rg, Ce, Ac, kp, nI q, dn, en, nx)).1 := by first | rfl | simp [tm_ss, f13, f0]
    have ew7 : Ce = (tm_ss F q (Rg, Ce, Ac, kp, nI q, dn, en, nx)).2.1 := by first | rfl | simp [tm_ss, f13, f0]
    have ew8 : Ac = (tm_ss F q (Rg, Ce, Ac, kp, nI q, dn, en, nx)).2.2.1 := by first | rfl | simp [tm_ss, f13, f0]
    have hP : va_P D cls [(mo, .inr (3, [.ref li, .ref ra, .ref ca, .ref aa, .int (nI (tm_ss F q (Rg, Ce, Ac, kp, nI q, dn, en, nx)).2.2.2.1), .int ((tm_ss F q (Rg, Ce, Ac, kp, nI q, dn, en, nx)).2.2.2.2.1), .int ((tm_ss F q (Rg, Ce, Ac, kp, nI q, dn, en, nx)).2.2.2.2.2.1), .int ((tm_ss F q (Rg, Ce, Ac, kp, nI q, dn, en, nx)).2.2.2.2.2.2.1), .int ((tm_ss F q (Rg, Ce, Ac, kp, nI q, dn, en, nx)).2.2.2.2.2.2.2)])), (ra, .inl (cI, 8, .inl ((tm_ss F q (Rg, Ce, Ac, kp, nI q, dn, en, nx)).1))), (ca, .inl (cI, 32, .inl ((tm_ss F q (Rg, Ce, Ac, kp, nI q, dn, en, nx)).2.1))), (aa, .inl (cI, 120, .inl ((tm_ss F q (Rg, Ce, Ac, kp, nI q, dn, en, nx)).2.2.1))), (li, .inr (1, [.ref lf, .int (nI n)])), (lf, .inl (cI, 96, .inl F))] H := by rw [← ew1, ← ew2, ← ew3, ← ew4, ← ew5, ← ew6, ← ew7, ← ew8]; exact hP
    have hD : va_D A [(mo, .inr (3, [.ref li, .ref ra, .ref ca, .ref aa, .int (nI (tm_ss F q (Rg, Ce, Ac, kp, nI q, dn, en, nx)).2.2.2.1), .int ((tm_ss F q (Rg, Ce, Ac, kp, nI q, dn, en, nx)).2.2.2.2.1), .int ((tm_ss F q (Rg, Ce, Ac, kp, nI q, dn, en, nx)).2.2.2.2.2.1), .int ((tm_ss F q (Rg, Ce, Ac, kp, nI q, dn, en, nx)).2.2.2.2.2.2.1), .int ((tm_ss F q (Rg, Ce, Ac, kp, nI q, dn, en, nx)).2.2.2.2.2.2.2)])), (ra, .inl (cI, 8, .inl ((tm_ss F q (Rg, Ce, Ac, kp, nI q, dn, en, nx)).1))), (ca, .inl (cI, 32, .inl ((tm_ss F q (Rg, Ce, Ac, kp, nI q, dn, en, nx)).2.1))), (aa, .inl (cI, 120, .inl ((tm_ss F q (Rg, Ce, Ac, kp, nI q, dn, en, nx)).2.2.1))), (li, .inr (1, [.ref lf, .int (nI n)])), (lf, .inl (cI, 96, .inl F))] := by rw [← ew1, ← ew2, ← ew3, ← ew4, ← ew5, ← ew6, ← ew7, ← ew8]; exact hD
    exact W.vret hx hb hr (fun t9 ht9 hW9 => ⟨⟨(), rfl, trivial, by rw [ht9]; exact hP, hD⟩, hS.F ht9⟩) hS.2.2 d_Ma_step_71
  · have f13 : ¬ 13 < F (4 * q) := by rw [hv]; exact nI_nlt (a := 13) (b := v) (by omega) (by decide)
    have f0 : ¬ F (4 * q) = 0 := by rw [hv]; exact xn_ne (w := 0) (by omega) (by decide) (by omega)
    have f7 : F (4 * q) < 7 := by rw [hv]; exact nI_lt (a := v) (b := 7) (by omega) (by decide)
    refine lv_iload_n hx hb d_Ma_step_0 rfl (lv_at hl 1 rfl) ?_
    refine lv_iconst (v := 1) hx hb d_Ma_step_1 (by decide) ?_
    refine lv_icmp_lt (tgt := 15) hx hb d_Ma_step_2 rfl (fun hz9 => absurd hz9 (nI_nlt (a := v) (b := 1) (by omega) (by omega))) (fun _ => ?_)
    refine lv_iload_n hx hb d_Ma_step_5 rfl (lv_at hl 1 rfl) ?_
    refine lv_bipush (v := 9) hx hb d_Ma_step_6 (by decide) ?_
    refine lv_icmp_ge (tgt := 15) hx hb d_Ma_step_8 rfl (fun hz9 => absurd hz9 (nI_ge (a := v) (b := 9) (by omega) (by decide))) (fun _ => ?_)
    refine lv_iconst (v := 1) hx hb d_Ma_step_11 (by decide) ?_
    refine lv_goto (tgt := 16) hx hb d_Ma_step_12 rfl ?_
    refine lv_istore_n hx hb d_Ma_step_16 rfl hl (by decide) rfl (fun ls hl => ?_)
    have hl : lv_has ls 3 [(2, .int 1), (0, .ref mo), (1, .int (nI v))] := hl
    refine lv_iload_n hx hb d_Ma_step_17 rfl (lv_at hl 2 rfl) ?_
    refine lv_bipush (v := 13) hx hb d_Ma_step_18 (by decide) ?_
    refine lv_icmp_gt (tgt := 35) hx hb d_Ma_step_20 rfl (fun hz9 => absurd hz9 (nI_nlt (a := 13) (b := v) (by omega) (by decide))) (fun _ => ?_)
    refine lv_iload_n hx hb d_Ma_step_23 rfl (lv_at hl 0 rfl) ?_
    refine lv_if_eq (tgt := 41) hx hb d_Ma_step_24 rfl (fun hz9 => absurd hz9 (by decide)) (fun _ => ?_)
    refine lv_aload_n hx hb d_Ma_step_27 rfl (lv_at hl 1 rfl) ?_
    refine lv_iload_n hx hb d_Ma_step_28 rfl (lv_at hl 2 rfl) ?_
    refine xi_go (w2 := [(mo, .inr (3, [.ref li, .ref ra, .ref ca, .ref aa, .int (nI kp), .int (nI q), .int dn, .int en, .int nx])), (ra, .inl (cI, 8, .inl (tm_alu F q Rg))), (ca, .inl (cI, 32, .inl Ce)), (aa, .inl (cI, 120, .inl Ac)), (li, .inr (1, [.ref lf, .int (nI n)])), (lf, .inl (cI, 96, .inl F))]) (wr := []) (w1 := [(mo, .inr (3, [.ref li, .ref ra, .ref ca, .ref aa, .int (nI kp), .int (nI q), .int dn, .int en, .int nx])), (ra, .inl (cI, 8, .inl (tm_alu F q Rg))), (ca, .inl (cI, 32, .inl Ce)), (aa, .inl (cI, 120, .inl Ac)), (li, .inr (1, [.ref lf, .int (nI n)])), (lf, .inl (cI, 96, .inl F))]) (va_runU (As := [.int (nI v)]) (rest := []) (C := R_So) ⟨hx, hb, hml, hown, hg⟩ (c_So_doSimple_alu l D cI cZ cJ mo li ra ca aa lf Rg Ce Ac F n kp dn en nx q v a b (by omega) (by omega) (hv) (ha) (by omega) (hbb) (by omega) (by omega) s.heap.size) (xg_O (x := ⟨"TwoMachines$Machine", "doSimple", "(I)Z"⟩) (owner := R_Ma) hg m_Ma_doSimple q475 q759 rfl m_Ma_doSimple sx_So_Ma_doSimple ⟨by decide, by decide, by decide +kernel⟩ rfl rfl ⟨Nat.le_of_ble_eq_true rfl, Nat.le_of_ble_eq_true rfl⟩) ⟨xw_blind, (va_recv (q0 := 0) hK.1 hP rfl rfl), xw_pre hK hP hD [0, 1, 2, 3, 4, 5] (by decide) rfl⟩ rfl rfl hl.1 rfl (lv_room (Nat.le_of_ble_eq_true rfl)) d_Ma_step_29 ⟨Nat.zero_le _, Nat.zero_le _⟩) hP hD hS hA [0, 1, 2, 3, 4, 5] [] [0, 1, 2, 3, 4, 5] rfl rfl (by decide) (by decide) rfl (by decide) (fun H locs hP hD hS => ?_)
    refine lv_if_ne (tgt := 41) hx hb d_Ma_step_32 rfl (fun _ => ?_) (fun hz9 => absurd hz9 (by decide))
    refine lv_iload_n hx hb d_Ma_step_41 rfl (lv_at hl 2 rfl) ?_
    refine lv_if_ne (tgt := 56) hx hb d_Ma_step_42 rfl (fun _ => ?_) (fun hz9 => absurd hz9 (xn_ne (w := 0) (by omega) (by decide) (by omega)))
    refine lv_aload_n hx hb d_Ma_step_56 rfl (lv_at hl 1 rfl) ?_
    refine lv_iload_n hx hb d_Ma_step_57 rfl (lv_at hl 2 rfl) ?_
    refine xw_go (w2 := [(mo, .inr (3, [.ref li, .ref ra, .ref ca, .ref aa, .int (nI kp), .int nx, .int dn, .int en, .int (nx + 1)])), (ra, .inl (cI, 8, .inl (tm_alu F q Rg))), (ca, .inl (cI, 32, .inl Ce)), (aa, .inl (cI, 120, .inl Ac)), (li, .inr (1, [.ref lf, .int (nI n)])), (lf, .inl (cI, 96, .inl F))]) (wr := []) (w1 := [(mo, .inr (3, [.ref li, .ref ra, .ref ca, .ref aa, .int (nI kp), .int nx, .int dn, .int en, .int (nx + 1)])), (ra, .inl (cI, 8, .inl (tm_alu F q Rg))), (ca, .inl (cI, 32, .inl Ce)), (aa, .inl (cI, 120, .inl Ac)), (li, .inr (1, [.ref lf, .int (nI n)])), (lf, .inl (cI, 96, .inl F))]) (va_runU (As := [.int (nI v)]) (rest := []) (C := R_So) ⟨hx, hb, hml, hown, hg⟩ (c_So_goOn_s l D cI cZ cJ mo li ra ca aa lf (tm_alu F q Rg) Ce Ac F n kp dn en nx q v (by omega) H.size) (xg_U (x := ⟨"TwoMachines$Machine", "goOn", "(I)V"⟩) (owner := R_Ma) hg m_So_goOn q513 q515 hK.2.2.2.2 q516 ⟨by decide, by decide, by decide +kernel⟩ rfl rfl ⟨Nat.le_of_ble_eq_true rfl, Nat.le_of_ble_eq_true rfl⟩) ⟨xw_blind, (va_recv (q0 := 0) hK.1 hP rfl rfl), xw_pre hK hP hD [0, 1, 2, 3, 4, 5] (by decide) rfl⟩ rfl rfl hl.1 rfl (lv_room (Nat.le_of_ble_eq_true rfl)) d_Ma_step_58 ⟨Nat.zero_le _, Nat.zero_le _⟩) hP hD hS hA [0, 1, 2, 3, 4, 5] [] [0, 1, 2, 3, 4, 5] rfl rfl (by decide) (by decide) rfl (by decide) (fun H locs hP hD hS => ?_)
    refine lv_aload_n hx hb d_Ma_step_61 rfl (lv_at hl 1 rfl) ?_
    refine lv_dup hx hb d_Ma_step_62 rfl ?_
    refine va_get (D := D) (ci := 3) (v := .int dn) (C := R_So) (T := F_So) (N := 9) hx hb hg f_So hown hK.1 hP 0 rfl rfl 6 (by decide) (hg _ q99) (fun _ h9 => h9) rfl d_Ma_step_63 ?_
    refine lv_iconst (v := 1) hx hb d_Ma_step_66 (by decide) ?_
    refine lv_iadd hx hb d_Ma_step_67 ?_
    refine va_put (D := D) (ci := 3) (v := .int (dn + 1)) (ty := .int) (C := R_So) (T := F_So) (N := 9) hx hb hg f_So t_So t_So_ok n_So hown hK.1 hP hD hS 0 rfl rfl 6 (by decide) (hg _ q99) (fun _ h9 => h9) rfl (by decide +kernel) rfl rfl (Nat.le_of_ble_eq_true rfl) d_Ma_step_68 (fun H locs hP hD hS => ?_)
    have hP : va_P D cls [(mo, .inr (3, [.ref li, .ref ra, .ref ca, .ref aa, .int (nI kp), .int nx, .int (dn + 1), .int en, .int (nx + 1)])), (ra, .inl (cI, 8, .inl (tm_alu F q Rg))), (ca, .inl (cI, 32, .inl Ce)), (aa, .inl (cI, 120, .inl Ac)), (li, .inr (1, [.ref lf, .int (nI n)])), (lf, .inl (cI, 96, .inl F))] H := hP
    have hD : va_D A [(mo, .inr (3, [.ref li, .ref ra, .ref ca, .ref aa, .int (nI kp), .int nx, .int (dn + 1), .int en, .int (nx + 1)])), (ra, .inl (cI, 8, .inl (tm_alu F q Rg))), (ca, .inl (cI, 32, .inl Ce)), (aa, .inl (cI, 120, .inl Ac)), (li, .inr (1, [.ref lf, .int (nI n)])), (lf, .inl (cI, 96, .inl F))] := hD
    have ew1 : nI kp = nI (tm_ss F q (Rg, Ce, Ac, kp, nI q, dn, en, nx)).2.2.2.1 := congrArg nI (by first | (simp [tm_ss, f13, f0, f7]; done) | (simp [tm_ss, f13, f0, f7]; omega) | omega)
    have ew2 : nx = (tm_ss F q (Rg, Ce, Ac, kp, nI q, dn, en, nx)).2.2.2.2.1 := by first | rfl | simp [tm_ss, f13, f0, f7]
    have ew3 : dn + 1 = (tm_ss F q (Rg, Ce, Ac, kp, nI q, dn, en, nx)).2.2.2.2.2.1 := by first | rfl | simp [tm_ss, f13, f0, f7]
    have ew4 : en = (tm_ss F q (Rg, Ce, Ac, kp, nI q, dn, en, nx)).2.2.2.2.2.2.1 := by first | rfl | simp [tm_ss, f13, f0, f7]
    have ew5 : nx + 1 = (tm_ss F q (Rg, Ce, Ac, kp, nI q, dn, en, nx)).2.2.2.2.2.2.2 := by first | rfl | simp [tm_ss, f13, f0, f7]
    have ew6 : tm_alu F q Rg = (tm_ss F q (Rg, Ce, Ac, kp, nI q, dn, en, nx)).1 := by first | rfl | simp [tm_ss, f13, f0, f7]
    have ew7 : Ce = (tm_ss F q (Rg, Ce, Ac, kp, nI q, dn, en, nx)).2.1 := by first | rfl | simp [tm_ss, f13, f0, f7]
    have ew8 : Ac = (tm_ss F q (Rg, Ce, Ac, kp, nI q, dn, en, nx)).2.2.1 := by first | rfl | simp [tm_ss, f13, f0, f7]
    have hP : va_P D cls [(mo, .inr (3, [.ref li, .ref ra, .ref ca, .ref aa, .int (nI (tm_ss F q (Rg, Ce, Ac, kp, nI q, dn, en, nx)).2.2.2.1), .int ((tm_ss F q (Rg, Ce, Ac, kp, nI q, dn, en, nx)).2.2.2.2.1), .int ((tm_ss F q (Rg, Ce, Ac, kp, nI q, dn, en, nx)).2.2.2.2.2.1), .int ((tm_ss F q (Rg, Ce, Ac, kp, nI q, dn, en, nx)).2.2.2.2.2.2.1), .int ((tm_ss F q (Rg, Ce, Ac, kp, nI q, dn, en, nx)).2.2.2.2.2.2.2)])), (ra, .inl (cI, 8, .inl ((tm_ss F q (Rg, Ce, Ac, kp, nI q, dn, en, nx)).1))), (ca, .inl (cI, 32, .inl ((tm_ss F q (Rg, Ce, Ac, kp, nI q, dn, en, nx)).2.1))), (aa, .inl (cI, 120, .inl ((tm_ss F q (Rg, Ce, Ac, kp, nI q, dn, en, nx)).2.2.1))), (li, .inr (1, [.ref lf, .int (nI n)])), (lf, .inl (cI, 96, .inl F))] H := by rw [← ew1, ← ew2, ← ew3, ← ew4, ← ew5, ← ew6, ← ew7, ← ew8]; exact hP
    have hD : va_D A [(mo, .inr (3, [.ref li, .ref ra, .ref ca, .ref aa, .int (nI (tm_ss F q (Rg, Ce, Ac, kp, nI q, dn, en, nx)).2.2.2.1), .int ((tm_ss F q (Rg, Ce, Ac, kp, nI q, dn, en, nx)).2.2.2.2.1), .int ((tm_ss F q (Rg, Ce, Ac, kp, nI q, dn, en, nx)).2.2.2.2.2.1), .int ((tm_ss F q (Rg, Ce, Ac, kp, nI q, dn, en, nx)).2.2.2.2.2.2.1), .int ((tm_ss F q (Rg, Ce, Ac, kp, nI q, dn, en, nx)).2.2.2.2.2.2.2)])), (ra, .inl (cI, 8, .inl ((tm_ss F q (Rg, Ce, Ac, kp, nI q, dn, en, nx)).1))), (ca, .inl (cI, 32, .inl ((tm_ss F q (Rg, Ce, Ac, kp, nI q, dn, en, nx)).2.1))), (aa, .inl (cI, 120, .inl ((tm_ss F q (Rg, Ce, Ac, kp, nI q, dn, en, nx)).2.2.1))), (li, .inr (1, [.ref lf, .int (nI n)])), (lf, .inl (cI, 96, .inl F))] := by rw [← ew1, ← ew2, ← ew3, ← ew4, ← ew5, ← ew6, ← ew7, ← ew8]; exact hD
    exact W.vret hx hb hr (fun t9 ht9 hW9 => ⟨⟨(), rfl, trivial, by rw [ht9]; exact hP, hD⟩, hS.F ht9⟩) hS.2.2 d_Ma_step_71
  · by_cases ho : tm_adr F q Rg < 0 ∨ nI 32 ≤ tm_adr F q Rg
    · have f13 : ¬ 13 < F (4 * q) := by rw [hv]; exact nI_nlt (a := 13) (b := v) (by omega) (by decide)
      have f0 : ¬ F (4 * q) = 0 := by rw [hv]; exact xn_ne (w := 0) (by omega) (by decide) (by omega)
      have f7 : ¬ F (4 * q) < 7 := by rw [hv]; exact nI_nlt (a := v) (b := 7) (by omega) (by omega)
      have f9 : F (4 * q) < 9 := by rw [hv]; exact nI_lt (a := v) (b := 9) (by omega) (by decide)
      refine lv_iload_n hx hb d_Ma_step_0 rfl (lv_at hl 1 rfl) ?_
      refine lv_iconst (v := 1) hx hb d_Ma_step_1 (by decide) ?_
      refine lv_icmp_lt (tgt := 15) hx hb d_Ma_step_2 rfl (fun hz9 => absurd hz9 (nI_nlt (a := v) (b := 1) (by omega) (by omega))) (fun _ => ?_)
      refine lv_iload_n hx hb d_Ma_step_5 rfl (lv_at hl 1 rfl) ?_
      refine lv_bipush (v := 9) hx hb d_Ma_step_6 (by decide) ?_
      refine lv_icmp_ge (tgt := 15) hx hb d_Ma_step_8 rfl (fun hz9 => absurd hz9 (nI_ge (a := v) (b := 9) (by omega) (by decide))) (fun _ => ?_)
      refine lv_iconst (v := 1) hx hb d_Ma_step_11 (by decide) ?_
      refine lv_goto (tgt := 16) hx hb d_Ma_step_12 rfl ?_
      refine lv_istore_n hx hb d_Ma_step_16 rfl hl (by decide) rfl (fun ls hl => ?_)
      have hl : lv_has ls 3 [(2, .int 1), (0, .ref mo), (1, .int (nI v))] := hl
      refine lv_iload_n hx hb d_Ma_step_17 rfl (lv_at hl 2 rfl) ?_
      refine lv_bipush (v := 13) hx hb d_Ma_step_18 (by decide) ?_
      refine lv_icmp_gt (tgt := 35) hx hb d_Ma_step_20 rfl (fun hz9 => absurd hz9 (nI_nlt (a := 13) (b := v) (by omega) (by decide))) (fun _ => ?_)
      refine lv_iload_n hx hb d_Ma_step_23 rfl (lv_at hl 0 rfl) ?_
      refine lv_if_eq (tgt := 41) hx hb d_Ma_step_24 rfl (fun hz9 => absurd hz9 (by decide)) (fun _ => ?_)
      refine lv_aload_n hx hb d_Ma_step_27 rfl (lv_at hl 1 rfl) ?_
      refine lv_iload_n hx hb d_Ma_step_28 rfl (lv_at hl 2 rfl) ?_
      refine xi_go (w2 := [(mo, .inr (3, [.ref li, .ref ra, .ref ca, .ref aa, .int (nI kp), .int (nI q), .int dn, .int en, .int nx])), (ra, .inl (cI, 8, .inl Rg)), (ca, .inl (cI, 32, .inl Ce)), (aa, .inl (cI, 120, .inl Ac)), (li, .inr (1, [.ref lf, .int (nI n)])), (lf, .inl (cI, 96, .inl F))]) (wr := []) (w1 := [(mo, .inr (3, [.ref li, .ref ra, .ref ca, .ref aa, .int (nI kp), .int (nI q), .int dn, .int en, .int nx])), (ra, .inl (cI, 8, .inl Rg)), (ca, .inl (cI, 32, .inl Ce)), (aa, .inl (cI, 120, .inl Ac)), (li, .inr (1, [.ref lf, .int (nI n)])), (lf, .inl (cI, 96, .inl F))]) (va_runU (As := [.int (nI v)]) (rest := []) (C := R_So) ⟨hx, hb, hml, hown, hg⟩ (c_So_doSimple_out l D cI cZ cJ mo li ra ca aa lf Rg Ce Ac F n kp dn en nx q v a b (by omega) (by omega) (ha) (by omega) (hbb) (by omega) (by omega) (by omega) (ho) s.heap.size) (xg_O (x := ⟨"TwoMachines$Machine", "doSimple", "(I)Z"⟩) (owner := R_Ma) hg m_Ma_doSimple q475 q759 rfl m_Ma_doSimple sx_So_Ma_doSimple ⟨by decide, by decide, by decide +kernel⟩ rfl rfl ⟨Nat.le_of_ble_eq_true rfl, Nat.le_of_ble_eq_true rfl⟩) ⟨xw_blind, (va_recv (q0 := 0) hK.1 hP rfl rfl), xw_pre hK hP hD [0, 1, 2, 3, 4, 5] (by decide) rfl⟩ rfl rfl hl.1 rfl (lv_room (Nat.le_of_ble_eq_true rfl)) d_Ma_step_29 ⟨Nat.zero_le _, Nat.zero_le _⟩) hP hD hS hA [0, 1, 2, 3, 4, 5] [] [0, 1, 2, 3, 4, 5] rfl rfl (by decide) (by decide) rfl (by decide) (fun H locs hP hD hS => ?_)
      refine lv_if_ne (tgt := 41) hx hb d_Ma_step_32 rfl (fun hz9 => absurd (by decide) hz9) (fun _ => ?_)
      refine lv_aload_n hx hb d_Ma_step_35 rfl (lv_at hl 1 rfl) ?_
      refine lv_iconst (v := 2) hx hb d_Ma_step_36 (by decide) ?_
      refine va_put (D := D) (ci := 3) (v := .int 2) (ty := .int) (C := R_So) (T := F_So) (N := 9) hx hb hg f_So t_So t_So_ok n_So hown hK.1 hP hD hS 0 rfl rfl 7 (by decide) (hg _ q101) (fun _ h9 => h9) rfl (by decide +kernel) rfl rfl (Nat.le_of_ble_eq_true rfl) d_Ma_step_37 (fun H locs hP hD hS => ?_)
      have hP : va_P D cls [(mo, .inr (3, [.ref li, .ref ra, .ref ca, .ref aa, .int (nI kp), .int (nI q), .int dn, .int 2, .int nx])), (ra, .inl (cI, 8, .inl Rg)), (ca, .inl (cI, 32, .inl Ce)), (aa, .inl (cI, 120, .inl Ac)), (li, .inr (1, [.ref lf, .int (nI n)])), (lf, .inl (cI, 96, .inl F))] H := hP
      have hD : va_D A [(mo, .inr (3, [.ref li, .ref ra, .ref ca, .ref aa, .int (nI kp), .int (nI q), .int dn, .int 2, .int nx])), (ra, .inl (cI, 8, .inl Rg)), (ca, .inl (cI, 32, .inl Ce)), (aa, .inl (cI, 120, .inl Ac)), (li, .inr (1, [.ref lf, .int (nI n)])), (lf, .inl (cI, 96, .inl F))] := hD
      have ew1 : nI kp = nI (tm_ss F q (Rg, Ce, Ac, kp, nI q, dn, en, nx)).2.2.2.1 := congrArg nI (by first | (simp [tm_ss, f13, f0, f7, f9, ho]; done) | (simp [tm_ss, f13, f0, f7, f9, ho]; omega) | omega)
      have ew2 : nI q = (tm_ss F q (Rg, Ce, Ac, kp, nI q, dn, en, nx)).2.2.2.2.1 := by first | rfl | simp [tm_ss, f13, f0, f7, f9, ho]
      have ew3 : dn = (tm_ss F q (Rg, Ce, Ac, kp, nI q, dn, en, nx)).2.2.2.2.2.1 := by first | rfl | simp [tm_ss, f13, f0, f7, f9, ho]
      have ew4 : 2 = (tm_ss F q (Rg, Ce, Ac, kp, nI q, dn, en, nx)).2.2.2.2.2.2.1 := by first | rfl | simp [tm_ss, f13, f0, f7, f9, ho]
      have ew5 : nx = (tm_ss F q (Rg, Ce, Ac, kp, nI q, dn, en, nx)).2.2.2.2.2.2.2 := by first | rfl | simp [tm_ss, f13, f0, f7, f9, ho]
      have ew6 : Rg = (tm_ss F q (Rg, Ce, Ac, kp, nI q, dn, en, nx)).1 := by first | rfl | simp [tm_ss, f13, f0, f7, f9, ho]
      have ew7 : Ce = (tm_ss F q (Rg, Ce, Ac, kp, nI q, dn, en, nx)).2.1 := by first | rfl | simp [tm_ss, f13, f0, f7, f9, ho]
      have ew8 : Ac = (tm_ss F q (Rg, Ce, Ac, kp, nI q, dn, en, nx)).2.2.1 := by first | rfl | simp [tm_ss, f13, f0, f7, f9, ho]
      have hP : va_P D cls [(mo, .inr (3, [.ref li, .ref ra, .ref ca, .ref aa, .int (nI (tm_ss F q (Rg, Ce, Ac, kp, nI q, dn, en, nx)).2.2.2.1), .int ((tm_ss F q (Rg, Ce, Ac, kp, nI q, dn, en, nx)).2.2.2.2.1), .int ((tm_ss F q (Rg, Ce, Ac, kp, nI q, dn, en, nx)).2.2.2.2.2.1), .int ((tm_ss F q (Rg, Ce, Ac, kp, nI q, dn, en, nx)).2.2.2.2.2.2.1), .int ((tm_ss F q (Rg, Ce, Ac, kp, nI q, dn, en, nx)).2.2.2.2.2.2.2)])), (ra, .inl (cI, 8, .inl ((tm_ss F q (Rg, Ce, Ac, kp, nI q, dn, en, nx)).1))), (ca, .inl (cI, 32, .inl ((tm_ss F q (Rg, Ce, Ac, kp, nI q, dn, en, nx)).2.1))), (aa, .inl (cI, 120, .inl ((tm_ss F q (Rg, Ce, Ac, kp, nI q, dn, en, nx)).2.2.1))), (li, .inr (1, [.ref lf, .int (nI n)])), (lf, .inl (cI, 96, .inl F))] H := by rw [← ew1, ← ew2, ← ew3, ← ew4, ← ew5, ← ew6, ← ew7, ← ew8]; exact hP
      have hD : va_D A [(mo, .inr (3, [.ref li, .ref ra, .ref ca, .ref aa, .int (nI (tm_ss F q (Rg, Ce, Ac, kp, nI q, dn, en, nx)).2.2.2.1), .int ((tm_ss F q (Rg, Ce, Ac, kp, nI q, dn, en, nx)).2.2.2.2.1), .int ((tm_ss F q (Rg, Ce, Ac, kp, nI q, dn, en, nx)).2.2.2.2.2.1), .int ((tm_ss F q (Rg, Ce, Ac, kp, nI q, dn, en, nx)).2.2.2.2.2.2.1), .int ((tm_ss F q (Rg, Ce, Ac, kp, nI q, dn, en, nx)).2.2.2.2.2.2.2)])), (ra, .inl (cI, 8, .inl ((tm_ss F q (Rg, Ce, Ac, kp, nI q, dn, en, nx)).1))), (ca, .inl (cI, 32, .inl ((tm_ss F q (Rg, Ce, Ac, kp, nI q, dn, en, nx)).2.1))), (aa, .inl (cI, 120, .inl ((tm_ss F q (Rg, Ce, Ac, kp, nI q, dn, en, nx)).2.2.1))), (li, .inr (1, [.ref lf, .int (nI n)])), (lf, .inl (cI, 96, .inl F))] := by rw [← ew1, ← ew2, ← ew3, ← ew4, ← ew5, ← ew6, ← ew7, ← ew8]; exact hD
      exact W.vret hx hb hr (fun t9 ht9 hW9 => ⟨⟨(), rfl, trivial, by rw [ht9]; exact hP, hD⟩, hS.F ht9⟩) hS.2.2 d_Ma_step_40
    · obtain ⟨dd, hdM, hd⟩ : ∃ dd : Nat, dd < 32 ∧ tm_adr F q Rg = nI dd := ((pk_ix (tm_adr F q Rg) (n := 32) (by decide)).resolve_left (fun z => ho (Or.inl z))).resolve_left (fun z => ho (Or.inr z))
      have f13 : ¬ 13 < F (4 * q) := by rw [hv]; exact nI_nlt (a := 13) (b := v) (by omega) (by decide)
      have f0 : ¬ F (4 * q) = 0 := by rw [hv]; exact xn_ne (w := 0) (by omega) (by decide) (by omega)
      have f7 : ¬ F (4 * q) < 7 := by rw [hv]; exact nI_nlt (a := v) (b := 7) (by omega) (by omega)
      have f9 : F (4 * q) < 9 := by rw [hv]; exact nI_lt (a := v) (b := 9) (by omega) (by decide)
      refine lv_iload_n hx hb d_Ma_step_0 rfl (lv_at hl 1 rfl) ?_
      refine lv_iconst (v := 1) hx hb d_Ma_step_1 (by decide) ?_
      refine lv_icmp_lt (tgt := 15) hx hb d_Ma_step_2 rfl (fun hz9 => absurd hz9 (nI_nlt (a := v) (b := 1) (by omega) (by omega))) (fun _ => ?_)
      refine lv_iload_n hx hb d_Ma_step_5 rfl (lv_at hl 1 rfl) ?_
      refine lv_bipush (v := 9) hx hb d_Ma_step_6 (by decide) ?_
      refine lv_icmp_ge (tgt := 15) hx hb d_Ma_step_8 rfl (fun hz9 => absurd hz9 (nI_ge (a := v) (b := 9) (by omega) (by decide))) (fun _ => ?_)
      refine lv_iconst (v := 1) hx hb d_Ma_step_11 (by decide) ?_
      refine lv_goto (tgt := 16) hx hb d_Ma_step_12 rfl ?_
      refine lv_istore_n hx hb d_Ma_step_16 rfl hl (by decide) rfl (fun ls hl => ?_)
      have hl : lv_has ls 3 [(2, .int 1), (0, .ref mo), (1, .int (nI v))] := hl
      refine lv_iload_n hx hb d_Ma_step_17 rfl (lv_at hl 2 rfl) ?_
      refine lv_bipush (v := 13) hx hb d_Ma_step_18 (by decide) ?_
      refine lv_icmp_gt (tgt := 35) hx hb d_Ma_step_20 rfl (fun hz9 => absurd hz9 (nI_nlt (a := 13) (b := v) (by omega) (by decide))) (fun _ => ?_)
      refine lv_iload_n hx hb d_Ma_step_23 rfl (lv_at hl 0 rfl) ?_
      refine lv_if_eq (tgt := 41) hx hb d_Ma_step_24 rfl (fun hz9 => absurd hz9 (by decide)) (fun _ => ?_)
      refine lv_aload_n hx hb d_Ma_step_27 rfl (lv_at hl 1 rfl) ?_
      refine lv_iload_n hx hb d_Ma_step_28 rfl (lv_at hl 2 rfl) ?_
      refine xi_go (w2 := [(mo, .inr (3, [.ref li, .ref ra, .ref ca, .ref aa, .int (nI (tm_dk kp (tm_adr F q Rg))), .int (nI q), .int dn, .int en, .int nx])), (ra, .inl (cI, 8, .inl (tm_mR F q Rg Ce))), (ca, .inl (cI, 32, .inl (tm_mC F q Rg Ce))), (aa, .inl (cI, 120, .inl (tm_mA F q Rg Ce Ac kp))), (li, .inr (1, [.ref lf, .int (nI n)])), (lf, .inl (cI, 96, .inl F))]) (wr := []) (w1 := [(mo, .inr (3, [.ref li, .ref ra, .ref ca, .ref aa, .int (nI (tm_dk kp (tm_adr F q Rg))), .int (nI q), .int dn, .int en, .int nx])), (ra, .inl (cI, 8, .inl (tm_mR F q Rg Ce))), (ca, .inl (cI, 32, .inl (tm_mC F q Rg Ce))), (aa, .inl (cI, 120, .inl (tm_mA F q Rg Ce Ac kp))), (li, .inr (1, [.ref lf, .int (nI n)])), (lf, .inl (cI, 96, .inl F))]) (va_runU (As := [.int (nI v)]) (rest := []) (C := R_So) ⟨hx, hb, hml, hown, hg⟩ (c_So_doSimple_in l D cI cZ cJ mo li ra ca aa lf Rg Ce Ac F n kp dn en nx q v a b dd (by omega) (by omega) (hv) (ha) (by omega) (hbb) (by omega) (by omega) (by omega) (by omega) (hd) (hdM) s.heap.size) (xg_O (x := ⟨"TwoMachines$Machine", "doSimple", "(I)Z"⟩) (owner := R_Ma) hg m_Ma_doSimple q475 q759 rfl m_Ma_doSimple sx_So_Ma_doSimple ⟨by decide, by decide, by decide +kernel⟩ rfl rfl ⟨Nat.le_of_ble_eq_true rfl, Nat.le_of_ble_eq_true rfl⟩) ⟨xw_blind, (va_recv (q0 := 0) hK.1 hP rfl rfl), xw_pre hK hP hD [0, 1, 2, 3, 4, 5] (by decide) rfl⟩ rfl rfl hl.1 rfl (lv_room (Nat.le_of_ble_eq_true rfl)) d_Ma_step_29 ⟨Nat.zero_le _, Nat.zero_le _⟩) hP hD hS hA [0, 1, 2, 3, 4, 5] [] [0, 1, 2, 3, 4, 5] rfl rfl (by decide) (by decide) rfl (by decide) (fun H locs hP hD hS => ?_)
      refine lv_if_ne (tgt := 41) hx hb d_Ma_step_32 rfl (fun _ => ?_) (fun hz9 => absurd hz9 (by decide))
      refine lv_iload_n hx hb d_Ma_step_41 rfl (lv_at hl 2 rfl) ?_
      refine lv_if_ne (tgt := 56) hx hb d_Ma_step_42 rfl (fun _ => ?_) (fun hz9 => absurd hz9 (xn_ne (w := 0) (by omega) (by decide) (by omega)))
      refine lv_aload_n hx hb d_Ma_step_56 rfl (lv_at hl 1 rfl) ?_
      refine lv_iload_n hx hb d_Ma_step_57 rfl (lv_at hl 2 rfl) ?_
      refine xw_go (w2 := [(mo, .inr (3, [.ref li, .ref ra, .ref ca, .ref aa, .int (nI (tm_dk kp (tm_adr F q Rg))), .int nx, .int dn, .int en, .int (nx + 1)])), (ra, .inl (cI, 8, .inl (tm_mR F q Rg Ce))), (ca, .inl (cI, 32, .inl (tm_mC F q Rg Ce))), (aa, .inl (cI, 120, .inl (tm_mA F q Rg Ce Ac kp))), (li, .inr (1, [.ref lf, .int (nI n)])), (lf, .inl (cI, 96, .inl F))]) (wr := []) (w1 := [(mo, .inr (3, [.ref li, .ref ra, .ref ca, .ref aa, .int (nI (tm_dk kp (tm_adr F q Rg))), .int nx, .int dn, .int en, .int (nx + 1)])), (ra, .inl (cI, 8, .inl (tm_mR F q Rg Ce))), (ca, .inl (cI, 32, .inl (tm_mC F q Rg Ce))), (aa, .inl (cI, 120, .inl (tm_mA F q Rg Ce Ac kp))), (li, .inr (1, [.ref lf, .int (nI n)])), (lf, .inl (cI, 96, .inl F))]) (va_runU (As := [.int (nI v)]) (rest := []) (C := R_So) ⟨hx, hb, hml, hown, hg⟩ (c_So_goOn_s l D cI cZ cJ mo li ra ca aa lf (tm_mR F q Rg Ce) (tm_mC F q Rg Ce) (tm_mA F q Rg Ce Ac kp) F n (tm_dk kp (tm_adr F q Rg)) dn en nx q v (by omega) H.size) (xg_U (x := ⟨"TwoMachines$Machine", "goOn", "(I)V"⟩) (owner := R_Ma) hg m_So_goOn q513 q515 hK.2.2.2.2 q516 ⟨by decide, by decide, by decide +kernel⟩ rfl rfl ⟨Nat.le_of_ble_eq_true rfl, Nat.le_of_ble_eq_true rfl⟩) ⟨xw_blind, (va_recv (q0 := 0) hK.1 hP rfl rfl), xw_pre hK hP hD [0, 1, 2, 3, 4, 5] (by decide) rfl⟩ rfl rfl hl.1 rfl (lv_room (Nat.le_of_ble_eq_true rfl)) d_Ma_step_58 ⟨Nat.zero_le _, Nat.zero_le _⟩) hP hD hS hA [0, 1, 2, 3, 4, 5] [] [0, 1, 2, 3, 4, 5] rfl rfl (by decide) (by decide) rfl (by decide) (fun H locs hP hD hS => ?_)
      refine lv_aload_n hx hb d_Ma_step_61 rfl (lv_at hl 1 rfl) ?_
      refine lv_dup hx hb d_Ma_step_62 rfl ?_
      refine va_get (D := D) (ci := 3) (v := .int dn) (C := R_So) (T := F_So) (N := 9) hx hb hg f_So hown hK.1 hP 0 rfl rfl 6 (by decide) (hg _ q99) (fun _ h9 => h9) rfl d_Ma_step_63 ?_
      refine lv_iconst (v := 1) hx hb d_Ma_step_66 (by decide) ?_
      refine lv_iadd hx hb d_Ma_step_67 ?_
      refine va_put (D := D) (ci := 3) (v := .int (dn + 1)) (ty := .int) (C := R_So) (T := F_So) (N := 9) hx hb hg f_So t_So t_So_ok n_So hown hK.1 hP hD hS 0 rfl rfl 6 (by decide) (hg _ q99) (fun _ h9 => h9) rfl (by decide +kernel) rfl rfl (Nat.le_of_ble_eq_true rfl) d_Ma_step_68 (fun H locs hP hD hS => ?_)
      have hP : va_P D cls [(mo, .inr (3, [.ref li, .ref ra, .ref ca, .ref aa, .int (nI (tm_dk kp (tm_adr F q Rg))), .int nx, .int (dn + 1), .int en, .int (nx + 1)])), (ra, .inl (cI, 8, .inl (tm_mR F q Rg Ce))), (ca, .inl (cI, 32, .inl (tm_mC F q Rg Ce))), (aa, .inl (cI, 120, .inl (tm_mA F q Rg Ce Ac kp))), (li, .inr (1, [.ref lf, .int (nI n)])), (lf, .inl (cI, 96, .inl F))] H := hP
      have hD : va_D A [(mo, .inr (3, [.ref li, .ref ra, .ref ca, .ref aa, .int (nI (tm_dk kp (tm_adr F q Rg))), .int nx, .int (dn + 1), .int en, .int (nx + 1)])), (ra, .inl (cI, 8, .inl (tm_mR F q Rg Ce))), (ca, .inl (cI, 32, .inl (tm_mC F q Rg Ce))), (aa, .inl (cI, 120, .inl (tm_mA F q Rg Ce Ac kp))), (li, .inr (1, [.ref lf, .int (nI n)])), (lf, .inl (cI, 96, .inl F))] := hD
      have ew1 : nI (tm_dk kp (tm_adr F q Rg)) = nI (tm_ss F q (Rg, Ce, Ac, kp, nI q, dn, en, nx)).2.2.2.1 := congrArg nI (by first | (simp [tm_ss, f13, f0, f7, f9, ho]; done) | (simp [tm_ss, f13, f0, f7, f9, ho]; omega) | omega)
      have ew2 : nx = (tm_ss F q (Rg, Ce, Ac, kp, nI q, dn, en, nx)).2.2.2.2.1 := by first | rfl | simp [tm_ss, f13, f0, f7, f9, ho]
      have ew3 : dn + 1 = (tm_ss F q (Rg, Ce, Ac, kp, nI q, dn, en, nx)).2.2.2.2.2.1 := by first | rfl | simp [tm_ss, f13, f0, f7, f9, ho]
      have ew4 : en = (tm_ss F q (Rg, Ce, Ac, kp, nI q, dn, en, nx)).2.2.2.2.2.2.1 := by first | rfl | simp [tm_ss, f13, f0, f7, f9, ho]
      have ew5 : nx + 1 = (tm_ss F q (Rg, Ce, Ac, kp, nI q, dn, en, nx)).2.2.2.2.2.2.2 := by first | rfl | simp [tm_ss, f13, f0, f7, f9, ho]
      have ew6 : tm_mR F q Rg Ce = (tm_ss F q (Rg, Ce, Ac, kp, nI q, dn, en, nx)).1 := by first | rfl | simp [tm_ss, f13, f0, f7, f9, ho]
      have ew7 : tm_mC F q Rg Ce = (tm_ss F q (Rg, Ce, Ac, kp, nI q, dn, en, nx)).2.1 := by first | rfl | simp [tm_ss, f13, f0, f7, f9, ho]
      have ew8 : tm_mA F q Rg Ce Ac kp = (tm_ss F q (Rg, Ce, Ac, kp, nI q, dn, en, nx)).2.2.1 := by first | rfl | simp [tm_ss, f13, f0, f7, f9, ho]
      have hP : va_P D cls [(mo, .inr (3, [.ref li, .ref ra, .ref ca, .ref aa, .int (nI (tm_ss F q (Rg, Ce, Ac, kp, nI q, dn, en, nx)).2.2.2.1), .int ((tm_ss F q (Rg, Ce, Ac, kp, nI q, dn, en, nx)).2.2.2.2.1), .int ((tm_ss F q (Rg, Ce, Ac, kp, nI q, dn, en, nx)).2.2.2.2.2.1), .int ((tm_ss F q (Rg, Ce, Ac, kp, nI q, dn, en, nx)).2.2.2.2.2.2.1), .int ((tm_ss F q (Rg, Ce, Ac, kp, nI q, dn, en, nx)).2.2.2.2.2.2.2)])), (ra, .inl (cI, 8, .inl ((tm_ss F q (Rg, Ce, Ac, kp, nI q, dn, en, nx)).1))), (ca, .inl (cI, 32, .inl ((tm_ss F q (Rg, Ce, Ac, kp, nI q, dn, en, nx)).2.1))), (aa, .inl (cI, 120, .inl ((tm_ss F q (Rg, Ce, Ac, kp, nI q, dn, en, nx)).2.2.1))), (li, .inr (1, [.ref lf, .int (nI n)])), (lf, .inl (cI, 96, .inl F))] H := by rw [← ew1, ← ew2, ← ew3, ← ew4, ← ew5, ← ew6, ← ew7, ← ew8]; exact hP
      have hD : va_D A [(mo, .inr (3, [.ref li, .ref ra, .ref ca, .ref aa, .int (nI (tm_ss F q (Rg, Ce, Ac, kp, nI q, dn, en, nx)).2.2.2.1), .int ((tm_ss F q (Rg, Ce, Ac, kp, nI q, dn, en, nx)).2.2.2.2.1), .int ((tm_ss F q (Rg, Ce, Ac, kp, nI q, dn, en, nx)).2.2.2.2.2.1), .int ((tm_ss F q (Rg, Ce, Ac, kp, nI q, dn, en, nx)).2.2.2.2.2.2.1), .int ((tm_ss F q (Rg, Ce, Ac, kp, nI q, dn, en, nx)).2.2.2.2.2.2.2)])), (ra, .inl (cI, 8, .inl ((tm_ss F q (Rg, Ce, Ac, kp, nI q, dn, en, nx)).1))), (ca, .inl (cI, 32, .inl ((tm_ss F q (Rg, Ce, Ac, kp, nI q, dn, en, nx)).2.1))), (aa, .inl (cI, 120, .inl ((tm_ss F q (Rg, Ce, Ac, kp, nI q, dn, en, nx)).2.2.1))), (li, .inr (1, [.ref lf, .int (nI n)])), (lf, .inl (cI, 96, .inl F))] := by rw [← ew1, ← ew2, ← ew3, ← ew4, ← ew5, ← ew6, ← ew7, ← ew8]; exact hD
      exact W.vret hx hb hr (fun t9 ht9 hW9 => ⟨⟨(), rfl, trivial, by rw [ht9]; exact hP, hD⟩, hS.F ht9⟩) hS.2.2 d_Ma_step_71
  · have f13 : ¬ 13 < F (4 * q) := by rw [hv]; exact nI_nlt (a := 13) (b := v) (by omega) (by decide)
    have f0 : ¬ F (4 * q) = 0 := by rw [hv]; exact xn_ne (w := 0) (by omega) (by decide) (by omega)
    have f7 : ¬ F (4 * q) < 7 := by rw [hv]; exact nI_nlt (a := v) (b := 7) (by omega) (by omega)
    have f9 : ¬ F (4 * q) < 9 := by rw [hv]; exact nI_nlt (a := v) (b := 9) (by omega) (by omega)
    refine lv_iload_n hx hb d_Ma_step_0 rfl (lv_at hl 1 rfl) ?_
    refine lv_iconst (v := 1) hx hb d_Ma_step_1 (by decide) ?_
    refine lv_icmp_lt (tgt := 15) hx hb d_Ma_step_2 rfl (fun hz9 => absurd hz9 (nI_nlt (a := v) (b := 1) (by omega) (by omega))) (fun _ => ?_)
    refine lv_iload_n hx hb d_Ma_step_5 rfl (lv_at hl 1 rfl) ?_
    refine lv_bipush (v := 9) hx hb d_Ma_step_6 (by decide) ?_
    refine lv_icmp_ge (tgt := 15) hx hb d_Ma_step_8 rfl (fun _ => ?_) (fun hz9 => absurd (nI_le (a := 9) (b := v) (by omega) (by omega)) hz9)
    refine lv_iconst (v := 0) hx hb d_Ma_step_15 (by decide) ?_
    refine lv_istore_n hx hb d_Ma_step_16 rfl hl (by decide) rfl (fun ls hl => ?_)
    have hl : lv_has ls 3 [(2, .int 0), (0, .ref mo), (1, .int (nI v))] := hl
    refine lv_iload_n hx hb d_Ma_step_17 rfl (lv_at hl 2 rfl) ?_
    refine lv_bipush (v := 13) hx hb d_Ma_step_18 (by decide) ?_
    refine lv_icmp_gt (tgt := 35) hx hb d_Ma_step_20 rfl (fun hz9 => absurd hz9 (nI_nlt (a := 13) (b := v) (by omega) (by decide))) (fun _ => ?_)
    refine lv_iload_n hx hb d_Ma_step_23 rfl (lv_at hl 0 rfl) ?_
    refine lv_if_eq (tgt := 41) hx hb d_Ma_step_24 rfl (fun _ => ?_) (fun hz9 => absurd (by decide) hz9)
    refine lv_iload_n hx hb d_Ma_step_41 rfl (lv_at hl 2 rfl) ?_
    refine lv_if_ne (tgt := 56) hx hb d_Ma_step_42 rfl (fun _ => ?_) (fun hz9 => absurd hz9 (xn_ne (w := 0) (by omega) (by decide) (by omega)))
    refine lv_aload_n hx hb d_Ma_step_56 rfl (lv_at hl 1 rfl) ?_
    refine lv_iload_n hx hb d_Ma_step_57 rfl (lv_at hl 2 rfl) ?_
    refine xw_go (w2 := [(mo, .inr (3, [.ref li, .ref ra, .ref ca, .ref aa, .int (nI kp), .int nx, .int dn, .int en, .int (tm_sb F q Rg nx)])), (ra, .inl (cI, 8, .inl (if F (4 * q) = 12 then tm_set Rg 7 (nI (q + 2)) else Rg))), (ca, .inl (cI, 32, .inl Ce)), (aa, .inl (cI, 120, .inl Ac)), (li, .inr (1, [.ref lf, .int (nI n)])), (lf, .inl (cI, 96, .inl F))]) (wr := []) (w1 := [(mo, .inr (3, [.ref li, .ref ra, .ref ca, .ref aa, .int (nI kp), .int nx, .int dn, .int en, .int (tm_sb F q Rg nx)])), (ra, .inl (cI, 8, .inl (if F (4 * q) = 12 then tm_set Rg 7 (nI (q + 2)) else Rg))), (ca, .inl (cI, 32, .inl Ce)), (aa, .inl (cI, 120, .inl Ac)), (li, .inr (1, [.ref lf, .int (nI n)])), (lf, .inl (cI, 96, .inl F))]) (va_runU (As := [.int (nI v)]) (rest := []) (C := R_So) ⟨hx, hb, hml, hown, hg⟩ (c_So_goOn_b l D cI cZ cJ mo li ra ca aa lf Rg Ce Ac F n kp dn en nx q v a b (by omega) (by omega) (hv) (ha) (by omega) (hbb) (by omega) (by omega) (by omega) s.heap.size) (xg_U (x := ⟨"TwoMachines$Machine", "goOn", "(I)V"⟩) (owner := R_Ma) hg m_So_goOn q513 q515 hK.2.2.2.2 q516 ⟨by decide, by decide, by decide +kernel⟩ rfl rfl ⟨Nat.le_of_ble_eq_true rfl, Nat.le_of_ble_eq_true rfl⟩) ⟨xw_blind, (va_recv (q0 := 0) hK.1 hP rfl rfl), xw_pre hK hP hD [0, 1, 2, 3, 4, 5] (by decide) rfl⟩ rfl rfl hl.1 rfl (lv_room (Nat.le_of_ble_eq_true rfl)) d_Ma_step_58 ⟨Nat.zero_le _, Nat.zero_le _⟩) hP hD hS hA [0, 1, 2, 3, 4, 5] [] [0, 1, 2, 3, 4, 5] rfl rfl (by decide) (by decide) rfl (by decide) (fun H locs hP hD hS => ?_)
    refine lv_aload_n hx hb d_Ma_step_61 rfl (lv_at hl 1 rfl) ?_
    refine lv_dup hx hb d_Ma_step_62 rfl ?_
    refine va_get (D := D) (ci := 3) (v := .int dn) (C := R_So) (T := F_So) (N := 9) hx hb hg f_So hown hK.1 hP 0 rfl rfl 6 (by decide) (hg _ q99) (fun _ h9 => h9) rfl d_Ma_step_63 ?_
    refine lv_iconst (v := 1) hx hb d_Ma_step_66 (by decide) ?_
    refine lv_iadd hx hb d_Ma_step_67 ?_
    refine va_put (D := D) (ci := 3) (v := .int (dn + 1)) (ty := .int) (C := R_So) (T := F_So) (N := 9) hx hb hg f_So t_So t_So_ok n_So hown hK.1 hP hD hS 0 rfl rfl 6 (by decide) (hg _ q99) (fun _ h9 => h9) rfl (by decide +kernel) rfl rfl (Nat.le_of_ble_eq_true rfl) d_Ma_step_68 (fun H locs hP hD hS => ?_)
    have hP : va_P D cls [(mo, .inr (3, [.ref li, .ref ra, .ref ca, .ref aa, .int (nI kp), .int nx, .int (dn + 1), .int en, .int (tm_sb F q Rg nx)])), (ra, .inl (cI, 8, .inl (if F (4 * q) = 12 then tm_set Rg 7 (nI (q + 2)) else Rg))), (ca, .inl (cI, 32, .inl Ce)), (aa, .inl (cI, 120, .inl Ac)), (li, .inr (1, [.ref lf, .int (nI n)])), (lf, .inl (cI, 96, .inl F))] H := hP
    have hD : va_D A [(mo, .inr (3, [.ref li, .ref ra, .ref ca, .ref aa, .int (nI kp), .int nx, .int (dn + 1), .int en, .int (tm_sb F q Rg nx)])), (ra, .inl (cI, 8, .inl (if F (4 * q) = 12 then tm_set Rg 7 (nI (q + 2)) else Rg))), (ca, .inl (cI, 32, .inl Ce)), (aa, .inl (cI, 120, .inl Ac)), (li, .inr (1, [.ref lf, .int (nI n)])), (lf, .inl (cI, 96, .inl F))] := hD
    have ew1 : nI kp = nI (tm_ss F q (Rg, Ce, Ac, kp, nI q, dn, en, nx)).2.2.2.1 := congrArg nI (by first | (simp [tm_ss, f13, f0, f7, f9]; done) | (simp [tm_ss, f13, f0, f7, f9]; omega) | omega)
    have ew2 : nx = (tm_ss F q (Rg, Ce, Ac, kp, nI q, dn, en, nx)).2.2.2.2.1 := by first | rfl | simp [tm_ss, f13, f0, f7, f9]
    have ew3 : dn + 1 = (tm_ss F q (Rg, Ce, Ac, kp, nI q, dn, en, nx)).2.2.2.2.2.1 := by first | rfl | simp [tm_ss, f13, f0, f7, f9]
    have ew4 : en = (tm_ss F q (Rg, Ce, Ac, kp, nI q, dn, en, nx)).2.2.2.2.2.2.1 := by first | rfl | simp [tm_ss, f13, f0, f7, f9]
    have ew5 : tm_sb F q Rg nx = (tm_ss F q (Rg, Ce, Ac, kp, nI q, dn, en, nx)).2.2.2.2.2.2.2 := by first | rfl | simp [tm_ss, f13, f0, f7, f9]
    have ew6 : (if F (4 * q) = 12 then tm_set Rg 7 (nI (q + 2)) else Rg) = (tm_ss F q (Rg, Ce, Ac, kp, nI q, dn, en, nx)).1 := by first | rfl | simp [tm_ss, f13, f0, f7, f9]
    have ew7 : Ce = (tm_ss F q (Rg, Ce, Ac, kp, nI q, dn, en, nx)).2.1 := by first | rfl | simp [tm_ss, f13, f0, f7, f9]
    have ew8 : Ac = (tm_ss F q (Rg, Ce, Ac, kp, nI q, dn, en, nx)).2.2.1 := by first | rfl | simp [tm_ss, f13, f0, f7, f9]
    have hP : va_P D cls [(mo, .inr (3, [.ref li, .ref ra, .ref ca, .ref aa, .int (nI (tm_ss F q (Rg, Ce, Ac, kp, nI q, dn, en, nx)).2.2.2.1), .int ((tm_ss F q (Rg, Ce, Ac, kp, nI q, dn, en, nx)).2.2.2.2.1), .int ((tm_ss F q (Rg, Ce, Ac, kp, nI q, dn, en, nx)).2.2.2.2.2.1), .int ((tm_ss F q (Rg, Ce, Ac, kp, nI q, dn, en, nx)).2.2.2.2.2.2.1), .int ((tm_ss F q (Rg, Ce, Ac, kp, nI q, dn, en, nx)).2.2.2.2.2.2.2)])), (ra, .inl (cI, 8, .inl ((tm_ss F q (Rg, Ce, Ac, kp, nI q, dn, en, nx)).1))), (ca, .inl (cI, 32, .inl ((tm_ss F q (Rg, Ce, Ac, kp, nI q, dn, en, nx)).2.1))), (aa, .inl (cI, 120, .inl ((tm_ss F q (Rg, Ce, Ac, kp, nI q, dn, en, nx)).2.2.1))), (li, .inr (1, [.ref lf, .int (nI n)])), (lf, .inl (cI, 96, .inl F))] H := by rw [← ew1, ← ew2, ← ew3, ← ew4, ← ew5, ← ew6, ← ew7, ← ew8]; exact hP
    have hD : va_D A [(mo, .inr (3, [.ref li, .ref ra, .ref ca, .ref aa, .int (nI (tm_ss F q (Rg, Ce, Ac, kp, nI q, dn, en, nx)).2.2.2.1), .int ((tm_ss F q (Rg, Ce, Ac, kp, nI q, dn, en, nx)).2.2.2.2.1), .int ((tm_ss F q (Rg, Ce, Ac, kp, nI q, dn, en, nx)).2.2.2.2.2.1), .int ((tm_ss F q (Rg, Ce, Ac, kp, nI q, dn, en, nx)).2.2.2.2.2.2.1), .int ((tm_ss F q (Rg, Ce, Ac, kp, nI q, dn, en, nx)).2.2.2.2.2.2.2)])), (ra, .inl (cI, 8, .inl ((tm_ss F q (Rg, Ce, Ac, kp, nI q, dn, en, nx)).1))), (ca, .inl (cI, 32, .inl ((tm_ss F q (Rg, Ce, Ac, kp, nI q, dn, en, nx)).2.1))), (aa, .inl (cI, 120, .inl ((tm_ss F q (Rg, Ce, Ac, kp, nI q, dn, en, nx)).2.2.1))), (li, .inr (1, [.ref lf, .int (nI n)])), (lf, .inl (cI, 96, .inl F))] := by rw [← ew1, ← ew2, ← ew3, ← ew4, ← ew5, ← ew6, ← ew7, ← ew8]; exact hD
    exact W.vret hx hb hr (fun t9 ht9 hW9 => ⟨⟨(), rfl, trivial, by rw [ht9]; exact hP, hD⟩, hS.F ht9⟩) hS.2.2 d_Ma_step_71

set_option maxHeartbeats 4000000 in
set_option maxRecDepth 100000 in
theorem c_Ta_step (l : Launch) (D : va_G) (cI cZ cJ : ClassId) (mo li ra ca aa lf tr : Nat) (Rg Ce Ac F : Nat → Int32) (n kp : Nat) (dn en nx : Int32) (q v a b : Nat) (hn : n ≤ 217) (hq : q < n) (hv : F (4 * q) = nI v) (ha : F (4 * q + 1) = nI a) (ha8 : a < 8) (hbb : F (4 * q + 2) = nI b) (hb8 : b < 8) (hv15 : v ≤ 15) (hkp : kp ≤ 40) : xw_Met l y_Ma_step b_Ma_step 3 none { frames := 4, cells := 0, slots := 0, locals := 88 } [.ref mo, .int (nI v)] D cls (tyL cI cZ cJ) [(mo, .inr (4, [.ref li, .ref ra, .ref ca, .ref aa, .int (nI kp), .int (nI q), .int dn, .int en, .ref tr])), (ra, .inl (cI, 8, .inl Rg)), (ca, .inl (cI, 64, .inl Ce)), (aa, .inl (cI, 120, .inl Ac)), (li, .inr (1, [.ref lf, .int (nI n)])), (lf, .inl (cI, 868, .inl F))] [(mo, .inr (4, [.ref li, .ref ra, .ref ca, .ref aa, .int (nI (tm_ts F q (Rg, Ce, Ac, kp, nI q, dn, en, nx)).2.2.2.1), .int ((tm_ts F q (Rg, Ce, Ac, kp, nI q, dn, en, nx)).2.2.2.2.1), .int ((tm_ts F q (Rg, Ce, Ac, kp, nI q, dn, en, nx)).2.2.2.2.2.1), .int ((tm_ts F q (Rg, Ce, Ac, kp, nI q, dn, en, nx)).2.2.2.2.2.2.1), .ref tr])), (ra, .inl (cI, 8, .inl ((tm_ts F q (Rg, Ce, Ac, kp, nI q, dn, en, nx)).1))), (ca, .inl (cI, 64, .inl ((tm_ts F q (Rg, Ce, Ac, kp, nI q, dn, en, nx)).2.1))), (aa, .inl (cI, 120, .inl ((tm_ts F q (Rg, Ce, Ac, kp, nI q, dn, en, nx)).2.2.1))), (li, .inr (1, [.ref lf, .int (nI n)])), (lf, .inl (cI, 868, .inl F))] := by
  intro sz
  refine Met.ofW (cc := b_Ma_step) (maxL := 3) (ret := none) (by decide) rfl ?_
  intro p e s m args below meth c s₁ B0 hml hv
  obtain ⟨rfl, hsz, hP, hK, hD0⟩ := hv
  have hx := B0.exec
  have hb := B0.bytes
  have hr := B0.returns
  have hlocks := B0.notSynchronized
  have hg : ∀ w ∈ gG, w.before _ s = true := fun w h => atoms_spec B0.pre w (List.mem_cons_of_mem _ h)
  have hown : s.vm.findClass R_Ma = some m.cls := findClass_of_methodNamed B0.named
  subst hsz
  have hD := hD0.self (sz := s.heap.size)
  generalize hAe : va_A [(mo, .inr (4, [.ref li, .ref ra, .ref ca, .ref aa, .int (nI kp), .int (nI q), .int dn, .int en, .ref tr])), (ra, .inl (cI, 8, .inl Rg)), (ca, .inl (cI, 64, .inl Ce)), (aa, .inl (cI, 120, .inl Ac)), (li, .inr (1, [.ref lf, .int (nI n)])), (lf, .inl (cI, 868, .inl F))] s.heap.size = A at hD ⊢
  have hA : ∀ q : Nat, s.heap.size ≤ q → A q := fun q h => by rw [← hAe]; exact Or.inr h
  have hS : va_S A s.heap s.heap [] := va_S.rf
  have hP : va_P D cls [(mo, .inr (4, [.ref li, .ref ra, .ref ca, .ref aa, .int (nI kp), .int (nI q), .int dn, .int en, .ref tr])), (ra, .inl (cI, 8, .inl Rg)), (ca, .inl (cI, 64, .inl Ce)), (aa, .inl (cI, 120, .inl Ac)), (li, .inr (1, [.ref lf, .int (nI n)])), (lf, .inl (cI, 868, .inl F))] s.heap := hP
  have hl := lv_entry ([.ref mo, .int (nI v)]) (n := 3) (Nat.le_of_ble_eq_true rfl)
  rw [lg_entry_eq]
  generalize (lg_sl ([.ref mo, .int (nI v)]) ++ List.replicate (3 - (lg_sl ([.ref mo, .int (nI v)])).length) Slot.unset).toArray = ls at hl ⊢
  have hl : lv_has ls 3 [(0, .ref mo), (1, .int (nI v))] := hl
  rcases (show 14 ≤ v ∨ v = 0 ∨ (1 ≤ v ∧ v ≤ 6) ∨ (7 ≤ v ∧ v ≤ 8) ∨ (9 ≤ v ∧ v ≤ 13) by omega) with e0 | e0 | e0 | e0 | e0
  · have f13 : 13 < F (4 * q) := by rw [hv]; exact nI_lt (a := 13) (b := v) (by omega) (by omega)
    refine lv_iload_n hx hb d_Ma_step_0 rfl (lv_at hl 1 rfl) ?_
    refine lv_iconst (v := 1) hx hb d_Ma_step_1 (by decide) ?_
    refine lv_icmp_lt (tgt := 15) hx hb d_Ma_step_2 rfl (fun hz9 => absurd hz9 (nI_nlt (a := v) (b := 1) (by omega) (by omega))) (fun _ => ?_)
    refine lv_iload_n hx hb d_Ma_step_5 rfl (lv_at hl 1 rfl) ?_
    refine lv_bipush (v := 9) hx hb d_Ma_step_6 (by decide) ?_
    refine lv_icmp_ge (tgt := 15) hx hb d_Ma_step_8 rfl (fun _ => ?_) (fun hz9 => absurd (nI_le (a := 9) (b := v) (by omega) (by omega)) hz9)
    refine lv_iconst (v := 0) hx hb d_Ma_step_15 (by decide) ?_
    refine lv_istore_n hx hb d_Ma_step_16 rfl hl (by decide) rfl (fun ls hl => ?_)
    have hl : lv_has ls 3 [(2, .int 0), (0, .ref mo), (1, .int (nI v))] := hl
    refine lv_iload_n hx hb d_Ma_step_17 rfl (lv_at hl 2 rfl) ?_
    refine lv_bipush (v := 13) hx hb d_Ma_step_18 (by decide) ?_
    refine lv_icmp_gt (tgt := 35) hx hb d_Ma_step_20 rfl (fun _ => ?_) (fun hz9 => absurd (nI_lt (a := 13) (b := v) (by omega) (by omega)) hz9)
    refine lv_aload_n hx hb d_Ma_step_35 rfl (lv_at hl 1 rfl) ?_
    refine lv_iconst (v := 2) hx hb d_Ma_step_36 (by decide) ?_
    refine va_put (D := D) (ci := 4) (v := .int 2) (ty := .int) (C := R_Ta) (T := F_Ta) (N := 9) hx hb hg f_Ta t_Ta t_Ta_ok n_Ta hown hK.1 hP hD hS 0 rfl rfl 7 (by decide) (hg _ q101) (fun _ h9 => h9) rfl (by decide +kernel) rfl rfl (Nat.le_of_ble_eq_true rfl) d_Ma_step_37 (fun H locs hP hD hS => ?_)
    have hP : va_P D cls [(mo, .inr (4, [.ref li, .ref ra, .ref ca, .ref aa, .int (nI kp), .int (nI q), .int dn, .int 2, .ref tr])), (ra, .inl (cI, 8, .inl Rg)), (ca, .inl (cI, 64, .inl Ce)), (aa, .inl (cI, 120, .inl Ac)), (li, .inr (1, [.ref lf, .int (nI n)])), (lf, .inl (cI, 868, .inl F))] H := hP
    have hD : va_D A [(mo, .inr (4, [.ref li, .ref ra, .ref ca, .ref aa, .int (nI kp), .int (nI q), .int dn, .int 2, .ref tr])), (ra, .inl (cI, 8, .inl Rg)), (ca, .inl (cI, 64, .inl Ce)), (aa, .inl (cI, 120, .inl Ac)), (li, .inr (1, [.ref lf, .int (nI n)])), (lf, .inl (cI, 868, .inl F))] := hD
    have ew1 : nI kp = nI (tm_ts F q (Rg, Ce, Ac, kp, nI q, dn, en, nx)).2.2.2.1 := congrArg nI (by first | (simp [tm_ts, f13]; done) | (simp [tm_ts, f13]; omega) | omega)
    have ew2 : nI q = (tm_ts F q (Rg, Ce, Ac, kp, nI q, dn, en, nx)).2.2.2.2.1 := by first | rfl | simp [tm_ts, f13]
    have ew3 : dn = (tm_ts F q (Rg, Ce, Ac, kp, nI q, dn, en, nx)).2.2.2.2.2.1 := by first | rfl | simp [tm_ts, f13]
    have ew4 : 2 = (tm_ts F q (Rg, Ce, Ac, kp, nI q, dn, en, nx)).2.2.2.2.2.2.1 := by first | rfl | simp [tm_ts, f13]
    have ew5 : Rg = (tm_ts F q (Rg, Ce, Ac, kp, nI q, dn, en, nx)).1 := by first | rfl | simp [tm_ts, f13]
    have ew6 : Ce = (tm_ts F q (Rg, Ce, Ac, kp, nI q, dn, en, nx)).2.1 := by first | rfl | simp [tm_ts, f13]
    have ew7 : Ac = (tm_ts F q (Rg, Ce, Ac, kp, nI q, dn, en, nx)).2.2.1 := by first | rfl | simp [tm_ts, f13]
    have hP : va_P D cls [(mo, .inr (4, [.ref li, .ref ra, .ref ca, .ref aa, .int (nI (tm_ts F q (Rg, Ce, Ac, kp, nI q, dn, en, nx)).2.2.2.1), .int ((tm_ts F q (Rg, Ce, Ac, kp, nI q, dn, en, nx)).2.2.2.2.1), .int ((tm_ts F q (Rg, Ce, Ac, kp, nI q, dn, en, nx)).2.2.2.2.2.1), .int ((tm_ts F q (Rg, Ce, Ac, kp, nI q, dn, en, nx)).2.2.2.2.2.2.1), .ref tr])), (ra, .inl (cI, 8, .inl ((tm_ts F q (Rg, Ce, Ac, kp, nI q, dn, en, nx)).1))), (ca, .inl (cI, 64, .inl ((tm_ts F q (Rg, Ce, Ac, kp, nI q, dn, en, nx)).2.1))), (aa, .inl (cI, 120, .inl ((tm_ts F q (Rg, Ce, Ac, kp, nI q, dn, en, nx)).2.2.1))), (li, .inr (1, [.ref lf, .int (nI n)])), (lf, .inl (cI, 868, .inl F))] H := by rw [← ew1, ← ew2, ← ew3, ← ew4, ← ew5, ← ew6, ← ew7]; exact hP
    have hD : va_D A [(mo, .inr (4, [.ref li, .ref ra, .ref ca, .ref aa, .int (nI (tm_ts F q (Rg, Ce, Ac, kp, nI q, dn, en, nx)).2.2.2.1), .int ((tm_ts F q (Rg, Ce, Ac, kp, nI q, dn, en, nx)).2.2.2.2.1), .int ((tm_ts F q (Rg, Ce, Ac, kp, nI q, dn, en, nx)).2.2.2.2.2.1), .int ((tm_ts F q (Rg, Ce, Ac, kp, nI q, dn, en, nx)).2.2.2.2.2.2.1), .ref tr])), (ra, .inl (cI, 8, .inl ((tm_ts F q (Rg, Ce, Ac, kp, nI q, dn, en, nx)).1))), (ca, .inl (cI, 64, .inl ((tm_ts F q (Rg, Ce, Ac, kp, nI q, dn, en, nx)).2.1))), (aa, .inl (cI, 120, .inl ((tm_ts F q (Rg, Ce, Ac, kp, nI q, dn, en, nx)).2.2.1))), (li, .inr (1, [.ref lf, .int (nI n)])), (lf, .inl (cI, 868, .inl F))] := by rw [← ew1, ← ew2, ← ew3, ← ew4, ← ew5, ← ew6, ← ew7]; exact hD
    exact W.vret hx hb hr (fun t9 ht9 hW9 => ⟨⟨(), rfl, trivial, by rw [ht9]; exact hP, hD⟩, hS.F ht9⟩) hS.2.2 d_Ma_step_40
  · subst e0
    have f13 : ¬ 13 < F (4 * q) := by rw [hv]; exact nI_nlt (a := 13) (b := 0) (by decide) (by decide)
    have f0 : F (4 * q) = 0 := hv
    have hl : lv_has ls 3 [(0, .ref mo), (1, .int (nI 0))] := hl
    refine lv_iload_n hx hb d_Ma_step_0 rfl (lv_at hl 1 rfl) ?_
    refine lv_iconst (v := 1) hx hb d_Ma_step_1 (by decide) ?_
    refine lv_icmp_lt (tgt := 15) hx hb d_Ma_step_2 rfl (fun _ => ?_) (fun hz9 => absurd (nI_lt (a := 0) (b := 1) (by decide) (by decide)) hz9)
    refine lv_iconst (v := 0) hx hb d_Ma_step_15 (by decide) ?_
    refine lv_istore_n hx hb d_Ma_step_16 rfl hl (by decide) rfl (fun ls hl => ?_)
    have hl : lv_has ls 3 [(2, .int 0), (0, .ref mo), (1, .int (nI 0))] := hl
    refine lv_iload_n hx hb d_Ma_step_17 rfl (lv_at hl 2 rfl) ?_
    refine lv_bipush (v := 13) hx hb d_Ma_step_18 (by decide) ?_
    refine lv_icmp_gt (tgt := 35) hx hb d_Ma_step_20 rfl (fun hz9 => absurd hz9 (nI_nlt (a := 13) (b := 0) (by decide) (by decide))) (fun _ => ?_)
    refine lv_iload_n hx hb d_Ma_step_23 rfl (lv_at hl 0 rfl) ?_
    refine lv_if_eq (tgt := 41) hx hb d_Ma_step_24 rfl (fun _ => ?_) (fun hz9 => absurd (by decide) hz9)
    refine lv_iload_n hx hb d_Ma_step_41 rfl (lv_at hl 2 rfl) ?_
    refine lv_if_ne (tgt := 56) hx hb d_Ma_step_42 rfl (fun hz9 => absurd (rfl) hz9) (fun _ => ?_)
    refine lv_aload_n hx hb d_Ma_step_45 rfl (lv_at hl 1 rfl) ?_
    refine lv_aload_n hx hb d_Ma_step_46 rfl (lv_at hl 1 rfl) ?_
    refine xr_U (C := R_Ta) (As := []) (rest := [.ref mo]) ⟨hx, hb, hml, hown, hg⟩ (c_Ta_howItStops l D cI cZ cJ mo li ra ca aa lf tr Rg Ce Ac F n kp dn en q (by omega) (by omega)) (xg_U (x := ⟨"TwoMachines$Machine", "howItStops", "()I"⟩) (owner := R_Ma) hg m_Ta_howItStops q503 q505 hK.2.2.2.1 q509 ⟨by decide, by decide, by decide +kernel⟩ rfl rfl ⟨Nat.le_of_ble_eq_true rfl, Nat.le_of_ble_eq_true rfl⟩) hK hP [0, 1, 2, 3, 4, 5] rfl (va_recv (q0 := 0) hK.1 hP rfl rfl) rfl hl.1 rfl (Nat.le_of_ble_eq_true rfl) d_Ma_step_47 ⟨Nat.zero_le _, Nat.zero_le _⟩ ?_
    refine va_put (D := D) (ci := 4) (v := .int (if F (4 * q + 3) = 0 then 1 else 2)) (ty := .int) (C := R_Ta) (T := F_Ta) (N := 9) hx hb hg f_Ta t_Ta t_Ta_ok n_Ta hown hK.1 hP hD hS 0 rfl rfl 7 (by decide) (hg _ q101) (fun _ h9 => h9) rfl (by decide +kernel) rfl rfl (Nat.le_of_ble_eq_true rfl) d_Ma_step_50 (fun H locs hP hD hS => ?_)
    have hP : va_P D cls [(mo, .inr (4, [.ref li, .ref ra, .ref ca, .ref aa, .int (nI kp), .int (nI q), .int dn, .int (if F (4 * q + 3) = 0 then 1 else 2), .ref tr])), (ra, .inl (cI, 8, .inl Rg)), (ca, .inl (cI, 64, .inl Ce)), (aa, .inl (cI, 120, .inl Ac)), (li, .inr (1, [.ref lf, .int (nI n)])), (lf, .inl (cI, 868, .inl F))] H := hP
    have hD : va_D A [(mo, .inr (4, [.ref li, .ref ra, .ref ca, .ref aa, .int (nI kp), .int (nI q), .int dn, .int (if F (4 * q + 3) = 0 then 1 else 2), .ref tr])), (ra, .inl (cI, 8, .inl Rg)), (ca, .inl (cI, 64, .inl Ce)), (aa, .inl (cI, 120, .inl Ac)), (li, .inr (1, [.ref lf, .int (nI n)])), (lf, .inl (cI, 868, .inl F))] := hD
    refine lv_goto (tgt := 61) hx hb d_Ma_step_53 rfl ?_
    refine lv_aload_n hx hb d_Ma_step_61 rfl (lv_at hl 1 rfl) ?_
    refine lv_dup hx hb d_Ma_step_62 rfl ?_
    refine va_get (D := D) (ci := 4) (v := .int dn) (C := R_Ta) (T := F_Ta) (N := 9) hx hb hg f_Ta hown hK.1 hP 0 rfl rfl 6 (by decide) (hg _ q99) (fun _ h9 => h9) rfl d_Ma_step_63 ?_
    refine lv_iconst (v := 1) hx hb d_Ma_step_66 (by decide) ?_
    refine lv_iadd hx hb d_Ma_step_67 ?_
    refine va_put (D := D) (ci := 4) (v := .int (dn + 1)) (ty := .int) (C := R_Ta) (T := F_Ta) (N := 9) hx hb hg f_Ta t_Ta t_Ta_ok n_Ta hown hK.1 hP hD hS 0 rfl rfl 6 (by decide) (hg _ q99) (fun _ h9 => h9) rfl (by decide +kernel) rfl rfl (Nat.le_of_ble_eq_true rfl) d_Ma_step_68 (fun H locs hP hD hS => ?_)
    have hP : va_P D cls [(mo, .inr (4, [.ref li, .ref ra, .ref ca, .ref aa, .int (nI kp), .int (nI q), .int (dn + 1), .int (if F (4 * q + 3) = 0 then 1 else 2), .ref tr])), (ra, .inl (cI, 8, .inl Rg)), (ca, .inl (cI, 64, .inl Ce)), (aa, .inl (cI, 120, .inl Ac)), (li, .inr (1, [.ref lf, .int (nI n)])), (lf, .inl (cI, 868, .inl F))] H := hP
    have hD : va_D A [(mo, .inr (4, [.ref li, .ref ra, .ref ca, .ref aa, .int (nI kp), .int (nI q), .int (dn + 1), .int (if F (4 * q + 3) = 0 then 1 else 2), .ref tr])), (ra, .inl (cI, 8, .inl Rg)), (ca, .inl (cI, 64, .inl Ce)), (aa, .inl (cI, 120, .inl Ac)), (li, .inr (1, [.ref lf, .int (nI n)])), (lf, .inl (cI, 868, .inl F))] := hD
    have ew1 : nI kp = nI (tm_ts F q (Rg, Ce, Ac, kp, nI q, dn, en, nx)).2.2.2.1 := congrArg nI (by first | (simp [tm_ts, f13, f0]; done) | (simp [tm_ts, f13, f0]; omega) | omega)
    have ew2 : nI q = (tm_ts F q (Rg, Ce, Ac, kp, nI q, dn, en, nx)).2.2.2.2.1 := by first | rfl | simp [tm_ts, f13, f0]
    have ew3 : dn + 1 = (tm_ts F q (Rg, Ce, Ac, kp, nI q, dn, en, nx)).2.2.2.2.2.1 := by first | rfl | simp [tm_ts, f13, f0]
    have ew4 : (if F (4 * q + 3) = 0 then 1 else 2) = (tm_ts F q (Rg, Ce, Ac, kp, nI q, dn, en, nx)).2.2.2.2.2.2.1 := by first | rfl | simp [tm_ts, f13, f0]
    have ew5 : Rg = (tm_ts F q (Rg, Ce, Ac, kp, nI q, dn, en, nx)).1 := by first | rfl | simp [tm_ts, f13, f0]
    have ew6 : Ce = (tm_ts F q (Rg, Ce, Ac, kp, nI q, dn, en, nx)).2.1 := by first | rfl | simp [tm_ts, f13, f0]
    have ew7 : Ac = (tm_ts F q (Rg, Ce, Ac, kp, nI q, dn, en, nx)).2.2.1 := by first | rfl | simp [tm_ts, f13, f0]
    have hP : va_P D cls [(mo, .inr (4, [.ref li, .ref ra, .ref ca, .ref aa, .int (nI (tm_ts F q (Rg, Ce, Ac, kp, nI q, dn, en, nx)).2.2.2.1), .int ((tm_ts F q (Rg, Ce, Ac, kp, nI q, dn, en, nx)).2.2.2.2.1), .int ((tm_ts F q (Rg, Ce, Ac, kp, nI q, dn, en, nx)).2.2.2.2.2.1), .int ((tm_ts F q (Rg, Ce, Ac, kp, nI q, dn, en, nx)).2.2.2.2.2.2.1), .ref tr])), (ra, .inl (cI, 8, .inl ((tm_ts F q (Rg, Ce, Ac, kp, nI q, dn, en, nx)).1))), (ca, .inl (cI, 64, .inl ((tm_ts F q (Rg, Ce, Ac, kp, nI q, dn, en, nx)).2.1))), (aa, .inl (cI, 120, .inl ((tm_ts F q (Rg, Ce, Ac, kp, nI q, dn, en, nx)).2.2.1))), (li, .inr (1, [.ref lf, .int (nI n)])), (lf, .inl (cI, 868, .inl F))] H := by rw [← ew1, ← ew2, ← ew3, ← ew4, ← ew5, ← ew6, ← ew7]; exact hP
    have hD : va_D A [(mo, .inr (4, [.ref li, .ref ra, .ref ca, .ref aa, .int (nI (tm_ts F q (Rg, Ce, Ac, kp, nI q, dn, en, nx)).2.2.2.1), .int ((tm_ts F q (Rg, Ce, Ac, kp, nI q, dn, en, nx)).2.2.2.2.1), .int ((tm_ts F q (Rg, Ce, Ac, kp, nI q, dn, en, nx)).2.2.2.2.2.1), .int ((tm_ts F q (Rg, Ce, Ac, kp, nI q, dn, en, nx)).2.2.2.2.2.2.1), .ref tr])), (ra, .inl (cI, 8, .inl ((tm_ts F q (Rg, Ce, Ac, kp, nI q, dn, en, nx)).1))), (ca, .inl (cI, 64, .inl ((tm_ts F q (Rg, Ce, Ac, kp, nI q, dn, en, nx)).2.1))), (aa, .inl (cI, 120, .inl ((tm_ts F q (Rg, Ce, Ac, kp, nI q, dn, en, nx)).2.2.1))), (li, .inr (1, [.ref lf, .int (nI n)])), (lf, .inl (cI, 868, .inl F))] := by rw [← ew1, ← ew2, ← ew3, ← ew4, ← ew5, ← ew6, ← ew7]; exact hD
    exact W.vret hx hb hr (fun t9 ht9 hW9 => ⟨⟨(), rfl, trivial, by rw [ht9]; exact hP, hD⟩, hS.F ht9⟩) hS.2.2 d_Ma_step_71
  · have f13 : ¬ 13 < F (4 * q) := by rw [hv]; exact nI_nlt (a := 13) (b := v) (by omega) (by decide)
    have f0 : ¬ F (4 * q) = 0 := by rw [hv]; exact xn_ne (w := 0) (by omega) (by decide) (by omega)
    have f7 : F (4 * q) < 7 := by rw [hv]; exact nI_lt (a := v) (b := 7) (by omega) (by decide)
    refine lv_iload_n hx hb d_Ma_step_0 rfl (lv_at hl 1 rfl) ?_
    refine lv_iconst (v := 1) hx hb d_Ma_step_1 (by decide) ?_
    refine lv_icmp_lt (tgt := 15) hx hb d_Ma_step_2 rfl (fun hz9 => absurd hz9 (nI_nlt (a := v) (b := 1) (by omega) (by omega))) (fun _ => ?_)
    refine lv_iload_n hx hb d_Ma_step_5 rfl (lv_at hl 1 rfl) ?_
    refine lv_bipush (v := 9) hx hb d_Ma_step_6 (by decide) ?_
    refine lv_icmp_ge (tgt := 15) hx hb d_Ma_step_8 rfl (fun hz9 => absurd hz9 (nI_ge (a := v) (b := 9) (by omega) (by decide))) (fun _ => ?_)
    refine lv_iconst (v := 1) hx hb d_Ma_step_11 (by decide) ?_
    refine lv_goto (tgt := 16) hx hb d_Ma_step_12 rfl ?_
    refine lv_istore_n hx hb d_Ma_step_16 rfl hl (by decide) rfl (fun ls hl => ?_)
    have hl : lv_has ls 3 [(2, .int 1), (0, .ref mo), (1, .int (nI v))] := hl
    refine lv_iload_n hx hb d_Ma_step_17 rfl (lv_at hl 2 rfl) ?_
    refine lv_bipush (v := 13) hx hb d_Ma_step_18 (by decide) ?_
    refine lv_icmp_gt (tgt := 35) hx hb d_Ma_step_20 rfl (fun hz9 => absurd hz9 (nI_nlt (a := 13) (b := v) (by omega) (by decide))) (fun _ => ?_)
    refine lv_iload_n hx hb d_Ma_step_23 rfl (lv_at hl 0 rfl) ?_
    refine lv_if_eq (tgt := 41) hx hb d_Ma_step_24 rfl (fun hz9 => absurd hz9 (by decide)) (fun _ => ?_)
    refine lv_aload_n hx hb d_Ma_step_27 rfl (lv_at hl 1 rfl) ?_
    refine lv_iload_n hx hb d_Ma_step_28 rfl (lv_at hl 2 rfl) ?_
    refine xi_go (w2 := [(mo, .inr (4, [.ref li, .ref ra, .ref ca, .ref aa, .int (nI kp), .int (nI q), .int dn, .int en, .ref tr])), (ra, .inl (cI, 8, .inl (tm_alu F q Rg))), (ca, .inl (cI, 64, .inl Ce)), (aa, .inl (cI, 120, .inl Ac)), (li, .inr (1, [.ref lf, .int (nI n)])), (lf, .inl (cI, 868, .inl F))]) (wr := []) (w1 := [(mo, .inr (4, [.ref li, .ref ra, .ref ca, .ref aa, .int (nI kp), .int (nI q), .int dn, .int en, .ref tr])), (ra, .inl (cI, 8, .inl (tm_alu F q Rg))), (ca, .inl (cI, 64, .inl Ce)), (aa, .inl (cI, 120, .inl Ac)), (li, .inr (1, [.ref lf, .int (nI n)])), (lf, .inl (cI, 868, .inl F))]) (va_runU (As := [.int (nI v)]) (rest := []) (C := R_Ta) ⟨hx, hb, hml, hown, hg⟩ (c_Ta_doSimple_alu l D cI cZ cJ mo li ra ca aa lf tr Rg Ce Ac F n kp dn en q v a b (by omega) (by omega) (hv) (ha) (by omega) (hbb) (by omega) (by omega) s.heap.size) (xg_O (x := ⟨"TwoMachines$Machine", "doSimple", "(I)Z"⟩) (owner := R_Ma) hg m_Ma_doSimple q475 q759 rfl m_Ma_doSimple sx_Ta_Ma_doSimple ⟨by decide, by decide, by decide +kernel⟩ rfl rfl ⟨Nat.le_of_ble_eq_true rfl, Nat.le_of_ble_eq_true rfl⟩) ⟨xw_blind, (va_recv (q0 := 0) hK.1 hP rfl rfl), xw_pre hK hP hD [0, 1, 2, 3, 4, 5] (by decide) rfl⟩ rfl rfl hl.1 rfl (lv_room (Nat.le_of_ble_eq_true rfl)) d_Ma_step_29 ⟨Nat.zero_le _, Nat.zero_le _⟩) hP hD hS hA [0, 1, 2, 3, 4, 5] [] [0, 1, 2, 3, 4, 5] rfl rfl (by decide) (by decide) rfl (by decide) (fun H locs hP hD hS => ?_)
    refine lv_if_ne (tgt := 41) hx hb d_Ma_step_32 rfl (fun _ => ?_) (fun hz9 => absurd hz9 (by decide))
    refine lv_iload_n hx hb d_Ma_step_41 rfl (lv_at hl 2 rfl) ?_
    refine lv_if_ne (tgt := 56) hx hb d_Ma_step_42 rfl (fun _ => ?_) (fun hz9 => absurd hz9 (xn_ne (w := 0) (by omega) (by decide) (by omega)))
    refine lv_aload_n hx hb d_Ma_step_56 rfl (lv_at hl 1 rfl) ?_
    refine lv_iload_n hx hb d_Ma_step_57 rfl (lv_at hl 2 rfl) ?_
    refine xw_go (w2 := [(mo, .inr (4, [.ref li, .ref ra, .ref ca, .ref aa, .int (nI kp), .int (nI (q + 1)), .int dn, .int en, .ref tr])), (ra, .inl (cI, 8, .inl (tm_alu F q Rg))), (ca, .inl (cI, 64, .inl Ce)), (aa, .inl (cI, 120, .inl Ac)), (li, .inr (1, [.ref lf, .int (nI n)])), (lf, .inl (cI, 868, .inl F))]) (wr := []) (w1 := [(mo, .inr (4, [.ref li, .ref ra, .ref ca, .ref aa, .int (nI kp), .int (nI (q + 1)), .int dn, .int en, .ref tr])), (ra, .inl (cI, 8, .inl (tm_alu F q Rg))), (ca, .inl (cI, 64, .inl Ce)), (aa, .inl (cI, 120, .inl Ac)), (li, .inr (1, [.ref lf, .int (nI n)])), (lf, .inl (cI, 868, .inl F))]) (va_runU (As := [.int (nI v)]) (rest := []) (C := R_Ta) ⟨hx, hb, hml, hown, hg⟩ (c_Ta_goOn_s l D cI cZ cJ mo li ra ca aa lf tr (tm_alu F q Rg) Ce Ac F n kp dn en q v (by omega) H.size) (xg_U (x := ⟨"TwoMachines$Machine", "goOn", "(I)V"⟩) (owner := R_Ma) hg m_Ta_goOn q513 q515 hK.2.2.2.2 q530 ⟨by decide, by decide, by decide +kernel⟩ rfl rfl ⟨Nat.le_of_ble_eq_true rfl, Nat.le_of_ble_eq_true rfl⟩) ⟨xw_blind, (va_recv (q0 := 0) hK.1 hP rfl rfl), xw_pre hK hP hD [0, 1, 2, 3, 4, 5] (by decide) rfl⟩ rfl rfl hl.1 rfl (lv_room (Nat.le_of_ble_eq_true rfl)) d_Ma_step_58 ⟨Nat.zero_le _, Nat.zero_le _⟩) hP hD hS hA [0, 1, 2, 3, 4, 5] [] [0, 1, 2, 3, 4, 5] rfl rfl (by decide) (by decide) rfl (by decide) (fun H locs hP hD hS => ?_)
    refine lv_aload_n hx hb d_Ma_step_61 rfl (lv_at hl 1 rfl) ?_
    refine lv_dup hx hb d_Ma_step_62 rfl ?_
    refine va_get (D := D) (ci := 4) (v := .int dn) (C := R_Ta) (T := F_Ta) (N := 9) hx hb hg f_Ta hown hK.1 hP 0 rfl rfl 6 (by decide) (hg _ q99) (fun _ h9 => h9) rfl d_Ma_step_63 ?_
    refine lv_iconst (v := 1) hx hb d_Ma_step_66 (by decide) ?_
    refine lv_iadd hx hb d_Ma_step_67 ?_
    refine va_put (D := D) (ci := 4) (v := .int (dn + 1)) (ty := .int) (C := R_Ta) (T := F_Ta) (N := 9) hx hb hg f_Ta t_Ta t_Ta_ok n_Ta hown hK.1 hP hD hS 0 rfl rfl 6 (by decide) (hg _ q99) (fun _ h9 => h9) rfl (by decide +kernel) rfl rfl (Nat.le_of_ble_eq_true rfl) d_Ma_step_68 (fun H locs hP hD hS => ?_)
    have hP : va_P D cls [(mo, .inr (4, [.ref li, .ref ra, .ref ca, .ref aa, .int (nI kp), .int (nI (q + 1)), .int (dn + 1), .int en, .ref tr])), (ra, .inl (cI, 8, .inl (tm_alu F q Rg))), (ca, .inl (cI, 64, .inl Ce)), (aa, .inl (cI, 120, .inl Ac)), (li, .inr (1, [.ref lf, .int (nI n)])), (lf, .inl (cI, 868, .inl F))] H := hP
    have hD : va_D A [(mo, .inr (4, [.ref li, .ref ra, .ref ca, .ref aa, .int (nI kp), .int (nI (q + 1)), .int (dn + 1), .int en, .ref tr])), (ra, .inl (cI, 8, .inl (tm_alu F q Rg))), (ca, .inl (cI, 64, .inl Ce)), (aa, .inl (cI, 120, .inl Ac)), (li, .inr (1, [.ref lf, .int (nI n)])), (lf, .inl (cI, 868, .inl F))] := hD
    have ew1 : nI kp = nI (tm_ts F q (Rg, Ce, Ac, kp, nI q, dn, en, nx)).2.2.2.1 := congrArg nI (by first | (simp [tm_ts, f13, f0, f7]; done) | (simp [tm_ts, f13, f0, f7]; omega) | omega)
    have ew2 : nI (q + 1) = (tm_ts F q (Rg, Ce, Ac, kp, nI q, dn, en, nx)).2.2.2.2.1 := by first | rfl | simp [tm_ts, f13, f0, f7]
    have ew3 : dn + 1 = (tm_ts F q (Rg, Ce, Ac, kp, nI q, dn, en, nx)).2.2.2.2.2.1 := by first | rfl | simp [tm_ts, f13, f0, f7]
    have ew4 : en = (tm_ts F q (Rg, Ce, Ac, kp, nI q, dn, en, nx)).2.2.2.2.2.2.1 := by first | rfl | simp [tm_ts, f13, f0, f7]
    have ew5 : tm_alu F q Rg = (tm_ts F q (Rg, Ce, Ac, kp, nI q, dn, en, nx)).1 := by first | rfl | simp [tm_ts, f13, f0, f7]
    have ew6 : Ce = (tm_ts F q (Rg, Ce, Ac, kp, nI q, dn, en, nx)).2.1 := by first | rfl | simp [tm_ts, f13, f0, f7]
    have ew7 : Ac = (tm_ts F q (Rg, Ce, Ac, kp, nI q, dn, en, nx)).2.2.1 := by first | rfl | simp [tm_ts, f13, f0, f7]
    have hP : va_P D cls [(mo, .inr (4, [.ref li, .ref ra, .ref ca, .ref aa, .int (nI (tm_ts F q (Rg, Ce, Ac, kp, nI q, dn, en, nx)).2.2.2.1), .int ((tm_ts F q (Rg, Ce, Ac, kp, nI q, dn, en, nx)).2.2.2.2.1), .int ((tm_ts F q (Rg, Ce, Ac, kp, nI q, dn, en, nx)).2.2.2.2.2.1), .int ((tm_ts F q (Rg, Ce, Ac, kp, nI q, dn, en, nx)).2.2.2.2.2.2.1), .ref tr])), (ra, .inl (cI, 8, .inl ((tm_ts F q (Rg, Ce, Ac, kp, nI q, dn, en, nx)).1))), (ca, .inl (cI, 64, .inl ((tm_ts F q (Rg, Ce, Ac, kp, nI q, dn, en, nx)).2.1))), (aa, .inl (cI, 120, .inl ((tm_ts F q (Rg, Ce, Ac, kp, nI q, dn, en, nx)).2.2.1))), (li, .inr (1, [.ref lf, .int (nI n)])), (lf, .inl (cI, 868, .inl F))] H := by rw [← ew1, ← ew2, ← ew3, ← ew4, ← ew5, ← ew6, ← ew7]; exact hP
    have hD : va_D A [(mo, .inr (4, [.ref li, .ref ra, .ref ca, .ref aa, .int (nI (tm_ts F q (Rg, Ce, Ac, kp, nI q, dn, en, nx)).2.2.2.1), .int ((tm_ts F q (Rg, Ce, Ac, kp, nI q, dn, en, nx)).2.2.2.2.1), .int ((tm_ts F q (Rg, Ce, Ac, kp, nI q, dn, en, nx)).2.2.2.2.2.1), .int ((tm_ts F q (Rg, Ce, Ac, kp, nI q, dn, en, nx)).2.2.2.2.2.2.1), .ref tr])), (ra, .inl (cI, 8, .inl ((tm_ts F q (Rg, Ce, Ac, kp, nI q, dn, en, nx)).1))), (ca, .inl (cI, 64, .inl ((tm_ts F q (Rg, Ce, Ac, kp, nI q, dn, en, nx)).2.1))), (aa, .inl (cI, 120, .inl ((tm_ts F q (Rg, Ce, Ac, kp, nI q, dn, en, nx)).2.2.1))), (li, .inr (1, [.ref lf, .int (nI n)])), (lf, .inl (cI, 868, .inl F))] := by rw [← ew1, ← ew2, ← ew3, ← ew4, ← ew5, ← ew6, ← ew7]; exact hD
    exact W.vret hx hb hr (fun t9 ht9 hW9 => ⟨⟨(), rfl, trivial, by rw [ht9]; exact hP, hD⟩, hS.F ht9⟩) hS.2.2 d_Ma_step_71
  · by_cases ho : tm_adr F q Rg < 0 ∨ nI 64 ≤ tm_adr F q Rg
    · have f13 : ¬ 13 < F (4 * q) := by rw [hv]; exact nI_nlt (a := 13) (b := v) (by omega) (by decide)
      have f0 : ¬ F (4 * q) = 0 := by rw [hv]; exact xn_ne (w := 0) (by omega) (by decide) (by omega)
      have f7 : ¬ F (4 * q) < 7 := by rw [hv]; exact nI_nlt (a := v) (b := 7) (by omega) (by omega)
      have f9 : F (4 * q) < 9 := by rw [hv]; exact nI_lt (a := v) (b := 9) (by omega) (by decide)
      refine lv_iload_n hx hb d_Ma_step_0 rfl (lv_at hl 1 rfl) ?_
      refine lv_iconst (v := 1) hx hb d_Ma_step_1 (by decide) ?_
      refine lv_icmp_lt (tgt := 15) hx hb d_Ma_step_2 rfl (fun hz9 => absurd hz9 (nI_nlt (a := v) (b := 1) (by omega) (by omega))) (fun _ => ?_)
      refine lv_iload_n hx hb d_Ma_step_5 rfl (lv_at hl 1 rfl) ?_
      refine lv_bipush (v := 9) hx hb d_Ma_step_6 (by decide) ?_
      refine lv_icmp_ge (tgt := 15) hx hb d_Ma_step_8 rfl (fun hz9 => absurd hz9 (nI_ge (a := v) (b := 9) (by omega) (by decide))) (fun _ => ?_)
      refine lv_iconst (v := 1) hx hb d_Ma_step_11 (by decide) ?_
      refine lv_goto (tgt := 16) hx hb d_Ma_step_12 rfl ?_
      refine lv_istore_n hx hb d_Ma_step_16 rfl hl (by decide) rfl (fun ls hl => ?_)
      have hl : lv_has ls 3 [(2, .int 1), (0, .ref mo), (1, .int (nI v))] := hl
      refine lv_iload_n hx hb d_Ma_step_17 rfl (lv_at hl 2 rfl) ?_
      refine lv_bipush (v := 13) hx hb d_Ma_step_18 (by decide) ?_
      refine lv_icmp_gt (tgt := 35) hx hb d_Ma_step_20 rfl (fun hz9 => absurd hz9 (nI_nlt (a := 13) (b := v) (by omega) (by decide))) (fun _ => ?_)
      refine lv_iload_n hx hb d_Ma_step_23 rfl (lv_at hl 0 rfl) ?_
      refine lv_if_eq (tgt := 41) hx hb d_Ma_step_24 rfl (fun hz9 => absurd hz9 (by decide)) (fun _ => ?_)
      refine lv_aload_n hx hb d_Ma_step_27 rfl (lv_at hl 1 rfl) ?_
      refine lv_iload_n hx hb d_Ma_step_28 rfl (lv_at hl 2 rfl) ?_
      refine xi_go (w2 := [(mo, .inr (4, [.ref li, .ref ra, .ref ca, .ref aa, .int (nI kp), .int (nI q), .int dn, .int en, .ref tr])), (ra, .inl (cI, 8, .inl Rg)), (ca, .inl (cI, 64, .inl Ce)), (aa, .inl (cI, 120, .inl Ac)), (li, .inr (1, [.ref lf, .int (nI n)])), (lf, .inl (cI, 868, .inl F))]) (wr := []) (w1 := [(mo, .inr (4, [.ref li, .ref ra, .ref ca, .ref aa, .int (nI kp), .int (nI q), .int dn, .int en, .ref tr])), (ra, .inl (cI, 8, .inl Rg)), (ca, .inl (cI, 64, .inl Ce)), (aa, .inl (cI, 120, .inl Ac)), (li, .inr (1, [.ref lf, .int (nI n)])), (lf, .inl (cI, 868, .inl F))]) (va_runU (As := [.int (nI v)]) (rest := []) (C := R_Ta) ⟨hx, hb, hml, hown, hg⟩ (c_Ta_doSimple_out l D cI cZ cJ mo li ra ca aa lf tr Rg Ce Ac F n kp dn en q v a b (by omega) (by omega) (ha) (by omega) (hbb) (by omega) (by omega) (by omega) (ho) s.heap.size) (xg_O (x := ⟨"TwoMachines$Machine", "doSimple", "(I)Z"⟩) (owner := R_Ma) hg m_Ma_doSimple q475 q759 rfl m_Ma_doSimple sx_Ta_Ma_doSimple ⟨by decide, by decide, by decide +kernel⟩ rfl rfl ⟨Nat.le_of_ble_eq_true rfl, Nat.le_of_ble_eq_true rfl⟩) ⟨xw_blind, (va_recv (q0 := 0) hK.1 hP rfl rfl), xw_pre hK hP hD [0, 1, 2, 3, 4, 5] (by decide) rfl⟩ rfl rfl hl.1 rfl (lv_room (Nat.le_of_ble_eq_true rfl)) d_Ma_step_29 ⟨Nat.zero_le _, Nat.zero_le _⟩) hP hD hS hA [0, 1, 2, 3, 4, 5] [] [0, 1, 2, 3, 4, 5] rfl rfl (by decide) (by decide) rfl (by decide) (fun H locs hP hD hS => ?_)
      refine lv_if_ne (tgt := 41) hx hb d_Ma_step_32 rfl (fun hz9 => absurd (by decide) hz9) (fun _ => ?_)
      refine lv_aload_n hx hb d_Ma_step_35 rfl (lv_at hl 1 rfl) ?_
      refine lv_iconst (v := 2) hx hb d_Ma_step_36 (by decide) ?_
      refine va_put (D := D) (ci := 4) (v := .int 2) (ty := .int) (C := R_Ta) (T := F_Ta) (N := 9) hx hb hg f_Ta t_Ta t_Ta_ok n_Ta hown hK.1 hP hD hS 0 rfl rfl 7 (by decide) (hg _ q101) (fun _ h9 => h9) rfl (by decide +kernel) rfl rfl (Nat.le_of_ble_eq_true rfl) d_Ma_step_37 (fun H locs hP hD hS => ?_)
      have hP : va_P D cls [(mo, .inr (4, [.ref li, .ref ra, .ref ca, .ref aa, .int (nI kp), .int (nI q), .int dn, .int 2, .ref tr])), (ra, .inl (cI, 8, .inl Rg)), (ca, .inl (cI, 64, .inl Ce)), (aa, .inl (cI, 120, .inl Ac)), (li, .inr (1, [.ref lf, .int (nI n)])), (lf, .inl (cI, 868, .inl F))] H := hP
      have hD : va_D A [(mo, .inr (4, [.ref li, .ref ra, .ref ca, .ref aa, .int (nI kp), .int (nI q), .int dn, .int 2, .ref tr])), (ra, .inl (cI, 8, .inl Rg)), (ca, .inl (cI, 64, .inl Ce)), (aa, .inl (cI, 120, .inl Ac)), (li, .inr (1, [.ref lf, .int (nI n)])), (lf, .inl (cI, 868, .inl F))] := hD
      have ew1 : nI kp = nI (tm_ts F q (Rg, Ce, Ac, kp, nI q, dn, en, nx)).2.2.2.1 := congrArg nI (by first | (simp [tm_ts, f13, f0, f7, f9, ho]; done) | (simp [tm_ts, f13, f0, f7, f9, ho]; omega) | omega)
      have ew2 : nI q = (tm_ts F q (Rg, Ce, Ac, kp, nI q, dn, en, nx)).2.2.2.2.1 := by first | rfl | simp [tm_ts, f13, f0, f7, f9, ho]
      have ew3 : dn = (tm_ts F q (Rg, Ce, Ac, kp, nI q, dn, en, nx)).2.2.2.2.2.1 := by first | rfl | simp [tm_ts, f13, f0, f7, f9, ho]
      have ew4 : 2 = (tm_ts F q (Rg, Ce, Ac, kp, nI q, dn, en, nx)).2.2.2.2.2.2.1 := by first | rfl | simp [tm_ts, f13, f0, f7, f9, ho]
      have ew5 : Rg = (tm_ts F q (Rg, Ce, Ac, kp, nI q, dn, en, nx)).1 := by first | rfl | simp [tm_ts, f13, f0, f7, f9, ho]
      have ew6 : Ce = (tm_ts F q (Rg, Ce, Ac, kp, nI q, dn, en, nx)).2.1 := by first | rfl | simp [tm_ts, f13, f0, f7, f9, ho]
      have ew7 : Ac = (tm_ts F q (Rg, Ce, Ac, kp, nI q, dn, en, nx)).2.2.1 := by first | rfl | simp [tm_ts, f13, f0, f7, f9, ho]
      have hP : va_P D cls [(mo, .inr (4, [.ref li, .ref ra, .ref ca, .ref aa, .int (nI (tm_ts F q (Rg, Ce, Ac, kp, nI q, dn, en, nx)).2.2.2.1), .int ((tm_ts F q (Rg, Ce, Ac, kp, nI q, dn, en, nx)).2.2.2.2.1), .int ((tm_ts F q (Rg, Ce, Ac, kp, nI q, dn, en, nx)).2.2.2.2.2.1), .int ((tm_ts F q (Rg, Ce, Ac, kp, nI q, dn, en, nx)).2.2.2.2.2.2.1), .ref tr])), (ra, .inl (cI, 8, .inl ((tm_ts F q (Rg, Ce, Ac, kp, nI q, dn, en, nx)).1))), (ca, .inl (cI, 64, .inl ((tm_ts F q (Rg, Ce, Ac, kp, nI q, dn, en, nx)).2.1))), (aa, .inl (cI, 120, .inl ((tm_ts F q (Rg, Ce, Ac, kp, nI q, dn, en, nx)).2.2.1))), (li, .inr (1, [.ref lf, .int (nI n)])), (lf, .inl (cI, 868, .inl F))] H := by rw [← ew1, ← ew2, ← ew3, ← ew4, ← ew5, ← ew6, ← ew7]; exact hP
      have hD : va_D A [(mo, .inr (4, [.ref li, .ref ra, .ref ca, .ref aa, .int (nI (tm_ts F q (Rg, Ce, Ac, kp, nI q, dn, en, nx)).2.2.2.1), .int ((tm_ts F q (Rg, Ce, Ac, kp, nI q, dn, en, nx)).2.2.2.2.1), .int ((tm_ts F q (Rg, Ce, Ac, kp, nI q, dn, en, nx)).2.2.2.2.2.1), .int ((tm_ts F q (Rg, Ce, Ac, kp, nI q, dn, en, nx)).2.2.2.2.2.2.1), .ref tr])), (ra, .inl (cI, 8, .inl ((tm_ts F q (Rg, Ce, Ac, kp, nI q, dn, en, nx)).1))), (ca, .inl (cI, 64, .inl ((tm_ts F q (Rg, Ce, Ac, kp, nI q, dn, en, nx)).2.1))), (aa, .inl (cI, 120, .inl ((tm_ts F q (Rg, Ce, Ac, kp, nI q, dn, en, nx)).2.2.1))), (li, .inr (1, [.ref lf, .int (nI n)])), (lf, .inl (cI, 868, .inl F))] := by rw [← ew1, ← ew2, ← ew3, ← ew4, ← ew5, ← ew6, ← ew7]; exact hD
      exact W.vret hx hb hr (fun t9 ht9 hW9 => ⟨⟨(), rfl, trivial, by rw [ht9]; exact hP, hD⟩, hS.F ht9⟩) hS.2.2 d_Ma_step_40
    · obtain ⟨dd, hdM, hd⟩ : ∃ dd : Nat, dd < 64 ∧ tm_adr F q Rg = nI dd := ((pk_ix (tm_adr F q Rg) (n := 64) (by decide)).resolve_left (fun z => ho (Or.inl z))).resolve_left (fun z => ho (Or.inr z))
      have f13 : ¬ 13 < F (4 * q) := by rw [hv]; exact nI_nlt (a := 13) (b := v) (by omega) (by decide)
      have f0 : ¬ F (4 * q) = 0 := by rw [hv]; exact xn_ne (w := 0) (by omega) (by decide) (by omega)
      have f7 : ¬ F (4 * q) < 7 := by rw [hv]; exact nI_nlt (a := v) (b := 7) (by omega) (by omega)
      have f9 : F (4 * q) < 9 := by rw [hv]; exact nI_lt (a := v) (b := 9) (by omega) (by decide)
      refine lv_iload_n hx hb d_Ma_step_0 rfl (lv_at hl 1 rfl) ?_
      refine lv_iconst (v := 1) hx hb d_Ma_step_1 (by decide) ?_
      refine lv_icmp_lt (tgt := 15) hx hb d_Ma_step_2 rfl (fun hz9 => absurd hz9 (nI_nlt (a := v) (b := 1) (by omega) (by omega))) (fun _ => ?_)
      refine lv_iload_n hx hb d_Ma_step_5 rfl (lv_at hl 1 rfl) ?_
      refine lv_bipush (v := 9) hx hb d_Ma_step_6 (by decide) ?_
      refine lv_icmp_ge (tgt := 15) hx hb d_Ma_step_8 rfl (fun hz9 => absurd hz9 (nI_ge (a := v) (b := 9) (by omega) (by decide))) (fun _ => ?_)
      refine lv_iconst (v := 1) hx hb d_Ma_step_11 (by decide) ?_
      refine lv_goto (tgt := 16) hx hb d_Ma_step_12 rfl ?_
      refine lv_istore_n hx hb d_Ma_step_16 rfl hl (by decide) rfl (fun ls hl => ?_)
      have hl : lv_has ls 3 [(2, .int 1), (0, .ref mo), (1, .int (nI v))] := hl
      refine lv_iload_n hx hb d_Ma_step_17 rfl (lv_at hl 2 rfl) ?_
      refine lv_bipush (v := 13) hx hb d_Ma_step_18 (by decide) ?_
      refine lv_icmp_gt (tgt := 35) hx hb d_Ma_step_20 rfl (fun hz9 => absurd hz9 (nI_nlt (a := 13) (b := v) (by omega) (by decide))) (fun _ => ?_)
      refine lv_iload_n hx hb d_Ma_step_23 rfl (lv_at hl 0 rfl) ?_
      refine lv_if_eq (tgt := 41) hx hb d_Ma_step_24 rfl (fun hz9 => absurd hz9 (by decide)) (fun _ => ?_)
      refine lv_aload_n hx hb d_Ma_step_27 rfl (lv_at hl 1 rfl) ?_
      refine lv_iload_n hx hb d_Ma_step_28 rfl (lv_at hl 2 rfl) ?_
      refine xi_go (w2 := [(mo, .inr (4, [.ref li, .ref ra, .ref ca, .ref aa, .int (nI (tm_dk kp (tm_adr F q Rg))), .int (nI q), .int dn, .int en, .ref tr])), (ra, .inl (cI, 8, .inl (tm_mR F q Rg Ce))), (ca, .inl (cI, 64, .inl (tm_mC F q Rg Ce))), (aa, .inl (cI, 120, .inl (tm_mA F q Rg Ce Ac kp))), (li, .inr (1, [.ref lf, .int (nI n)])), (lf, .inl (cI, 868, .inl F))]) (wr := []) (w1 := [(mo, .inr (4, [.ref li, .ref ra, .ref ca, .ref aa, .int (nI (tm_dk kp (tm_adr F q Rg))), .int (nI q), .int dn, .int en, .ref tr])), (ra, .inl (cI, 8, .inl (tm_mR F q Rg Ce))), (ca, .inl (cI, 64, .inl (tm_mC F q Rg Ce))), (aa, .inl (cI, 120, .inl (tm_mA F q Rg Ce Ac kp))), (li, .inr (1, [.ref lf, .int (nI n)])), (lf, .inl (cI, 868, .inl F))]) (va_runU (As := [.int (nI v)]) (rest := []) (C := R_Ta) ⟨hx, hb, hml, hown, hg⟩ (c_Ta_doSimple_in l D cI cZ cJ mo li ra ca aa lf tr Rg Ce Ac F n kp dn en q v a b dd (by omega) (by omega) (hv) (ha) (by omega) (hbb) (by omega) (by omega) (by omega) (by omega) (hd) (hdM) s.heap.size) (xg_O (x := ⟨"TwoMachines$Machine", "doSimple", "(I)Z"⟩) (owner := R_Ma) hg m_Ma_doSimple q475 q759 rfl m_Ma_doSimple sx_Ta_Ma_doSimple ⟨by decide, by decide, by decide +kernel⟩ rfl rfl ⟨Nat.le_of_ble_eq_true rfl, Nat.le_of_ble_eq_true rfl⟩) ⟨xw_blind, (va_recv (q0 := 0) hK.1 hP rfl rfl), xw_pre hK hP hD [0, 1, 2, 3, 4, 5] (by decide) rfl⟩ rfl rfl hl.1 rfl (lv_room (Nat.le_of_ble_eq_true rfl)) d_Ma_step_29 ⟨Nat.zero_le _, Nat.zero_le _⟩) hP hD hS hA [0, 1, 2, 3, 4, 5] [] [0, 1, 2, 3, 4, 5] rfl rfl (by decide) (by decide) rfl (by decide) (fun H locs hP hD hS => ?_)
      refine lv_if_ne (tgt := 41) hx hb d_Ma_step_32 rfl (fun _ => ?_) (fun hz9 => absurd hz9 (by decide))
      refine lv_iload_n hx hb d_Ma_step_41 rfl (lv_at hl 2 rfl) ?_
      refine lv_if_ne (tgt := 56) hx hb d_Ma_step_42 rfl (fun _ => ?_) (fun hz9 => absurd hz9 (xn_ne (w := 0) (by omega) (by decide) (by omega)))
      refine lv_aload_n hx hb d_Ma_step_56 rfl (lv_at hl 1 rfl) ?_
      refine lv_iload_n hx hb d_Ma_step_57 rfl (lv_at hl 2 rfl) ?_
      refine xw_go (w2 := [(mo, .inr (4, [.ref li, .ref ra, .ref ca, .ref aa, .int (nI (tm_dk kp (tm_adr F q Rg))), .int (nI (q + 1)), .int dn, .int en, .ref tr])), (ra, .inl (cI, 8, .inl (tm_mR F q Rg Ce))), (ca, .inl (cI, 64, .inl (tm_mC F q Rg Ce))), (aa, .inl (cI, 120, .inl (tm_mA F q Rg Ce Ac kp))), (li, .inr (1, [.ref lf, .int (nI n)])), (lf, .inl (cI, 868, .inl F))]) (wr := []) (w1 := [(mo, .inr (4, [.ref li, .ref ra, .ref ca, .ref aa, .int (nI (tm_dk kp (tm_adr F q Rg))), .int (nI (q + 1)), .int dn, .int en, .ref tr])), (ra, .inl (cI, 8, .inl (tm_mR F q Rg Ce))), (ca, .inl (cI, 64, .inl (tm_mC F q Rg Ce))), (aa, .inl (cI, 120, .inl (tm_mA F q Rg Ce Ac kp))), (li, .inr (1, [.ref lf, .int (nI n)])), (lf, .inl (cI, 868, .inl F))]) (va_runU (As := [.int (nI v)]) (rest := []) (C := R_Ta) ⟨hx, hb, hml, hown, hg⟩ (c_Ta_goOn_s l D cI cZ cJ mo li ra ca aa lf tr (tm_mR F q Rg Ce) (tm_mC F q Rg Ce) (tm_mA F q Rg Ce Ac kp) F n (tm_dk kp (tm_adr F q Rg)) dn en q v (by omega) H.size) (xg_U (x := ⟨"TwoMachines$Machine", "goOn", "(I)V"⟩) (owner := R_Ma) hg m_Ta_goOn q513 q515 hK.2.2.2.2 q530 ⟨by decide, by decide, by decide +kernel⟩ rfl rfl ⟨Nat.le_of_ble_eq_true rfl, Nat.le_of_ble_eq_true rfl⟩) ⟨xw_blind, (va_recv (q0 := 0) hK.1 hP rfl rfl), xw_pre hK hP hD [0, 1, 2, 3, 4, 5] (by decide) rfl⟩ rfl rfl hl.1 rfl (lv_room (Nat.le_of_ble_eq_true rfl)) d_Ma_step_58 ⟨Nat.zero_le _, Nat.zero_le _⟩) hP hD hS hA [0, 1, 2, 3, 4, 5] [] [0, 1, 2, 3, 4, 5] rfl rfl (by decide) (by decide) rfl (by decide) (fun H locs hP hD hS => ?_)
      refine lv_aload_n hx hb d_Ma_step_61 rfl (lv_at hl 1 rfl) ?_
      refine lv_dup hx hb d_Ma_step_62 rfl ?_
      refine va_get (D := D) (ci := 4) (v := .int dn) (C := R_Ta) (T := F_Ta) (N := 9) hx hb hg f_Ta hown hK.1 hP 0 rfl rfl 6 (by decide) (hg _ q99) (fun _ h9 => h9) rfl d_Ma_step_63 ?_
      refine lv_iconst (v := 1) hx hb d_Ma_step_66 (by decide) ?_
      refine lv_iadd hx hb d_Ma_step_67 ?_
      refine va_put (D := D) (ci := 4) (v := .int (dn + 1)) (ty := .int) (C := R_Ta) (T := F_Ta) (N := 9) hx hb hg f_Ta t_Ta t_Ta_ok n_Ta hown hK.1 hP hD hS 0 rfl rfl 6 (by decide) (hg _ q99) (fun _ h9 => h9) rfl (by decide +kernel) rfl rfl (Nat.le_of_ble_eq_true rfl) d_Ma_step_68 (fun H locs hP hD hS => ?_)
      have hP : va_P D cls [(mo, .inr (4, [.ref li, .ref ra, .ref ca, .ref aa, .int (nI (tm_dk kp (tm_adr F q Rg))), .int (nI (q + 1)), .int (dn + 1), .int en, .ref tr])), (ra, .inl (cI, 8, .inl (tm_mR F q Rg Ce))), (ca, .inl (cI, 64, .inl (tm_mC F q Rg Ce))), (aa, .inl (cI, 120, .inl (tm_mA F q Rg Ce Ac kp))), (li, .inr (1, [.ref lf, .int (nI n)])), (lf, .inl (cI, 868, .inl F))] H := hP
      have hD : va_D A [(mo, .inr (4, [.ref li, .ref ra, .ref ca, .ref aa, .int (nI (tm_dk kp (tm_adr F q Rg))), .int (nI (q + 1)), .int (dn + 1), .int en, .ref tr])), (ra, .inl (cI, 8, .inl (tm_mR F q Rg Ce))), (ca, .inl (cI, 64, .inl (tm_mC F q Rg Ce))), (aa, .inl (cI, 120, .inl (tm_mA F q Rg Ce Ac kp))), (li, .inr (1, [.ref lf, .int (nI n)])), (lf, .inl (cI, 868, .inl F))] := hD
      have ew1 : nI (tm_dk kp (tm_adr F q Rg)) = nI (tm_ts F q (Rg, Ce, Ac, kp, nI q, dn, en, nx)).2.2.2.1 := congrArg nI (by first | (simp [tm_ts, f13, f0, f7, f9, ho]; done) | (simp [tm_ts, f13, f0, f7, f9, ho]; omega) | omega)
      have ew2 : nI (q + 1) = (tm_ts F q (Rg, Ce, Ac, kp, nI q, dn, en, nx)).2.2.2.2.1 := by first | rfl | simp [tm_ts, f13, f0, f7, f9, ho]
      have ew3 : dn + 1 = (tm_ts F q (Rg, Ce, Ac, kp, nI q, dn, en, nx)).2.2.2.2.2.1 := by first | rfl | simp [tm_ts, f13, f0, f7, f9, ho]
      have ew4 : en = (tm_ts F q (Rg, Ce, Ac, kp, nI q, dn, en, nx)).2.2.2.2.2.2.1 := by first | rfl | simp [tm_ts, f13, f0, f7, f9, ho]
      have ew5 : tm_mR F q Rg Ce = (tm_ts F q (Rg, Ce, Ac, kp, nI q, dn, en, nx)).1 := by first | rfl | simp [tm_ts, f13, f0, f7, f9, ho]
      have ew6 : tm_mC F q Rg Ce = (tm_ts F q (Rg, Ce, Ac, kp, nI q, dn, en, nx)).2.1 := by first | rfl | simp [tm_ts, f13, f0, f7, f9, ho]
      have ew7 : tm_mA F q Rg Ce Ac kp = (tm_ts F q (Rg, Ce, Ac, kp, nI q, dn, en, nx)).2.2.1 := by first | rfl | simp [tm_ts, f13, f0, f7, f9, ho]
      have hP : va_P D cls [(mo, .inr (4, [.ref li, .ref ra, .ref ca, .ref aa, .int (nI (tm_ts F q (Rg, Ce, Ac, kp, nI q, dn, en, nx)).2.2.2.1), .int ((tm_ts F q (Rg, Ce, Ac, kp, nI q, dn, en, nx)).2.2.2.2.1), .int ((tm_ts F q (Rg, Ce, Ac, kp, nI q, dn, en, nx)).2.2.2.2.2.1), .int ((tm_ts F q (Rg, Ce, Ac, kp, nI q, dn, en, nx)).2.2.2.2.2.2.1), .ref tr])), (ra, .inl (cI, 8, .inl ((tm_ts F q (Rg, Ce, Ac, kp, nI q, dn, en, nx)).1))), (ca, .inl (cI, 64, .inl ((tm_ts F q (Rg, Ce, Ac, kp, nI q, dn, en, nx)).2.1))), (aa, .inl (cI, 120, .inl ((tm_ts F q (Rg, Ce, Ac, kp, nI q, dn, en, nx)).2.2.1))), (li, .inr (1, [.ref lf, .int (nI n)])), (lf, .inl (cI, 868, .inl F))] H := by rw [← ew1, ← ew2, ← ew3, ← ew4, ← ew5, ← ew6, ← ew7]; exact hP
      have hD : va_D A [(mo, .inr (4, [.ref li, .ref ra, .ref ca, .ref aa, .int (nI (tm_ts F q (Rg, Ce, Ac, kp, nI q, dn, en, nx)).2.2.2.1), .int ((tm_ts F q (Rg, Ce, Ac, kp, nI q, dn, en, nx)).2.2.2.2.1), .int ((tm_ts F q (Rg, Ce, Ac, kp, nI q, dn, en, nx)).2.2.2.2.2.1), .int ((tm_ts F q (Rg, Ce, Ac, kp, nI q, dn, en, nx)).2.2.2.2.2.2.1), .ref tr])), (ra, .inl (cI, 8, .inl ((tm_ts F q (Rg, Ce, Ac, kp, nI q, dn, en, nx)).1))), (ca, .inl (cI, 64, .inl ((tm_ts F q (Rg, Ce, Ac, kp, nI q, dn, en, nx)).2.1))), (aa, .inl (cI, 120, .inl ((tm_ts F q (Rg, Ce, Ac, kp, nI q, dn, en, nx)).2.2.1))), (li, .inr (1, [.ref lf, .int (nI n)])), (lf, .inl (cI, 868, .inl F))] := by rw [← ew1, ← ew2, ← ew3, ← ew4, ← ew5, ← ew6, ← ew7]; exact hD
      exact W.vret hx hb hr (fun t9 ht9 hW9 => ⟨⟨(), rfl, trivial, by rw [ht9]; exact hP, hD⟩, hS.F ht9⟩) hS.2.2 d_Ma_step_71
  · have f13 : ¬ 13 < F (4 * q) := by rw [hv]; exact nI_nlt (a := 13) (b := v) (by omega) (by decide)
    have f0 : ¬ F (4 * q) = 0 := by rw [hv]; exact xn_ne (w := 0) (by omega) (by decide) (by omega)
    have f7 : ¬ F (4 * q) < 7 := by rw [hv]; exact nI_nlt (a := v) (b := 7) (by omega) (by omega)
    have f9 : ¬ F (4 * q) < 9 := by rw [hv]; exact nI_nlt (a := v) (b := 9) (by omega) (by omega)
    refine lv_iload_n hx hb d_Ma_step_0 rfl (lv_at hl 1 rfl) ?_
    refine lv_iconst (v := 1) hx hb d_Ma_step_1 (by decide) ?_
    refine lv_icmp_lt (tgt := 15) hx hb d_Ma_step_2 rfl (fun hz9 => absurd hz9 (nI_nlt (a := v) (b := 1) (by omega) (by omega))) (fun _ => ?_)
    refine lv_iload_n hx hb d_Ma_step_5 rfl (lv_at hl 1 rfl) ?_
    refine lv_bipush (v := 9) hx hb d_Ma_step_6 (by decide) ?_
    refine lv_icmp_ge (tgt := 15) hx hb d_Ma_step_8 rfl (fun _ => ?_) (fun hz9 => absurd (nI_le (a := 9) (b := v) (by omega) (by omega)) hz9)
    refine lv_iconst (v := 0) hx hb d_Ma_step_15 (by decide) ?_
    refine lv_istore_n hx hb d_Ma_step_16 rfl hl (by decide) rfl (fun ls hl => ?_)
    have hl : lv_has ls 3 [(2, .int 0), (0, .ref mo), (1, .int (nI v))] := hl
    refine lv_iload_n hx hb d_Ma_step_17 rfl (lv_at hl 2 rfl) ?_
    refine lv_bipush (v := 13) hx hb d_Ma_step_18 (by decide) ?_
    refine lv_icmp_gt (tgt := 35) hx hb d_Ma_step_20 rfl (fun hz9 => absurd hz9 (nI_nlt (a := 13) (b := v) (by omega) (by decide))) (fun _ => ?_)
    refine lv_iload_n hx hb d_Ma_step_23 rfl (lv_at hl 0 rfl) ?_
    refine lv_if_eq (tgt := 41) hx hb d_Ma_step_24 rfl (fun _ => ?_) (fun hz9 => absurd (by decide) hz9)
    refine lv_iload_n hx hb d_Ma_step_41 rfl (lv_at hl 2 rfl) ?_
    refine lv_if_ne (tgt := 56) hx hb d_Ma_step_42 rfl (fun _ => ?_) (fun hz9 => absurd hz9 (xn_ne (w := 0) (by omega) (by decide) (by omega)))
    refine lv_aload_n hx hb d_Ma_step_56 rfl (lv_at hl 1 rfl) ?_
    refine lv_iload_n hx hb d_Ma_step_57 rfl (lv_at hl 2 rfl) ?_
    refine xw_go (w2 := [(mo, .inr (4, [.ref li, .ref ra, .ref ca, .ref aa, .int (nI kp), .int (tm_tb F q Rg), .int dn, .int en, .ref tr])), (ra, .inl (cI, 8, .inl Rg)), (ca, .inl (cI, 64, .inl Ce)), (aa, .inl (cI, 120, .inl Ac)), (li, .inr (1, [.ref lf, .int (nI n)])), (lf, .inl (cI, 868, .inl F))]) (wr := []) (w1 := [(mo, .inr (4, [.ref li, .ref ra, .ref ca, .ref aa, .int (nI kp), .int (tm_tb F q Rg), .int dn, .int en, .ref tr])), (ra, .inl (cI, 8, .inl Rg)), (ca, .inl (cI, 64, .inl Ce)), (aa, .inl (cI, 120, .inl Ac)), (li, .inr (1, [.ref lf, .int (nI n)])), (lf, .inl (cI, 868, .inl F))]) (va_runU (As := [.int (nI v)]) (rest := []) (C := R_Ta) ⟨hx, hb, hml, hown, hg⟩ (c_Ta_goOn_b l D cI cZ cJ mo li ra ca aa lf tr Rg Ce Ac F n kp dn en q v a b (by omega) (by omega) (hv) (ha) (by omega) (hbb) (by omega) (by omega) (by omega) s.heap.size) (xg_U (x := ⟨"TwoMachines$Machine", "goOn", "(I)V"⟩) (owner := R_Ma) hg m_Ta_goOn q513 q515 hK.2.2.2.2 q530 ⟨by decide, by decide, by decide +kernel⟩ rfl rfl ⟨Nat.le_of_ble_eq_true rfl, Nat.le_of_ble_eq_true rfl⟩) ⟨xw_blind, (va_recv (q0 := 0) hK.1 hP rfl rfl), xw_pre hK hP hD [0, 1, 2, 3, 4, 5] (by decide) rfl⟩ rfl rfl hl.1 rfl (lv_room (Nat.le_of_ble_eq_true rfl)) d_Ma_step_58 ⟨Nat.zero_le _, Nat.zero_le _⟩) hP hD hS hA [0, 1, 2, 3, 4, 5] [] [0, 1, 2, 3, 4, 5] rfl rfl (by decide) (by decide) rfl (by decide) (fun H locs hP hD hS => ?_)
    refine lv_aload_n hx hb d_Ma_step_61 rfl (lv_at hl 1 rfl) ?_
    refine lv_dup hx hb d_Ma_step_62 rfl ?_
    refine va_get (D := D) (ci := 4) (v := .int dn) (C := R_Ta) (T := F_Ta) (N := 9) hx hb hg f_Ta hown hK.1 hP 0 rfl rfl 6 (by decide) (hg _ q99) (fun _ h9 => h9) rfl d_Ma_step_63 ?_
    refine lv_iconst (v := 1) hx hb d_Ma_step_66 (by decide) ?_
    refine lv_iadd hx hb d_Ma_step_67 ?_
    refine va_put (D := D) (ci := 4) (v := .int (dn + 1)) (ty := .int) (C := R_Ta) (T := F_Ta) (N := 9) hx hb hg f_Ta t_Ta t_Ta_ok n_Ta hown hK.1 hP hD hS 0 rfl rfl 6 (by decide) (hg _ q99) (fun _ h9 => h9) rfl (by decide +kernel) rfl rfl (Nat.le_of_ble_eq_true rfl) d_Ma_step_68 (fun H locs hP hD hS => ?_)
    have hP : va_P D cls [(mo, .inr (4, [.ref li, .ref ra, .ref ca, .ref aa, .int (nI kp), .int (tm_tb F q Rg), .int (dn + 1), .int en, .ref tr])), (ra, .inl (cI, 8, .inl Rg)), (ca, .inl (cI, 64, .inl Ce)), (aa, .inl (cI, 120, .inl Ac)), (li, .inr (1, [.ref lf, .int (nI n)])), (lf, .inl (cI, 868, .inl F))] H := hP
    have hD : va_D A [(mo, .inr (4, [.ref li, .ref ra, .ref ca, .ref aa, .int (nI kp), .int (tm_tb F q Rg), .int (dn + 1), .int en, .ref tr])), (ra, .inl (cI, 8, .inl Rg)), (ca, .inl (cI, 64, .inl Ce)), (aa, .inl (cI, 120, .inl Ac)), (li, .inr (1, [.ref lf, .int (nI n)])), (lf, .inl (cI, 868, .inl F))] := hD
    have ew1 : nI kp = nI (tm_ts F q (Rg, Ce, Ac, kp, nI q, dn, en, nx)).2.2.2.1 := congrArg nI (by first | (simp [tm_ts, f13, f0, f7, f9]; done) | (simp [tm_ts, f13, f0, f7, f9]; omega) | omega)
    have ew2 : tm_tb F q Rg = (tm_ts F q (Rg, Ce, Ac, kp, nI q, dn, en, nx)).2.2.2.2.1 := by first | rfl | simp [tm_ts, f13, f0, f7, f9]
    have ew3 : dn + 1 = (tm_ts F q (Rg, Ce, Ac, kp, nI q, dn, en, nx)).2.2.2.2.2.1 := by first | rfl | simp [tm_ts, f13, f0, f7, f9]
    have ew4 : en = (tm_ts F q (Rg, Ce, Ac, kp, nI q, dn, en, nx)).2.2.2.2.2.2.1 := by first | rfl | simp [tm_ts, f13, f0, f7, f9]
    have ew5 : Rg = (tm_ts F q (Rg, Ce, Ac, kp, nI q, dn, en, nx)).1 := by first | rfl | simp [tm_ts, f13, f0, f7, f9]
    have ew6 : Ce = (tm_ts F q (Rg, Ce, Ac, kp, nI q, dn, en, nx)).2.1 := by first | rfl | simp [tm_ts, f13, f0, f7, f9]
    have ew7 : Ac = (tm_ts F q (Rg, Ce, Ac, kp, nI q, dn, en, nx)).2.2.1 := by first | rfl | simp [tm_ts, f13, f0, f7, f9]
    have hP : va_P D cls [(mo, .inr (4, [.ref li, .ref ra, .ref ca, .ref aa, .int (nI (tm_ts F q (Rg, Ce, Ac, kp, nI q, dn, en, nx)).2.2.2.1), .int ((tm_ts F q (Rg, Ce, Ac, kp, nI q, dn, en, nx)).2.2.2.2.1), .int ((tm_ts F q (Rg, Ce, Ac, kp, nI q, dn, en, nx)).2.2.2.2.2.1), .int ((tm_ts F q (Rg, Ce, Ac, kp, nI q, dn, en, nx)).2.2.2.2.2.2.1), .ref tr])), (ra, .inl (cI, 8, .inl ((tm_ts F q (Rg, Ce, Ac, kp, nI q, dn, en, nx)).1))), (ca, .inl (cI, 64, .inl ((tm_ts F q (Rg, Ce, Ac, kp, nI q, dn, en, nx)).2.1))), (aa, .inl (cI, 120, .inl ((tm_ts F q (Rg, Ce, Ac, kp, nI q, dn, en, nx)).2.2.1))), (li, .inr (1, [.ref lf, .int (nI n)])), (lf, .inl (cI, 868, .inl F))] H := by rw [← ew1, ← ew2, ← ew3, ← ew4, ← ew5, ← ew6, ← ew7]; exact hP
    have hD : va_D A [(mo, .inr (4, [.ref li, .ref ra, .ref ca, .ref aa, .int (nI (tm_ts F q (Rg, Ce, Ac, kp, nI q, dn, en, nx)).2.2.2.1), .int ((tm_ts F q (Rg, Ce, Ac, kp, nI q, dn, en, nx)).2.2.2.2.1), .int ((tm_ts F q (Rg, Ce, Ac, kp, nI q, dn, en, nx)).2.2.2.2.2.1), .int ((tm_ts F q (Rg, Ce, Ac, kp, nI q, dn, en, nx)).2.2.2.2.2.2.1), .ref tr])), (ra, .inl (cI, 8, .inl ((tm_ts F q (Rg, Ce, Ac, kp, nI q, dn, en, nx)).1))), (ca, .inl (cI, 64, .inl ((tm_ts F q (Rg, Ce, Ac, kp, nI q, dn, en, nx)).2.1))), (aa, .inl (cI, 120, .inl ((tm_ts F q (Rg, Ce, Ac, kp, nI q, dn, en, nx)).2.2.1))), (li, .inr (1, [.ref lf, .int (nI n)])), (lf, .inl (cI, 868, .inl F))] := by rw [← ew1, ← ew2, ← ew3, ← ew4, ← ew5, ← ew6, ← ew7]; exact hD
    exact W.vret hx hb hr (fun t9 ht9 hW9 => ⟨⟨(), rfl, trivial, by rw [ht9]; exact hP, hD⟩, hS.F ht9⟩) hS.2.2 d_Ma_step_71
