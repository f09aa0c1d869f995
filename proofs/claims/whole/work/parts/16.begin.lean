/-! MACHINES: begin (printed by wip/whole/gen/c16.py) -/
/-- an array's first j places filled -/
def tm_fl (f : tF) (v : Int32) (j : Nat) : tF := fun i => if i < j then v else f i
theorem tm_fl_0 (f : tF) (v : Int32) : tm_fl f v 0 = f := by funext i; simp [tm_fl]
theorem tm_fl_s (f : tF) (v : Int32) (j : Nat) : upd (tm_fl f v j) j v = tm_fl f v (j + 1) := by
  funext i
  unfold upd tm_fl
  by_cases h : i = j
  · rw [if_pos h, if_pos (by omega)]
  · rw [if_neg h]
    by_cases h2 : i < j
    · rw [if_pos h2, if_pos (by omega)]
    · rw [if_neg h2, if_neg (by omega)]

set_option maxHeartbeats 4000000 in
set_option maxRecDepth 100000 in
theorem c_JA_fill (l : Launch) (D : va_G) (cI cZ cJ : ClassId) (f0 N : Nat) (f : Nat → Int32) (v : Int32) (hN : N < 2 ^ 30) : xw_Met l y_JA_fill b_JA_fill 4 none { frames := 0, cells := 0, slots := 0, locals := 0 } [.ref f0, .int v] D cls (tyL cI cZ cJ) [(f0, .inl (cI, N, .inl f))] [(f0, .inl (cI, N, .inl (tm_fl f v N)))] := by
  intro sz
  refine xm_ofW (cc := b_JA_fill) (maxL := 4) (ret := none) (by decide +kernel) rfl ?_
  intro p e s m args below meth c s₁ B0 hml hv
  obtain ⟨rfl, hsz, hP, hK, hD0⟩ := hv
  have hx := B0.exec
  have hb := B0.bytes
  have hr := B0.returns
  have hlocks := B0.notSynchronized
  have hg : ∀ w ∈ gG, w.before _ s = true := fun w h => atoms_spec B0.pre w (List.mem_cons_of_mem _ h)
  have hown : s.vm.findClass R_JA = some m.cls := findClass_of_methodNamed B0.named
  subst hsz
  have hD := hD0.self (sz := s.heap.size)
  generalize hAe : va_A [(f0, .inl (cI, N, .inl f))] s.heap.size = A at hD ⊢
  have hA : ∀ q : Nat, s.heap.size ≤ q → A q := fun q h => by rw [← hAe]; exact Or.inr h
  have hS : va_S A s.heap s.heap [] := va_S.rf
  have hP : va_P D cls [(f0, .inl (cI, N, .inl f))] s.heap := hP
  have hl := lv_entry ([.ref f0, .int v]) (n := 4) (Nat.le_of_ble_eq_true rfl)
  rw [lg_entry_eq]
  generalize (lg_sl ([.ref f0, .int v]) ++ List.replicate (4 - (lg_sl ([.ref f0, .int v])).length) Slot.unset).toArray = ls at hl ⊢
  have hl : lv_has ls 4 [(0, .ref f0), (1, .int v)] := hl
  refine lv_iconst (v := 0) hx hb d_JA_fill_0 (by decide) ?_
  refine lv_istore_n hx hb d_JA_fill_1 rfl hl (by decide) rfl (fun ls hl => ?_)
  have hl : lv_has ls 4 [(2, .int 0), (0, .ref f0), (1, .int v)] := hl
  refine lv_aload_n hx hb d_JA_fill_2 rfl (lv_at hl 1 rfl) ?_
  refine va_alen (v := nI N) hx hb hK.1 hP 0 0 rfl rfl rfl d_JA_fill_3 ?_
  refine lv_istore_n hx hb d_JA_fill_4 rfl hl (by decide) rfl (fun ls hl => ?_)
  have hl : lv_has ls 4 [(3, .int (nI N)), (2, .int 0), (0, .ref f0), (1, .int v)] := hl
  have loop : ∀ (g j : Nat) (H : Heap) (locs : List Loc) (ls : Array Slot), j + g = N → lv_has ls 4 [(2, .int (nI j)), (3, .int (nI N)), (1, .int v), (0, .ref f0)] → va_P D cls [(f0, .inl (cI, N, .inl (tm_fl f v j)))] H → va_D A [(f0, .inl (cI, N, .inl (tm_fl f v j)))] → va_S A s.heap H locs → W p l e (headSpec (Cond.code y_JA_fill b_JA_fill 4 none :: gG) { frames := 0, cells := 0, slots := 0, locals := 0 }).room s m ([.ref f0, .int v] : List Value).toArray below meth c H locs 0 0 (MQ below (va_Qv (fun _ : Unit => True) (fun _ t9 => xw_B D cls [(f0, .inl (cI, N, .inl (tm_fl f v N)))] A t9) A) ([.ref f0, .int v] : List Value).toArray s 0 0 A) (F0 m 5 ls []) := by
    intro g
    induction g with
    | zero =>
      intro j H locs ls hj hl hP hD hS
      refine lv_iload_n hx hb d_JA_fill_5 rfl (lv_at hl 0 rfl) ?_
      refine lv_iload_n hx hb d_JA_fill_6 rfl (lv_at hl 1 rfl) ?_
      refine lv_icmp_ge (tgt := 20) hx hb d_JA_fill_7 rfl (fun _ => ?_) (fun hz9 => absurd (nI_le (by omega) (by omega)) hz9)
      have ew1 : tm_fl f v j = tm_fl f v N := by rw [show j = N by omega]
      have hP : va_P D cls [(f0, .inl (cI, N, .inl (tm_fl f v N)))] H := by rw [← ew1]; exact hP
      have hD : va_D A [(f0, .inl (cI, N, .inl (tm_fl f v N)))] := by rw [← ew1]; exact hD
      exact W.vret hx hb hr (fun t9 ht9 hW9 => ⟨⟨(), rfl, trivial, by rw [ht9]; exact hP, hD⟩, hS.F ht9⟩) hS.2.2 d_JA_fill_20
    | succ g ih =>
      intro j H locs ls hj hl hP hD hS
      refine lv_iload_n hx hb d_JA_fill_5 rfl (lv_at hl 0 rfl) ?_
      refine lv_iload_n hx hb d_JA_fill_6 rfl (lv_at hl 1 rfl) ?_
      refine lv_icmp_ge (tgt := 20) hx hb d_JA_fill_7 rfl (fun hz9 => absurd hz9 (nI_ge (by omega) (by omega))) (fun _ => ?_)
      refine lv_aload_n hx hb d_JA_fill_10 rfl (lv_at hl 3 rfl) ?_
      refine lv_iload_n hx hb d_JA_fill_11 rfl (lv_at hl 0 rfl) ?_
      refine lv_iload_n hx hb d_JA_fill_12 rfl (lv_at hl 2 rfl) ?_
      refine xa_st hx hb hK hP hD hS 0 0 rfl rfl (kx := j) (rfl) (by omega) (by omega) d_JA_fill_13 (fun H locs hP hD hS => ?_)
      have hP : va_P D cls [(f0, .inl (cI, N, .inl (upd (tm_fl f v j) j v)))] H := hP
      have hD : va_D A [(f0, .inl (cI, N, .inl (upd (tm_fl f v j) j v)))] := hD
      refine lv_iinc (k := 0) (v := nI (j + 1)) hx hb d_JA_fill_14 hl rfl (xn_inc j 1 (by decide)) (by decide) rfl (fun ls hl => ?_)
      have hl : lv_has ls 4 [(2, .int (nI (j + 1))), (3, .int (nI N)), (1, .int v), (0, .ref f0)] := hl
      refine lv_goto (tgt := 5) hx hb d_JA_fill_17 rfl ?_
      rw [tm_fl_s] at hP hD
      exact ih (j + 1) H locs ls (by omega) hl hP hD hS
  rw [← tm_fl_0 f v] at hP hD
  exact loop N 0 s.heap [] ls (by omega) (lv_sub hl [1, 0, 3, 2] rfl) hP hD hS

/-- the data cells behind begin -/
def tm_c0 (sd : tF) : tF := fun i => if i < 32 then sd i else 0
theorem tm_c0_a (sd Ce : tF) (N : Nat) : ∀ j, j < N → va_cpy sd (tm_fl Ce 0 N) 0 0 32 j = tm_c0 sd j := by
  intro j hj
  unfold tm_c0
  by_cases h : j < 32
  · rw [pk_cpy_in (by omega) (by omega), if_pos h]; congr 1; omega
  · rw [pk_cpy_out (by omega), if_neg h]; unfold tm_fl; rw [if_pos hj]

set_option maxHeartbeats 4000000 in
set_option maxRecDepth 100000 in
theorem c_So_beginWithData (l : Launch) (D : va_G) (cI cZ cJ : ClassId) (mo li ra ca aa lf : Nat) (Rg Ce Ac F : Nat → Int32) (n kp : Nat) (dn en nx : Int32) (he : Int32) (sD : Nat) (sd : Nat → Int32) : xw_Met l y_Ma_beginWithData b_Ma_beginWithData 2 none { frames := 1, cells := 0, slots := 0, locals := 26 } [.ref mo, .ref sD] D cls (tyL cI cZ cJ) [(mo, .inr (3, [.ref li, .ref ra, .ref ca, .ref aa, .int (nI kp), .int he, .int dn, .int en, .int nx])), (ra, .inl (cI, 8, .inl Rg)), (ca, .inl (cI, 32, .inl Ce)), (aa, .inl (cI, 120, .inl Ac)), (li, .inr (1, [.ref lf, .int (nI n)])), (lf, .inl (cI, 96, .inl F)), (sD, .inl (cI, 32, .inl sd))] [(mo, .inr (3, [.ref li, .ref ra, .ref ca, .ref aa, .int (nI 0), .int 0, .int 0, .int 0, .int nx])), (ra, .inl (cI, 8, .inl (fun _ => 0))), (ca, .inl (cI, 32, .inl (tm_c0 sd))), (aa, .inl (cI, 120, .inl Ac)), (li, .inr (1, [.ref lf, .int (nI n)])), (lf, .inl (cI, 96, .inl F)), (sD, .inl (cI, 32, .inl sd))] := by
  intro sz
  refine Met.ofW (cc := b_Ma_beginWithData) (maxL := 2) (ret := none) (by decide) rfl ?_
  intro p e s m args below meth c s₁ B0 hml hv
  obtain ⟨rfl, hsz, hP, hK, hD0⟩ := hv
  have hx := B0.exec
  have hb := B0.bytes
  have hr := B0.returns
  have hlocks := B0.notSynchronized
  have hg : ∀ w ∈ gG, w.before _ s = true := fun w h => atoms_spec B0.pre w (List.mem_cons_of_mem _ h)
  have hown : s.vm.findClass R_Ma = some m.cls := findClass_of_methodNamed B0.named
  subst hsz
  have hD := hD0.self (sz := s.heap.size)
  generalize hAe : va_A [(mo, .inr (3, [.ref li, .ref ra, .ref ca, .ref aa, .int (nI kp), .int he, .int dn, .int en, .int nx])), (ra, .inl (cI, 8, .inl Rg)), (ca, .inl (cI, 32, .inl Ce)), (aa, .inl (cI, 120, .inl Ac)), (li, .inr (1, [.ref lf, .int (nI n)])), (lf, .inl (cI, 96, .inl F)), (sD, .inl (cI, 32, .inl sd))] s.heap.size = A at hD ⊢
  have hA : ∀ q : Nat, s.heap.size ≤ q → A q := fun q h => by rw [← hAe]; exact Or.inr h
  have hS : va_S A s.heap s.heap [] := va_S.rf
  have hP : va_P D cls [(mo, .inr (3, [.ref li, .ref ra, .ref ca, .ref aa, .int (nI kp), .int he, .int dn, .int en, .int nx])), (ra, .inl (cI, 8, .inl Rg)), (ca, .inl (cI, 32, .inl Ce)), (aa, .inl (cI, 120, .inl Ac)), (li, .inr (1, [.ref lf, .int (nI n)])), (lf, .inl (cI, 96, .inl F)), (sD, .inl (cI, 32, .inl sd))] s.heap := hP
  have hl := lv_entry ([.ref mo, .ref sD]) (n := 2) (Nat.le_of_ble_eq_true rfl)
  rw [lg_entry_eq]
  generalize (lg_sl ([.ref mo, .ref sD]) ++ List.replicate (2 - (lg_sl ([.ref mo, .ref sD])).length) Slot.unset).toArray = ls at hl ⊢
  have hl : lv_has ls 2 [(0, .ref mo), (1, .ref sD)] := hl
  refine lv_aload_n hx hb d_Ma_beginWithData_0 rfl (lv_at hl 0 rfl) ?_
  refine va_get (D := D) (ci := 3) (v := .ref ra) (C := R_So) (T := F_So) (N := 9) hx hb hg f_So hown hK.1 hP 0 rfl rfl 1 (by decide) (hg _ q80) (fun _ h9 => h9) rfl d_Ma_beginWithData_1 ?_
  refine lv_iconst (v := 0) hx hb d_Ma_beginWithData_4 (by decide) ?_
  refine xw_go (w2 := [(mo, .inr (3, [.ref li, .ref ra, .ref ca, .ref aa, .int (nI kp), .int he, .int dn, .int en, .int nx])), (ra, .inl (cI, 8, .inl (tm_fl Rg 0 8))), (ca, .inl (cI, 32, .inl Ce)), (aa, .inl (cI, 120, .inl Ac)), (li, .inr (1, [.ref lf, .int (nI n)])), (lf, .inl (cI, 96, .inl F)), (sD, .inl (cI, 32, .inl sd))]) (wr := [(mo, .inr (3, [.ref li, .ref ra, .ref ca, .ref aa, .int (nI kp), .int he, .int dn, .int en, .int nx])), (ca, .inl (cI, 32, .inl Ce)), (aa, .inl (cI, 120, .inl Ac)), (li, .inr (1, [.ref lf, .int (nI n)])), (lf, .inl (cI, 96, .inl F)), (sD, .inl (cI, 32, .inl sd))]) (w1 := [(ra, .inl (cI, 8, .inl (tm_fl Rg 0 8)))]) (va_runS (As := [.ref ra, .int 0]) (rest := []) ⟨hx, hb, hml, hown, hg⟩ (c_JA_fill l D cI cZ cJ ra 8 Rg 0 (by omega) s.heap.size) ⟨xg_B hg m_JA_fill.1 m_JA_fill.2.2.1 m_JA_fill.2.2.2.1 m_JA_fill.2.2.2.2 q449 rfl rfl ⟨Nat.le_of_ble_eq_true rfl, Nat.le_of_ble_eq_true rfl⟩, hg _ m_JA_fill.2.1⟩ ⟨xw_blind, xw_pre hK hP hD [1] (by decide) rfl⟩ rfl rfl hl.1 rfl (lv_room (Nat.le_of_ble_eq_true rfl)) d_Ma_beginWithData_5 ⟨Nat.zero_le _, Nat.zero_le _⟩) hP hD hS hA [1] [0, 2, 3, 4, 5, 6] [0, 6, 1, 2, 3, 4, 5] rfl rfl (by decide) (by decide) rfl (by decide) (fun H locs hP hD hS => ?_)
  refine lv_aload_n hx hb d_Ma_beginWithData_8 rfl (lv_at hl 0 rfl) ?_
  refine va_get (D := D) (ci := 3) (v := .ref ca) (C := R_So) (T := F_So) (N := 9) hx hb hg f_So hown hK.1 hP 0 rfl rfl 2 (by decide) (hg _ q85) (fun _ h9 => h9) rfl d_Ma_beginWithData_9 ?_
  refine lv_iconst (v := 0) hx hb d_Ma_beginWithData_12 (by decide) ?_
  refine xw_go (w2 := [(mo, .inr (3, [.ref li, .ref ra, .ref ca, .ref aa, .int (nI kp), .int he, .int dn, .int en, .int nx])), (ra, .inl (cI, 8, .inl (tm_fl Rg 0 8))), (ca, .inl (cI, 32, .inl (tm_fl Ce 0 32))), (aa, .inl (cI, 120, .inl Ac)), (li, .inr (1, [.ref lf, .int (nI n)])), (lf, .inl (cI, 96, .inl F)), (sD, .inl (cI, 32, .inl sd))]) (wr := [(mo, .inr (3, [.ref li, .ref ra, .ref ca, .ref aa, .int (nI kp), .int he, .int dn, .int en, .int nx])), (ra, .inl (cI, 8, .inl (tm_fl Rg 0 8))), (aa, .inl (cI, 120, .inl Ac)), (li, .inr (1, [.ref lf, .int (nI n)])), (lf, .inl (cI, 96, .inl F)), (sD, .inl (cI, 32, .inl sd))]) (w1 := [(ca, .inl (cI, 32, .inl (tm_fl Ce 0 32)))]) (va_runS (As := [.ref ca, .int 0]) (rest := []) ⟨hx, hb, hml, hown, hg⟩ (c_JA_fill l D cI cZ cJ ca 32 Ce 0 (by omega) H.size) ⟨xg_B hg m_JA_fill.1 m_JA_fill.2.2.1 m_JA_fill.2.2.2.1 m_JA_fill.2.2.2.2 q449 rfl rfl ⟨Nat.le_of_ble_eq_true rfl, Nat.le_of_ble_eq_true rfl⟩, hg _ m_JA_fill.2.1⟩ ⟨xw_blind, xw_pre hK hP hD [2] (by decide) rfl⟩ rfl rfl hl.1 rfl (lv_room (Nat.le_of_ble_eq_true rfl)) d_Ma_beginWithData_13 ⟨Nat.zero_le _, Nat.zero_le _⟩) hP hD hS hA [2] [0, 1, 3, 4, 5, 6] [0, 1, 6, 2, 3, 4, 5] rfl rfl (by decide) (by decide) rfl (by decide) (fun H locs hP hD hS => ?_)
  refine lv_aload_n hx hb d_Ma_beginWithData_16 rfl (lv_at hl 1 rfl) ?_
  refine lv_iconst (v := 0) hx hb d_Ma_beginWithData_17 (by decide) ?_
  refine lv_aload_n hx hb d_Ma_beginWithData_18 rfl (lv_at hl 0 rfl) ?_
  refine va_get (D := D) (ci := 3) (v := .ref ca) (C := R_So) (T := F_So) (N := 9) hx hb hg f_So hown hK.1 hP 0 rfl rfl 2 (by decide) (hg _ q85) (fun _ h9 => h9) rfl d_Ma_beginWithData_19 ?_
  refine lv_iconst (v := 0) hx hb d_Ma_beginWithData_22 (by decide) ?_
  refine lv_bipush (v := 32) hx hb d_Ma_beginWithData_23 (by decide) ?_
  refine xa_cp hx hb (hml.trans hl.1.symm) hown hg q452 hK hP hD hS 6 2 0 rfl rfl rfl 0 0 32 rfl rfl rfl (by decide) (by decide) (by omega) (by omega) (Nat.le_of_ble_eq_true rfl) (Nat.le_of_ble_eq_true rfl) d_Ma_beginWithData_25 (fun H locs hP hD hS => ?_)
  have hP : va_P D cls [(mo, .inr (3, [.ref li, .ref ra, .ref ca, .ref aa, .int (nI kp), .int he, .int dn, .int en, .int nx])), (ra, .inl (cI, 8, .inl (tm_fl Rg 0 8))), (ca, .inl (cI, 32, .inl (va_cpy sd (tm_fl Ce 0 32) 0 0 32))), (aa, .inl (cI, 120, .inl Ac)), (li, .inr (1, [.ref lf, .int (nI n)])), (lf, .inl (cI, 96, .inl F)), (sD, .inl (cI, 32, .inl sd))] H := hP
  have hD : va_D A [(mo, .inr (3, [.ref li, .ref ra, .ref ca, .ref aa, .int (nI kp), .int he, .int dn, .int en, .int nx])), (ra, .inl (cI, 8, .inl (tm_fl Rg 0 8))), (ca, .inl (cI, 32, .inl (va_cpy sd (tm_fl Ce 0 32) 0 0 32))), (aa, .inl (cI, 120, .inl Ac)), (li, .inr (1, [.ref lf, .int (nI n)])), (lf, .inl (cI, 96, .inl F)), (sD, .inl (cI, 32, .inl sd))] := hD
  refine lv_aload_n hx hb d_Ma_beginWithData_28 rfl (lv_at hl 0 rfl) ?_
  refine lv_iconst (v := 0) hx hb d_Ma_beginWithData_29 (by decide) ?_
  refine va_put (D := D) (ci := 3) (v := .int 0) (ty := .int) (C := R_So) (T := F_So) (N := 9) hx hb hg f_So t_So t_So_ok n_So hown hK.1 hP hD hS 0 rfl rfl 4 (by decide) (hg _ q91) (fun _ h9 => h9) rfl (by decide +kernel) rfl rfl (Nat.le_of_ble_eq_true rfl) d_Ma_beginWithData_30 (fun H locs hP hD hS => ?_)
  have hP : va_P D cls [(mo, .inr (3, [.ref li, .ref ra, .ref ca, .ref aa, .int 0, .int he, .int dn, .int en, .int nx])), (ra, .inl (cI, 8, .inl (tm_fl Rg 0 8))), (ca, .inl (cI, 32, .inl (va_cpy sd (tm_fl Ce 0 32) 0 0 32))), (aa, .inl (cI, 120, .inl Ac)), (li, .inr (1, [.ref lf, .int (nI n)])), (lf, .inl (cI, 96, .inl F)), (sD, .inl (cI, 32, .inl sd))] H := hP
  have hD : va_D A [(mo, .inr (3, [.ref li, .ref ra, .ref ca, .ref aa, .int 0, .int he, .int dn, .int en, .int nx])), (ra, .inl (cI, 8, .inl (tm_fl Rg 0 8))), (ca, .inl (cI, 32, .inl (va_cpy sd (tm_fl Ce 0 32) 0 0 32))), (aa, .inl (cI, 120, .inl Ac)), (li, .inr (1, [.ref lf, .int (nI n)])), (lf, .inl (cI, 96, .inl F)), (sD, .inl (cI, 32, .inl sd))] := hD
  refine lv_aload_n hx hb d_Ma_beginWithData_33 rfl (lv_at hl 0 rfl) ?_
  refine lv_iconst (v := 0) hx hb d_Ma_beginWithData_34 (by decide) ?_
  refine va_put (D := D) (ci := 3) (v := .int 0) (ty := .int) (C := R_So) (T := F_So) (N := 9) hx hb hg f_So t_So t_So_ok n_So hown hK.1 hP hD hS 0 rfl rfl 5 (by decide) (hg _ q97) (fun _ h9 => h9) rfl (by decide +kernel) rfl rfl (Nat.le_of_ble_eq_true rfl) d_Ma_beginWithData_35 (fun H locs hP hD hS => ?_)
  have hP : va_P D cls [(mo, .inr (3, [.ref li, .ref ra, .ref ca, .ref aa, .int 0, .int 0, .int dn, .int en, .int nx])), (ra, .inl (cI, 8, .inl (tm_fl Rg 0 8))), (ca, .inl (cI, 32, .inl (va_cpy sd (tm_fl Ce 0 32) 0 0 32))), (aa, .inl (cI, 120, .inl Ac)), (li, .inr (1, [.ref lf, .int (nI n)])), (lf, .inl (cI, 96, .inl F)), (sD, .inl (cI, 32, .inl sd))] H := hP
  have hD : va_D A [(mo, .inr (3, [.ref li, .ref ra, .ref ca, .ref aa, .int 0, .int 0, .int dn, .int en, .int nx])), (ra, .inl (cI, 8, .inl (tm_fl Rg 0 8))), (ca, .inl (cI, 32, .inl (va_cpy sd (tm_fl Ce 0 32) 0 0 32))), (aa, .inl (cI, 120, .inl Ac)), (li, .inr (1, [.ref lf, .int (nI n)])), (lf, .inl (cI, 96, .inl F)), (sD, .inl (cI, 32, .inl sd))] := hD
  refine lv_aload_n hx hb d_Ma_beginWithData_38 rfl (lv_at hl 0 rfl) ?_
  refine lv_iconst (v := 0) hx hb d_Ma_beginWithData_39 (by decide) ?_
  refine va_put (D := D) (ci := 3) (v := .int 0) (ty := .int) (C := R_So) (T := F_So) (N := 9) hx hb hg f_So t_So t_So_ok n_So hown hK.1 hP hD hS 0 rfl rfl 6 (by decide) (hg _ q99) (fun _ h9 => h9) rfl (by decide +kernel) rfl rfl (Nat.le_of_ble_eq_true rfl) d_Ma_beginWithData_40 (fun H locs hP hD hS => ?_)
  have hP : va_P D cls [(mo, .inr (3, [.ref li, .ref ra, .ref ca, .ref aa, .int 0, .int 0, .int 0, .int en, .int nx])), (ra, .inl (cI, 8, .inl (tm_fl Rg 0 8))), (ca, .inl (cI, 32, .inl (va_cpy sd (tm_fl Ce 0 32) 0 0 32))), (aa, .inl (cI, 120, .inl Ac)), (li, .inr (1, [.ref lf, .int (nI n)])), (lf, .inl (cI, 96, .inl F)), (sD, .inl (cI, 32, .inl sd))] H := hP
  have hD : va_D A [(mo, .inr (3, [.ref li, .ref ra, .ref ca, .ref aa, .int 0, .int 0, .int 0, .int en, .int nx])), (ra, .inl (cI, 8, .inl (tm_fl Rg 0 8))), (ca, .inl (cI, 32, .inl (va_cpy sd (tm_fl Ce 0 32) 0 0 32))), (aa, .inl (cI, 120, .inl Ac)), (li, .inr (1, [.ref lf, .int (nI n)])), (lf, .inl (cI, 96, .inl F)), (sD, .inl (cI, 32, .inl sd))] := hD
  refine lv_aload_n hx hb d_Ma_beginWithData_43 rfl (lv_at hl 0 rfl) ?_
  refine lv_iconst (v := 0) hx hb d_Ma_beginWithData_44 (by decide) ?_
  refine va_put (D := D) (ci := 3) (v := .int 0) (ty := .int) (C := R_So) (T := F_So) (N := 9) hx hb hg f_So t_So t_So_ok n_So hown hK.1 hP hD hS 0 rfl rfl 7 (by decide) (hg _ q101) (fun _ h9 => h9) rfl (by decide +kernel) rfl rfl (Nat.le_of_ble_eq_true rfl) d_Ma_beginWithData_45 (fun H locs hP hD hS => ?_)
  have hP : va_P D cls [(mo, .inr (3, [.ref li, .ref ra, .ref ca, .ref aa, .int 0, .int 0, .int 0, .int 0, .int nx])), (ra, .inl (cI, 8, .inl (tm_fl Rg 0 8))), (ca, .inl (cI, 32, .inl (va_cpy sd (tm_fl Ce 0 32) 0 0 32))), (aa, .inl (cI, 120, .inl Ac)), (li, .inr (1, [.ref lf, .int (nI n)])), (lf, .inl (cI, 96, .inl F)), (sD, .inl (cI, 32, .inl sd))] H := hP
  have hD : va_D A [(mo, .inr (3, [.ref li, .ref ra, .ref ca, .ref aa, .int 0, .int 0, .int 0, .int 0, .int nx])), (ra, .inl (cI, 8, .inl (tm_fl Rg 0 8))), (ca, .inl (cI, 32, .inl (va_cpy sd (tm_fl Ce 0 32) 0 0 32))), (aa, .inl (cI, 120, .inl Ac)), (li, .inr (1, [.ref lf, .int (nI n)])), (lf, .inl (cI, 96, .inl F)), (sD, .inl (cI, 32, .inl sd))] := hD
  have hD := xa_D (e2 := .inl (cI, 8, .inl (fun _ => 0))) hD 1 rfl
  have hP := xa_P (g := fun _ => 0) hP 1 rfl (fun j hj => by unfold tm_fl; rw [if_pos hj])
  have hP : va_P D cls [(mo, .inr (3, [.ref li, .ref ra, .ref ca, .ref aa, .int 0, .int 0, .int 0, .int 0, .int nx])), (ra, .inl (cI, 8, .inl (fun _ => 0))), (ca, .inl (cI, 32, .inl (va_cpy sd (tm_fl Ce 0 32) 0 0 32))), (aa, .inl (cI, 120, .inl Ac)), (li, .inr (1, [.ref lf, .int (nI n)])), (lf, .inl (cI, 96, .inl F)), (sD, .inl (cI, 32, .inl sd))] H := hP
  have hD : va_D A [(mo, .inr (3, [.ref li, .ref ra, .ref ca, .ref aa, .int 0, .int 0, .int 0, .int 0, .int nx])), (ra, .inl (cI, 8, .inl (fun _ => 0))), (ca, .inl (cI, 32, .inl (va_cpy sd (tm_fl Ce 0 32) 0 0 32))), (aa, .inl (cI, 120, .inl Ac)), (li, .inr (1, [.ref lf, .int (nI n)])), (lf, .inl (cI, 96, .inl F)), (sD, .inl (cI, 32, .inl sd))] := hD
  have hD := xa_D (e2 := .inl (cI, 32, .inl (tm_c0 sd))) hD 2 rfl
  have hP := xa_P (g := tm_c0 sd) hP 2 rfl (tm_c0_a sd Ce 32)
  have hP : va_P D cls [(mo, .inr (3, [.ref li, .ref ra, .ref ca, .ref aa, .int 0, .int 0, .int 0, .int 0, .int nx])), (ra, .inl (cI, 8, .inl (fun _ => 0))), (ca, .inl (cI, 32, .inl (tm_c0 sd))), (aa, .inl (cI, 120, .inl Ac)), (li, .inr (1, [.ref lf, .int (nI n)])), (lf, .inl (cI, 96, .inl F)), (sD, .inl (cI, 32, .inl sd))] H := hP
  have hD : va_D A [(mo, .inr (3, [.ref li, .ref ra, .ref ca, .ref aa, .int 0, .int 0, .int 0, .int 0, .int nx])), (ra, .inl (cI, 8, .inl (fun _ => 0))), (ca, .inl (cI, 32, .inl (tm_c0 sd))), (aa, .inl (cI, 120, .inl Ac)), (li, .inr (1, [.ref lf, .int (nI n)])), (lf, .inl (cI, 96, .inl F)), (sD, .inl (cI, 32, .inl sd))] := hD
  have ew1 : 0 = nI 0 := by first | rfl | simp []
  have hP : va_P D cls [(mo, .inr (3, [.ref li, .ref ra, .ref ca, .ref aa, .int (nI 0), .int 0, .int 0, .int 0, .int nx])), (ra, .inl (cI, 8, .inl (fun _ => 0))), (ca, .inl (cI, 32, .inl (tm_c0 sd))), (aa, .inl (cI, 120, .inl Ac)), (li, .inr (1, [.ref lf, .int (nI n)])), (lf, .inl (cI, 96, .inl F)), (sD, .inl (cI, 32, .inl sd))] H := by rw [← ew1]; exact hP
  have hD : va_D A [(mo, .inr (3, [.ref li, .ref ra, .ref ca, .ref aa, .int (nI 0), .int 0, .int 0, .int 0, .int nx])), (ra, .inl (cI, 8, .inl (fun _ => 0))), (ca, .inl (cI, 32, .inl (tm_c0 sd))), (aa, .inl (cI, 120, .inl Ac)), (li, .inr (1, [.ref lf, .int (nI n)])), (lf, .inl (cI, 96, .inl F)), (sD, .inl (cI, 32, .inl sd))] := by rw [← ew1]; exact hD
  exact W.vret hx hb hr (fun t9 ht9 hW9 => ⟨⟨(), rfl, trivial, by rw [ht9]; exact hP, hD⟩, hS.F ht9⟩) hS.2.2 d_Ma_beginWithData_48

set_option maxHeartbeats 4000000 in
set_option maxRecDepth 100000 in
theorem c_Ta_beginWithData (l : Launch) (D : va_G) (cI cZ cJ : ClassId) (mo li ra ca aa lf tr : Nat) (Rg Ce Ac F : Nat → Int32) (n kp : Nat) (dn en : Int32) (he : Int32) (sD : Nat) (sd : Nat → Int32) : xw_Met l y_Ma_beginWithData b_Ma_beginWithData 2 none { frames := 1, cells := 0, slots := 0, locals := 26 } [.ref mo, .ref sD] D cls (tyL cI cZ cJ) [(mo, .inr (4, [.ref li, .ref ra, .ref ca, .ref aa, .int (nI kp), .int he, .int dn, .int en, .ref tr])), (ra, .inl (cI, 8, .inl Rg)), (ca, .inl (cI, 64, .inl Ce)), (aa, .inl (cI, 120, .inl Ac)), (li, .inr (1, [.ref lf, .int (nI n)])), (lf, .inl (cI, 868, .inl F)), (sD, .inl (cI, 32, .inl sd))] [(mo, .inr (4, [.ref li, .ref ra, .ref ca, .ref aa, .int (nI 0), .int 0, .int 0, .int 0, .ref tr])), (ra, .inl (cI, 8, .inl (fun _ => 0))), (ca, .inl (cI, 64, .inl (tm_c0 sd))), (aa, .inl (cI, 120, .inl Ac)), (li, .inr (1, [.ref lf, .int (nI n)])), (lf, .inl (cI, 868, .inl F)), (sD, .inl (cI, 32, .inl sd))] := by
  intro sz
  refine Met.ofW (cc := b_Ma_beginWithData) (maxL := 2) (ret := none) (by decide) rfl ?_
  intro p e s m args below meth c s₁ B0 hml hv
  obtain ⟨rfl, hsz, hP, hK, hD0⟩ := hv
  have hx := B0.exec
  have hb := B0.bytes
  have hr := B0.returns
  have hlocks := B0.notSynchronized
  have hg : ∀ w ∈ gG, w.before _ s = true := fun w h => atoms_spec B0.pre w (List.mem_cons_of_mem _ h)
  have hown : s.vm.findClass R_Ma = some m.cls := findClass_of_methodNamed B0.named
  subst hsz
  have hD := hD0.self (sz := s.heap.size)
  generalize hAe : va_A [(mo, .inr (4, [.ref li, .ref ra, .ref ca, .ref aa, .int (nI kp), .int he, .int dn, .int en, .ref tr])), (ra, .inl (cI, 8, .inl Rg)), (ca, .inl (cI, 64, .inl Ce)), (aa, .inl (cI, 120, .inl Ac)), (li, .inr (1, [.ref lf, .int (nI n)])), (lf, .inl (cI, 868, .inl F)), (sD, .inl (cI, 32, .inl sd))] s.heap.size = A at hD ⊢
  have hA : ∀ q : Nat, s.heap.size ≤ q → A q := fun q h => by rw [← hAe]; exact Or.inr h
  have hS : va_S A s.heap s.heap [] := va_S.rf
  have hP : va_P D cls [(mo, .inr (4, [.ref li, .ref ra, .ref ca, .ref aa, .int (nI kp), .int he, .int dn, .int en, .ref tr])), (ra, .inl (cI, 8, .inl Rg)), (ca, .inl (cI, 64, .inl Ce)), (aa, .inl (cI, 120, .inl Ac)), (li, .inr (1, [.ref lf, .int (nI n)])), (lf, .inl (cI, 868, .inl F)), (sD, .inl (cI, 32, .inl sd))] s.heap := hP
  have hl := lv_entry ([.ref mo, .ref sD]) (n := 2) (Nat.le_of_ble_eq_true rfl)
  rw [lg_entry_eq]
  generalize (lg_sl ([.ref mo, .ref sD]) ++ List.replicate (2 - (lg_sl ([.ref mo, .ref sD])).length) Slot.unset).toArray = ls at hl ⊢
  have hl : lv_has ls 2 [(0, .ref mo), (1, .ref sD)] := hl
  refine lv_aload_n hx hb d_Ma_beginWithData_0 rfl (lv_at hl 0 rfl) ?_
  refine va_get (D := D) (ci := 4) (v := .ref ra) (C := R_Ta) (T := F_Ta) (N := 9) hx hb hg f_Ta hown hK.1 hP 0 rfl rfl 1 (by decide) (hg _ q80) (fun _ h9 => h9) rfl d_Ma_beginWithData_1 ?_
  refine lv_iconst (v := 0) hx hb d_Ma_beginWithData_4 (by decide) ?_
  refine xw_go (w2 := [(mo, .inr (4, [.ref li, .ref ra, .ref ca, .ref aa, .int (nI kp), .int he, .int dn, .int en, .ref tr])), (ra, .inl (cI, 8, .inl (tm_fl Rg 0 8))), (ca, .inl (cI, 64, .inl Ce)), (aa, .inl (cI, 120, .inl Ac)), (li, .inr (1, [.ref lf, .int (nI n)])), (lf, .inl (cI, 868, .inl F)), (sD, .inl (cI, 32, .inl sd))]) (wr := [(mo, .inr (4, [.ref li, .ref ra, .ref ca, .ref aa, .int (nI kp), .int he, .int dn, .int en, .ref tr])), (ca, .inl (cI, 64, .inl Ce)), (aa, .inl (cI, 120, .inl Ac)), (li, .inr (1, [.ref lf, .int (nI n)])), (lf, .inl (cI, 868, .inl F)), (sD, .inl (cI, 32, .inl sd))]) (w1 := [(ra, .inl (cI, 8, .inl (tm_fl Rg 0 8)))]) (va_runS (As := [.ref ra, .int 0]) (rest := []) ⟨hx, hb, hml, hown, hg⟩ (c_JA_fill l D cI cZ cJ ra 8 Rg 0 (by omega) s.heap.size) ⟨xg_B hg m_JA_fill.1 m_JA_fill.2.2.1 m_JA_fill.2.2.2.1 m_JA_fill.2.2.2.2 q449 rfl rfl ⟨Nat.le_of_ble_eq_true rfl, Nat.le_of_ble_eq_true rfl⟩, hg _ m_JA_fill.2.1⟩ ⟨xw_blind, xw_pre hK hP hD [1] (by decide) rfl⟩ rfl rfl hl.1 rfl (lv_room (Nat.le_of_ble_eq_true rfl)) d_Ma_beginWithData_5 ⟨Nat.zero_le _, Nat.zero_le _⟩) hP hD hS hA [1] [0, 2, 3, 4, 5, 6] [0, 6, 1, 2, 3, 4, 5] rfl rfl (by decide) (by decide) rfl (by decide) (fun H locs hP hD hS => ?_)
  refine lv_aload_n hx hb d_Ma_beginWithData_8 rfl (lv_at hl 0 rfl) ?_
  refine va_get (D := D) (ci := 4) (v := .ref ca) (C := R_Ta) (T := F_Ta) (N := 9) hx hb hg f_Ta hown hK.1 hP 0 rfl rfl 2 (by decide) (hg _ q85) (fun _ h9 => h9) rfl d_Ma_beginWithData_9 ?_
  refine lv_iconst (v := 0) hx hb d_Ma_beginWithData_12 (by decide) ?_
  refine xw_go (w2 := [(mo, .inr (4, [.ref li, .ref ra, .ref ca, .ref aa, .int (nI kp), .int he, .int dn, .int en, .ref tr])), (ra, .inl (cI, 8, .inl (tm_fl Rg 0 8))), (ca, .inl (cI, 64, .inl (tm_fl Ce 0 64))), (aa, .inl (cI, 120, .inl Ac)), (li, .inr (1, [.ref lf, .int (nI n)])), (lf, .inl (cI, 868, .inl F)), (sD, .inl (cI, 32, .inl sd))]) (wr := [(mo, .inr (4, [.ref li, .ref ra, .ref ca, .ref aa, .int (nI kp), .int he, .int dn, .int en, .ref tr])), (ra, .inl (cI, 8, .inl (tm_fl Rg 0 8))), (aa, .inl (cI, 120, .inl Ac)), (li, .inr (1, [.ref lf, .int (nI n)])), (lf, .inl (cI, 868, .inl F)), (sD, .inl (cI, 32, .inl sd))]) (w1 := [(ca, .inl (cI, 64, .inl (tm_fl Ce 0 64)))]) (va_runS (As := [.ref ca, .int 0]) (rest := []) ⟨hx, hb, hml, hown, hg⟩ (c_JA_fill l D cI cZ cJ ca 64 Ce 0 (by omega) H.size) ⟨xg_B hg m_JA_fill.1 m_JA_fill.2.2.1 m_JA_fill.2.2.2.1 m_JA_fill.2.2.2.2 q449 rfl rfl ⟨Nat.le_of_ble_eq_true rfl, Nat.le_of_ble_eq_true rfl⟩, hg _ m_JA_fill.2.1⟩ ⟨xw_blind, xw_pre hK hP hD [2] (by decide) rfl⟩ rfl rfl hl.1 rfl (lv_room (Nat.le_of_ble_eq_true rfl)) d_Ma_beginWithData_13 ⟨Nat.zero_le _, Nat.zero_le _⟩) hP hD hS hA [2] [0, 1, 3, 4, 5, 6] [0, 1, 6, 2, 3, 4, 5] rfl rfl (by decide) (by decide) rfl (by decide) (fun H locs hP hD hS => ?_)
  refine lv_aload_n hx hb d_Ma_beginWithData_16 rfl (lv_at hl 1 rfl) ?_
  refine lv_iconst (v := 0) hx hb d_Ma_beginWithData_17 (by decide) ?_
  refine lv_aload_n hx hb d_Ma_beginWithData_18 rfl (lv_at hl 0 rfl) ?_
  refine va_get (D := D) (ci := 4) (v := .ref ca) (C := R_Ta) (T := F_Ta) (N := 9) hx hb hg f_Ta hown hK.1 hP 0 rfl rfl 2 (by decide) (hg _ q85) (fun _ h9 => h9) rfl d_Ma_beginWithData_19 ?_
  refine lv_iconst (v := 0) hx hb d_Ma_beginWithData_22 (by decide) ?_
  refine lv_bipush (v := 32) hx hb d_Ma_beginWithData_23 (by decide) ?_
  refine xa_cp hx hb (hml.trans hl.1.symm) hown hg q452 hK hP hD hS 6 2 0 rfl rfl rfl 0 0 32 rfl rfl rfl (by decide) (by decide) (by omega) (by omega) (Nat.le_of_ble_eq_true rfl) (Nat.le_of_ble_eq_true rfl) d_Ma_beginWithData_25 (fun H locs hP hD hS => ?_)
  have hP : va_P D cls [(mo, .inr (4, [.ref li, .ref ra, .ref ca, .ref aa, .int (nI kp), .int he, .int dn, .int en, .ref tr])), (ra, .inl (cI, 8, .inl (tm_fl Rg 0 8))), (ca, .inl (cI, 64, .inl (va_cpy sd (tm_fl Ce 0 64) 0 0 32))), (aa, .inl (cI, 120, .inl Ac)), (li, .inr (1, [.ref lf, .int (nI n)])), (lf, .inl (cI, 868, .inl F)), (sD, .inl (cI, 32, .inl sd))] H := hP
  have hD : va_D A [(mo, .inr (4, [.ref li, .ref ra, .ref ca, .ref aa, .int (nI kp), .int he, .int dn, .int en, .ref tr])), (ra, .inl (cI, 8, .inl (tm_fl Rg 0 8))), (ca, .inl (cI, 64, .inl (va_cpy sd (tm_fl Ce 0 64) 0 0 32))), (aa, .inl (cI, 120, .inl Ac)), (li, .inr (1, [.ref lf, .int (nI n)])), (lf, .inl (cI, 868, .inl F)), (sD, .inl (cI, 32, .inl sd))] := hD
  refine lv_aload_n hx hb d_Ma_beginWithData_28 rfl (lv_at hl 0 rfl) ?_
  refine lv_iconst (v := 0) hx hb d_Ma_beginWithData_29 (by decide) ?_
  refine va_put (D := D) (ci := 4) (v := .int 0) (ty := .int) (C := R_Ta) (T := F_Ta) (N := 9) hx hb hg f_Ta t_Ta t_Ta_ok n_Ta hown hK.1 hP hD hS 0 rfl rfl 4 (by decide) (hg _ q91) (fun _ h9 => h9) rfl (by decide +kernel) rfl rfl (Nat.le_of_ble_eq_true rfl) d_Ma_beginWithData_30 (fun H locs hP hD hS => ?_)
  have hP : va_P D cls [(mo, .inr (4, [.ref li, .ref ra, .ref ca, .ref aa, .int 0, .int he, .int dn, .int en, .ref tr])), (ra, .inl (cI, 8, .inl (tm_fl Rg 0 8))), (ca, .inl (cI, 64, .inl (va_cpy sd (tm_fl Ce 0 64) 0 0 32))), (aa, .inl (cI, 120, .inl Ac)), (li, .inr (1, [.ref lf, .int (nI n)])), (lf, .inl (cI, 868, .inl F)), (sD, .inl (cI, 32, .inl sd))] H := hP
  have hD : va_D A [(mo, .inr (4, [.ref li, .ref ra, .ref ca, .ref aa, .int 0, .int he, .int dn, .int en, .ref tr])), (ra, .inl (cI, 8, .inl (tm_fl Rg 0 8))), (ca, .inl (cI, 64, .inl (va_cpy sd (tm_fl Ce 0 64) 0 0 32))), (aa, .inl (cI, 120, .inl Ac)), (li, .inr (1, [.ref lf, .int (nI n)])), (lf, .inl (cI, 868, .inl F)), (sD, .inl (cI, 32, .inl sd))] := hD
  refine lv_aload_n hx hb d_Ma_beginWithData_33 rfl (lv_at hl 0 rfl) ?_
  refine lv_iconst (v := 0) hx hb d_Ma_beginWithData_34 (by decide) ?_
  refine va_put (D := D) (ci := 4) (v := .int 0) (ty := .int) (C := R_Ta) (T := F_Ta) (N := 9) hx hb hg f_Ta t_Ta t_Ta_ok n_Ta hown hK.1 hP hD hS 0 rfl rfl 5 (by decide) (hg _ q97) (fun _ h9 => h9) rfl (by decide +kernel) rfl rfl (Nat.le_of_ble_eq_true rfl) d_Ma_beginWithData_35 (fun H locs hP hD hS => ?_)
  have hP : va_P D cls [(mo, .inr (4, [.ref li, .ref ra, .ref ca, .ref aa, .int 0, .int 0, .int dn, .int en, .ref tr])), (ra, .inl (cI, 8, .inl (tm_fl Rg 0 8))), (ca, .inl (cI, 64, .inl (va_cpy sd (tm_fl Ce 0 64) 0 0 32))), (aa, .inl (cI, 120, .inl Ac)), (li, .inr (1, [.ref lf, .int (nI n)])), (lf, .inl (cI, 868, .inl F)), (sD, .inl (cI, 32, .inl sd))] H := hP
  have hD : va_D A [(mo, .inr (4, [.ref li, .ref ra, .ref ca, .ref aa, .int 0, .int 0, .int dn, .int en, .ref tr])), (ra, .inl (cI, 8, .inl (tm_fl Rg 0 8))), (ca, .inl (cI, 64, .inl (va_cpy sd (tm_fl Ce 0 64) 0 0 32))), (aa, .inl (cI, 120, .inl Ac)), (li, .inr (1, [.ref lf, .int (nI n)])), (lf, .inl (cI, 868, .inl F)), (sD, .inl (cI, 32, .inl sd))] := hD
  refine lv_aload_n hx hb d_Ma_beginWithData_38 rfl (lv_at hl 0 rfl) ?_
  refine lv_iconst (v := 0) hx hb d_Ma_beginWithData_39 (by decide) ?_
  refine va_put (D := D) (ci := 4) (v := .int 0) (ty := .int) (C := R_Ta) (T := F_Ta) (N := 9) hx hb hg f_Ta t_Ta t_Ta_ok n_Ta hown hK.1 hP hD hS 0 rfl rfl 6 (by decide) (hg _ q99) (fun _ h9 => h9) rfl (by decide +kernel) rfl rfl (Nat.le_of_ble_eq_true rfl) d_Ma_beginWithData_40 (fun H locs hP hD hS => ?_)
  have hP : va_P D cls [(mo, .inr (4, [.ref li, .ref ra, .ref ca, .ref aa, .int 0, .int 0, .int 0, .int en, .ref tr])), (ra, .inl (cI, 8, .inl (tm_fl Rg 0 8))), (ca, .inl (cI, 64, .inl (va_cpy sd (tm_fl Ce 0 64) 0 0 32))), (aa, .inl (cI, 120, .inl Ac)), (li, .inr (1, [.ref lf, .int (nI n)])), (lf, .inl (cI, 868, .inl F)), (sD, .inl (cI, 32, .inl sd))] H := hP
  have hD : va_D A [(mo, .inr (4, [.ref li, .ref ra, .ref ca, .ref aa, .int 0, .int 0, .int 0, .int en, .ref tr])), (ra, .inl (cI, 8, .inl (tm_fl Rg 0 8))), (ca, .inl (cI, 64, .inl (va_cpy sd (tm_fl Ce 0 64) 0 0 32))), (aa, .inl (cI, 120, .inl Ac)), (li, .inr (1, [.ref lf, .int (nI n)])), (lf, .inl (cI, 868, .inl F)), (sD, .inl (cI, 32, .inl sd))] := hD
  refine lv_aload_n hx hb d_Ma_beginWithData_43 rfl (lv_at hl 0 rfl) ?_
  refine lv_iconst (v := 0) hx hb d_Ma_beginWithData_44 (by decide) ?_
  refine va_put (D := D) (ci := 4) (v := .int 0) (ty := .int) (C := R_Ta) (T := F_Ta) (N := 9) hx hb hg f_Ta t_Ta t_Ta_ok n_Ta hown hK.1 hP hD hS 0 rfl rfl 7 (by decide) (hg _ q101) (fun _ h9 => h9) rfl (by decide +kernel) rfl rfl (Nat.le_of_ble_eq_true rfl) d_Ma_beginWithData_45 (fun H locs hP hD hS => ?_)
  have hP : va_P D cls [(mo, .inr (4, [.ref li, .ref ra, .ref ca, .ref aa, .int 0, .int 0, .int 0, .int 0, .ref tr])), (ra, .inl (cI, 8, .inl (tm_fl Rg 0 8))), (ca, .inl (cI, 64, .inl (va_cpy sd (tm_fl Ce 0 64) 0 0 32))), (aa, .inl (cI, 120, .inl Ac)), (li, .inr (1, [.ref lf, .int (nI n)])), (lf, .inl (cI, 868, .inl F)), (sD, .inl (cI, 32, .inl sd))] H := hP
  have hD : va_D A [(mo, .inr (4, [.ref li, .ref ra, .ref ca, .ref aa, .int 0, .int 0, .int 0, .int 0, .ref tr])), (ra, .inl (cI, 8, .inl (tm_fl Rg 0 8))), (ca, .inl (cI, 64, .inl (va_cpy sd (tm_fl Ce 0 64) 0 0 32))), (aa, .inl (cI, 120, .inl Ac)), (li, .inr (1, [.ref lf, .int (nI n)])), (lf, .inl (cI, 868, .inl F)), (sD, .inl (cI, 32, .inl sd))] := hD
  have hD := xa_D (e2 := .inl (cI, 8, .inl (fun _ => 0))) hD 1 rfl
  have hP := xa_P (g := fun _ => 0) hP 1 rfl (fun j hj => by unfold tm_fl; rw [if_pos hj])
  have hP : va_P D cls [(mo, .inr (4, [.ref li, .ref ra, .ref ca, .ref aa, .int 0, .int 0, .int 0, .int 0, .ref tr])), (ra, .inl (cI, 8, .inl (fun _ => 0))), (ca, .inl (cI, 64, .inl (va_cpy sd (tm_fl Ce 0 64) 0 0 32))), (aa, .inl (cI, 120, .inl Ac)), (li, .inr (1, [.ref lf, .int (nI n)])), (lf, .inl (cI, 868, .inl F)), (sD, .inl (cI, 32, .inl sd))] H := hP
  have hD : va_D A [(mo, .inr (4, [.ref li, .ref ra, .ref ca, .ref aa, .int 0, .int 0, .int 0, .int 0, .ref tr])), (ra, .inl (cI, 8, .inl (fun _ => 0))), (ca, .inl (cI, 64, .inl (va_cpy sd (tm_fl Ce 0 64) 0 0 32))), (aa, .inl (cI, 120, .inl Ac)), (li, .inr (1, [.ref lf, .int (nI n)])), (lf, .inl (cI, 868, .inl F)), (sD, .inl (cI, 32, .inl sd))] := hD
  have hD := xa_D (e2 := .inl (cI, 64, .inl (tm_c0 sd))) hD 2 rfl
  have hP := xa_P (g := tm_c0 sd) hP 2 rfl (tm_c0_a sd Ce 64)
  have hP : va_P D cls [(mo, .inr (4, [.ref li, .ref ra, .ref ca, .ref aa, .int 0, .int 0, .int 0, .int 0, .ref tr])), (ra, .inl (cI, 8, .inl (fun _ => 0))), (ca, .inl (cI, 64, .inl (tm_c0 sd))), (aa, .inl (cI, 120, .inl Ac)), (li, .inr (1, [.ref lf, .int (nI n)])), (lf, .inl (cI, 868, .inl F)), (sD, .inl (cI, 32, .inl sd))] H := hP
  have hD : va_D A [(mo, .inr (4, [.ref li, .ref ra, .ref ca, .ref aa, .int 0, .int 0, .int 0, .int 0, .ref tr])), (ra, .inl (cI, 8, .inl (fun _ => 0))), (ca, .inl (cI, 64, .inl (tm_c0 sd))), (aa, .inl (cI, 120, .inl Ac)), (li, .inr (1, [.ref lf, .int (nI n)])), (lf, .inl (cI, 868, .inl F)), (sD, .inl (cI, 32, .inl sd))] := hD
  have ew1 : 0 = nI 0 := by first | rfl | simp []
  have hP : va_P D cls [(mo, .inr (4, [.ref li, .ref ra, .ref ca, .ref aa, .int (nI 0), .int 0, .int 0, .int 0, .ref tr])), (ra, .inl (cI, 8, .inl (fun _ => 0))), (ca, .inl (cI, 64, .inl (tm_c0 sd))), (aa, .inl (cI, 120, .inl Ac)), (li, .inr (1, [.ref lf, .int (nI n)])), (lf, .inl (cI, 868, .inl F)), (sD, .inl (cI, 32, .inl sd))] H := by rw [← ew1]; exact hP
  have hD : va_D A [(mo, .inr (4, [.ref li, .ref ra, .ref ca, .ref aa, .int (nI 0), .int 0, .int 0, .int 0, .ref tr])), (ra, .inl (cI, 8, .inl (fun _ => 0))), (ca, .inl (cI, 64, .inl (tm_c0 sd))), (aa, .inl (cI, 120, .inl Ac)), (li, .inr (1, [.ref lf, .int (nI n)])), (lf, .inl (cI, 868, .inl F)), (sD, .inl (cI, 32, .inl sd))] := by rw [← ew1]; exact hD
  exact W.vret hx hb hr (fun t9 ht9 hW9 => ⟨⟨(), rfl, trivial, by rw [ht9]; exact hP, hD⟩, hS.F ht9⟩) hS.2.2 d_Ma_beginWithData_48
