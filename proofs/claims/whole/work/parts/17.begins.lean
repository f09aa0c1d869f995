/-! MACHINES: begin of each kind, the registers as the document counts them (printed by wip/whole/gen/c17.py) -/
/-- the target's registers behind begin, and its cells -/
def tm_r1 (sr : tF) : tF := fun i => if i = 0 then 0 else if i < 4 then sr i else 0
def tm_c1 (sr sd B : tF) (np : Nat) : tF := fun i => if i < 32 then sd i else if i < 36 then 0 else if i < 40 then sr (i - 32) else if i < 40 + np then B (i - 40) else 0
theorem tm_r1_a (sr : tF) : ∀ j, j < 8 → upd (upd (upd (fun _ => 0) 1 (sr 1)) 2 (sr 2)) 3 (sr 3) j = tm_r1 sr j := by
  intro j hj
  rcases (show j = 0 ∨ j = 1 ∨ j = 2 ∨ j = 3 ∨ j = 4 ∨ j = 5 ∨ j = 6 ∨ j = 7 by omega) with h | h | h | h | h | h | h | h <;> subst h <;> rfl
theorem tm_c1_a (sr sd B : tF) {np : Nat} (hnp : np ≤ 24) : ∀ j, j < 64 → va_cpy B (upd (upd (upd (upd (tm_c0 sd) 36 (sr 4)) 37 (sr 5)) 38 (sr 6)) 39 (sr 7)) 0 40 np j = tm_c1 sr sd B np j := by
  intro j hj
  unfold tm_c1
  by_cases h : 40 ≤ j ∧ j < 40 + np
  · rw [pk_cpy_in h.1 h.2, if_neg (by omega), if_neg (by omega), if_neg (by omega), if_pos h.2, Nat.zero_add]
  · rw [pk_cpy_out (by omega)]
    rcases (show j < 32 ∨ (32 ≤ j ∧ j < 36) ∨ j = 36 ∨ j = 37 ∨ j = 38 ∨ j = 39 ∨ 40 + np ≤ j by omega) with z | z | z | z | z | z | z
    · rw [if_pos z]; simp only [upd, tm_c0]; rw [if_neg (by omega), if_neg (by omega), if_neg (by omega), if_neg (by omega), if_pos z]
    · rw [if_neg (by omega), if_pos z.2]; simp only [upd, tm_c0]; rw [if_neg (by omega), if_neg (by omega), if_neg (by omega), if_neg (by omega), if_neg (by omega)]
    · subst z; rfl
    · subst z; rfl
    · subst z; rfl
    · subst z; rfl
    · rw [if_neg (by omega), if_neg (by omega), if_neg (by omega), if_neg (by omega)]; simp only [upd, tm_c0]; rw [if_neg (by omega), if_neg (by omega), if_neg (by omega), if_neg (by omega), if_neg (by omega)]

set_option maxHeartbeats 4000000 in
set_option maxRecDepth 100000 in
theorem c_So_begin (l : Launch) (D : va_G) (cI cZ cJ : ClassId) (mo li ra ca aa lf : Nat) (Rg Ce Ac F : Nat → Int32) (n kp : Nat) (dn en nx : Int32) (he : Int32) (sR sD : Nat) (sr sd : Nat → Int32) : xw_Met l y_So_begin b_So_begin 3 none { frames := 2, cells := 0, slots := 0, locals := 47 } [.ref mo, .ref sR, .ref sD] D cls (tyL cI cZ cJ) [(mo, .inr (3, [.ref li, .ref ra, .ref ca, .ref aa, .int (nI kp), .int he, .int dn, .int en, .int nx])), (ra, .inl (cI, 8, .inl Rg)), (ca, .inl (cI, 32, .inl Ce)), (aa, .inl (cI, 120, .inl Ac)), (li, .inr (1, [.ref lf, .int (nI n)])), (lf, .inl (cI, 96, .inl F)), (sR, .inl (cI, 8, .inl sr)), (sD, .inl (cI, 32, .inl sd))] [(mo, .inr (3, [.ref li, .ref ra, .ref ca, .ref aa, .int (nI 0), .int 0, .int 0, .int 0, .int 1])), (ra, .inl (cI, 8, .inl sr)), (ca, .inl (cI, 32, .inl (tm_c0 sd))), (aa, .inl (cI, 120, .inl Ac)), (li, .inr (1, [.ref lf, .int (nI n)])), (lf, .inl (cI, 96, .inl F)), (sR, .inl (cI, 8, .inl sr)), (sD, .inl (cI, 32, .inl sd))] := by
  intro sz
  refine Met.ofW (cc := b_So_begin) (maxL := 3) (ret := none) (by decide) rfl ?_
  intro p e s m args below meth c s₁ B0 hml hv
  obtain ⟨rfl, hsz, hP, hK, hD0⟩ := hv
  have hx := B0.exec
  have hb := B0.bytes
  have hr := B0.returns
  have hlocks := B0.notSynchronized
  have hg : ∀ w ∈ gG, w.before _ s = true := fun w h => atoms_spec B0.pre w (List.mem_cons_of_mem _ h)
  have hown : s.vm.findClass R_So = some m.cls := findClass_of_methodNamed B0.named
  subst hsz
  have hD := hD0.self (sz := s.heap.size)
  generalize hAe : va_A [(mo, .inr (3, [.ref li, .ref ra, .ref ca, .ref aa, .int (nI kp), .int he, .int dn, .int en, .int nx])), (ra, .inl (cI, 8, .inl Rg)), (ca, .inl (cI, 32, .inl Ce)), (aa, .inl (cI, 120, .inl Ac)), (li, .inr (1, [.ref lf, .int (nI n)])), (lf, .inl (cI, 96, .inl F)), (sR, .inl (cI, 8, .inl sr)), (sD, .inl (cI, 32, .inl sd))] s.heap.size = A at hD ⊢
  have hA : ∀ q : Nat, s.heap.size ≤ q → A q := fun q h => by rw [← hAe]; exact Or.inr h
  have hS : va_S A s.heap s.heap [] := va_S.rf
  have hP : va_P D cls [(mo, .inr (3, [.ref li, .ref ra, .ref ca, .ref aa, .int (nI kp), .int he, .int dn, .int en, .int nx])), (ra, .inl (cI, 8, .inl Rg)), (ca, .inl (cI, 32, .inl Ce)), (aa, .inl (cI, 120, .inl Ac)), (li, .inr (1, [.ref lf, .int (nI n)])), (lf, .inl (cI, 96, .inl F)), (sR, .inl (cI, 8, .inl sr)), (sD, .inl (cI, 32, .inl sd))] s.heap := hP
  have hl := lv_entry ([.ref mo, .ref sR, .ref sD]) (n := 3) (Nat.le_of_ble_eq_true rfl)
  rw [lg_entry_eq]
  generalize (lg_sl ([.ref mo, .ref sR, .ref sD]) ++ List.replicate (3 - (lg_sl ([.ref mo, .ref sR, .ref sD])).length) Slot.unset).toArray = ls at hl ⊢
  have hl : lv_has ls 3 [(0, .ref mo), (1, .ref sR), (2, .ref sD)] := hl
  refine lv_aload_n hx hb d_So_begin_0 rfl (lv_at hl 0 rfl) ?_
  refine lv_aload_n hx hb d_So_begin_1 rfl (lv_at hl 2 rfl) ?_
  refine xw_go (w2 := [(mo, .inr (3, [.ref li, .ref ra, .ref ca, .ref aa, .int (nI 0), .int 0, .int 0, .int 0, .int nx])), (ra, .inl (cI, 8, .inl (fun _ => 0))), (ca, .inl (cI, 32, .inl (tm_c0 sd))), (aa, .inl (cI, 120, .inl Ac)), (li, .inr (1, [.ref lf, .int (nI n)])), (lf, .inl (cI, 96, .inl F)), (sR, .inl (cI, 8, .inl sr)), (sD, .inl (cI, 32, .inl sd))]) (wr := [(sR, .inl (cI, 8, .inl sr))]) (w1 := [(mo, .inr (3, [.ref li, .ref ra, .ref ca, .ref aa, .int (nI 0), .int 0, .int 0, .int 0, .int nx])), (ra, .inl (cI, 8, .inl (fun _ => 0))), (ca, .inl (cI, 32, .inl (tm_c0 sd))), (aa, .inl (cI, 120, .inl Ac)), (li, .inr (1, [.ref lf, .int (nI n)])), (lf, .inl (cI, 96, .inl F)), (sD, .inl (cI, 32, .inl sd))]) (va_runU (As := [.ref sD]) (rest := []) (C := R_So) ⟨hx, hb, hml, hown, hg⟩ (c_So_beginWithData l D cI cZ cJ mo li ra ca aa lf Rg Ce Ac F n kp dn en nx he sD sd s.heap.size) (xg_O (x := ⟨"TwoMachines$SourceMachine", "beginWithData", "([I)V"⟩) (owner := R_Ma) hg m_Ma_beginWithData q443 q444 rfl m_Ma_beginWithData q446 ⟨by decide, by decide, by decide +kernel⟩ rfl rfl ⟨Nat.le_of_ble_eq_true rfl, Nat.le_of_ble_eq_true rfl⟩) ⟨xw_blind, (va_recv (q0 := 0) hK.1 hP rfl rfl), xw_pre hK hP hD [0, 1, 2, 3, 4, 5, 7] (by decide) rfl⟩ rfl rfl hl.1 rfl (lv_room (Nat.le_of_ble_eq_true rfl)) d_So_begin_2 ⟨Nat.zero_le _, Nat.zero_le _⟩) hP hD hS hA [0, 1, 2, 3, 4, 5, 7] [6] [1, 2, 3, 4, 5, 6, 0, 7] rfl rfl (by decide) (by decide) rfl (by decide) (fun H locs hP hD hS => ?_)
  refine lv_aload_n hx hb d_So_begin_5 rfl (lv_at hl 1 rfl) ?_
  refine lv_iconst (v := 0) hx hb d_So_begin_6 (by decide) ?_
  refine lv_aload_n hx hb d_So_begin_7 rfl (lv_at hl 0 rfl) ?_
  refine va_get (D := D) (ci := 3) (v := .ref ra) (C := R_So) (T := F_So) (N := 9) hx hb hg f_So hown hK.1 hP 0 rfl rfl 1 (by decide) (hg _ q81) (fun x9 h9 => u_same (hg _ q82) x9 h9) rfl d_So_begin_8 ?_
  refine lv_iconst (v := 0) hx hb d_So_begin_11 (by decide) ?_
  refine lv_bipush (v := 8) hx hb d_So_begin_12 (by decide) ?_
  refine xa_cp hx hb (hml.trans hl.1.symm) hown hg q455 hK hP hD hS 6 1 0 rfl rfl rfl 0 0 8 rfl rfl rfl (by decide) (by decide) (by omega) (by omega) (Nat.le_of_ble_eq_true rfl) (Nat.le_of_ble_eq_true rfl) d_So_begin_14 (fun H locs hP hD hS => ?_)
  have hP : va_P D cls [(mo, .inr (3, [.ref li, .ref ra, .ref ca, .ref aa, .int (nI 0), .int 0, .int 0, .int 0, .int nx])), (ra, .inl (cI, 8, .inl (va_cpy sr (fun _ => 0) 0 0 8))), (ca, .inl (cI, 32, .inl (tm_c0 sd))), (aa, .inl (cI, 120, .inl Ac)), (li, .inr (1, [.ref lf, .int (nI n)])), (lf, .inl (cI, 96, .inl F)), (sR, .inl (cI, 8, .inl sr)), (sD, .inl (cI, 32, .inl sd))] H := hP
  have hD : va_D A [(mo, .inr (3, [.ref li, .ref ra, .ref ca, .ref aa, .int (nI 0), .int 0, .int 0, .int 0, .int nx])), (ra, .inl (cI, 8, .inl (va_cpy sr (fun _ => 0) 0 0 8))), (ca, .inl (cI, 32, .inl (tm_c0 sd))), (aa, .inl (cI, 120, .inl Ac)), (li, .inr (1, [.ref lf, .int (nI n)])), (lf, .inl (cI, 96, .inl F)), (sR, .inl (cI, 8, .inl sr)), (sD, .inl (cI, 32, .inl sd))] := hD
  refine lv_aload_n hx hb d_So_begin_17 rfl (lv_at hl 0 rfl) ?_
  refine lv_iconst (v := 1) hx hb d_So_begin_18 (by decide) ?_
  refine va_put (D := D) (ci := 3) (v := .int 1) (ty := .int) (C := R_So) (T := F_So) (N := 9) hx hb hg f_So t_So t_So_ok n_So hown hK.1 hP hD hS 0 rfl rfl 8 (by decide) (hg _ q74) (fun _ h9 => h9) rfl (by decide +kernel) rfl rfl (Nat.le_of_ble_eq_true rfl) d_So_begin_19 (fun H locs hP hD hS => ?_)
  have hP : va_P D cls [(mo, .inr (3, [.ref li, .ref ra, .ref ca, .ref aa, .int (nI 0), .int 0, .int 0, .int 0, .int 1])), (ra, .inl (cI, 8, .inl (va_cpy sr (fun _ => 0) 0 0 8))), (ca, .inl (cI, 32, .inl (tm_c0 sd))), (aa, .inl (cI, 120, .inl Ac)), (li, .inr (1, [.ref lf, .int (nI n)])), (lf, .inl (cI, 96, .inl F)), (sR, .inl (cI, 8, .inl sr)), (sD, .inl (cI, 32, .inl sd))] H := hP
  have hD : va_D A [(mo, .inr (3, [.ref li, .ref ra, .ref ca, .ref aa, .int (nI 0), .int 0, .int 0, .int 0, .int 1])), (ra, .inl (cI, 8, .inl (va_cpy sr (fun _ => 0) 0 0 8))), (ca, .inl (cI, 32, .inl (tm_c0 sd))), (aa, .inl (cI, 120, .inl Ac)), (li, .inr (1, [.ref lf, .int (nI n)])), (lf, .inl (cI, 96, .inl F)), (sR, .inl (cI, 8, .inl sr)), (sD, .inl (cI, 32, .inl sd))] := hD
  have hD := xa_D (e2 := .inl (cI, 8, .inl sr)) hD 1 rfl
  have hP := xa_P (g := sr) hP 1 rfl (fun j hj => by rw [pk_cpy_in (by omega) (by omega)]; congr 1; omega)
  have hP : va_P D cls [(mo, .inr (3, [.ref li, .ref ra, .ref ca, .ref aa, .int (nI 0), .int 0, .int 0, .int 0, .int 1])), (ra, .inl (cI, 8, .inl sr)), (ca, .inl (cI, 32, .inl (tm_c0 sd))), (aa, .inl (cI, 120, .inl Ac)), (li, .inr (1, [.ref lf, .int (nI n)])), (lf, .inl (cI, 96, .inl F)), (sR, .inl (cI, 8, .inl sr)), (sD, .inl (cI, 32, .inl sd))] H := hP
  have hD : va_D A [(mo, .inr (3, [.ref li, .ref ra, .ref ca, .ref aa, .int (nI 0), .int 0, .int 0, .int 0, .int 1])), (ra, .inl (cI, 8, .inl sr)), (ca, .inl (cI, 32, .inl (tm_c0 sd))), (aa, .inl (cI, 120, .inl Ac)), (li, .inr (1, [.ref lf, .int (nI n)])), (lf, .inl (cI, 96, .inl F)), (sR, .inl (cI, 8, .inl sr)), (sD, .inl (cI, 32, .inl sd))] := hD
  have hP : va_P D cls [(mo, .inr (3, [.ref li, .ref ra, .ref ca, .ref aa, .int (nI 0), .int 0, .int 0, .int 0, .int 1])), (ra, .inl (cI, 8, .inl sr)), (ca, .inl (cI, 32, .inl (tm_c0 sd))), (aa, .inl (cI, 120, .inl Ac)), (li, .inr (1, [.ref lf, .int (nI n)])), (lf, .inl (cI, 96, .inl F)), (sR, .inl (cI, 8, .inl sr)), (sD, .inl (cI, 32, .inl sd))] H := by exact hP
  have hD : va_D A [(mo, .inr (3, [.ref li, .ref ra, .ref ca, .ref aa, .int (nI 0), .int 0, .int 0, .int 0, .int 1])), (ra, .inl (cI, 8, .inl sr)), (ca, .inl (cI, 32, .inl (tm_c0 sd))), (aa, .inl (cI, 120, .inl Ac)), (li, .inr (1, [.ref lf, .int (nI n)])), (lf, .inl (cI, 96, .inl F)), (sR, .inl (cI, 8, .inl sr)), (sD, .inl (cI, 32, .inl sd))] := by exact hD
  exact W.vret hx hb hr (fun t9 ht9 hW9 => ⟨⟨(), rfl, trivial, by rw [ht9]; exact hP, hD⟩, hS.F ht9⟩) hS.2.2 d_So_begin_22

set_option maxHeartbeats 4000000 in
set_option maxRecDepth 100000 in
theorem c_Ta_begin (l : Launch) (D : va_G) (cI cZ cJ : ClassId) (mo li ra ca aa lf tr : Nat) (Rg Ce Ac F : Nat → Int32) (n kp : Nat) (dn en : Int32) (he : Int32) (sR sD : Nat) (sr sd : Nat → Int32) (pL bA pF : Nat) (B : Nat → Int32) (np : Nat) (hnp : np ≤ 24) : xw_Met l y_Ta_begin b_Ta_begin 4 none { frames := 2, cells := 0, slots := 0, locals := 47 } [.ref mo, .ref sR, .ref sD] D cls (tyL cI cZ cJ) [(mo, .inr (4, [.ref li, .ref ra, .ref ca, .ref aa, .int (nI kp), .int he, .int dn, .int en, .ref tr])), (ra, .inl (cI, 8, .inl Rg)), (ca, .inl (cI, 64, .inl Ce)), (aa, .inl (cI, 120, .inl Ac)), (li, .inr (1, [.ref lf, .int (nI n)])), (lf, .inl (cI, 868, .inl F)), (sR, .inl (cI, 8, .inl sr)), (sD, .inl (cI, 32, .inl sd)), (tr, .inr (2, [.ref pL, .ref li, .ref bA])), (bA, .inl (cI, 25, .inl B)), (pL, .inr (1, [.ref pF, .int (nI np)]))] [(mo, .inr (4, [.ref li, .ref ra, .ref ca, .ref aa, .int (nI 0), .int 0, .int 0, .int 0, .ref tr])), (ra, .inl (cI, 8, .inl (tm_r1 sr))), (ca, .inl (cI, 64, .inl (tm_c1 sr sd B np))), (aa, .inl (cI, 120, .inl Ac)), (li, .inr (1, [.ref lf, .int (nI n)])), (lf, .inl (cI, 868, .inl F)), (sR, .inl (cI, 8, .inl sr)), (sD, .inl (cI, 32, .inl sd)), (tr, .inr (2, [.ref pL, .ref li, .ref bA])), (bA, .inl (cI, 25, .inl B)), (pL, .inr (1, [.ref pF, .int (nI np)]))] := by
  intro sz
  refine Met.ofW (cc := b_Ta_begin) (maxL := 4) (ret := none) (by decide) rfl ?_
  intro p e s m args below meth c s₁ B0 hml hv
  obtain ⟨rfl, hsz, hP, hK, hD0⟩ := hv
  have hx := B0.exec
  have hb := B0.bytes
  have hr := B0.returns
  have hlocks := B0.notSynchronized
  have hg : ∀ w ∈ gG, w.before _ s = true := fun w h => atoms_spec B0.pre w (List.mem_cons_of_mem _ h)
  have hown : s.vm.findClass R_Ta = some m.cls := findClass_of_methodNamed B0.named
  subst hsz
  have hD := hD0.self (sz := s.heap.size)
  generalize hAe : va_A [(mo, .inr (4, [.ref li, .ref ra, .ref ca, .ref aa, .int (nI kp), .int he, .int dn, .int en, .ref tr])), (ra, .inl (cI, 8, .inl Rg)), (ca, .inl (cI, 64, .inl Ce)), (aa, .inl (cI, 120, .inl Ac)), (li, .inr (1, [.ref lf, .int (nI n)])), (lf, .inl (cI, 868, .inl F)), (sR, .inl (cI, 8, .inl sr)), (sD, .inl (cI, 32, .inl sd)), (tr, .inr (2, [.ref pL, .ref li, .ref bA])), (bA, .inl (cI, 25, .inl B)), (pL, .inr (1, [.ref pF, .int (nI np)]))] s.heap.size = A at hD ⊢
  have hA : ∀ q : Nat, s.heap.size ≤ q → A q := fun q h => by rw [← hAe]; exact Or.inr h
  have hS : va_S A s.heap s.heap [] := va_S.rf
  have hP : va_P D cls [(mo, .inr (4, [.ref li, .ref ra, .ref ca, .ref aa, .int (nI kp), .int he, .int dn, .int en, .ref tr])), (ra, .inl (cI, 8, .inl Rg)), (ca, .inl (cI, 64, .inl Ce)), (aa, .inl (cI, 120, .inl Ac)), (li, .inr (1, [.ref lf, .int (nI n)])), (lf, .inl (cI, 868, .inl F)), (sR, .inl (cI, 8, .inl sr)), (sD, .inl (cI, 32, .inl sd)), (tr, .inr (2, [.ref pL, .ref li, .ref bA])), (bA, .inl (cI, 25, .inl B)), (pL, .inr (1, [.ref pF, .int (nI np)]))] s.heap := hP
  have hl := lv_entry ([.ref mo, .ref sR, .ref sD]) (n := 4) (Nat.le_of_ble_eq_true rfl)
  rw [lg_entry_eq]
  generalize (lg_sl ([.ref mo, .ref sR, .ref sD]) ++ List.replicate (4 - (lg_sl ([.ref mo, .ref sR, .ref sD])).length) Slot.unset).toArray = ls at hl ⊢
  have hl : lv_has ls 4 [(0, .ref mo), (1, .ref sR), (2, .ref sD)] := hl
  refine lv_aload_n hx hb d_Ta_begin_0 rfl (lv_at hl 0 rfl) ?_
  refine lv_aload_n hx hb d_Ta_begin_1 rfl (lv_at hl 2 rfl) ?_
  refine xw_go (w2 := [(mo, .inr (4, [.ref li, .ref ra, .ref ca, .ref aa, .int (nI 0), .int 0, .int 0, .int 0, .ref tr])), (ra, .inl (cI, 8, .inl (fun _ => 0))), (ca, .inl (cI, 64, .inl (tm_c0 sd))), (aa, .inl (cI, 120, .inl Ac)), (li, .inr (1, [.ref lf, .int (nI n)])), (lf, .inl (cI, 868, .inl F)), (sR, .inl (cI, 8, .inl sr)), (sD, .inl (cI, 32, .inl sd)), (tr, .inr (2, [.ref pL, .ref li, .ref bA])), (bA, .inl (cI, 25, .inl B)), (pL, .inr (1, [.ref pF, .int (nI np)]))]) (wr := [(sR, .inl (cI, 8, .inl sr)), (tr, .inr (2, [.ref pL, .ref li, .ref bA])), (bA, .inl (cI, 25, .inl B)), (pL, .inr (1, [.ref pF, .int (nI np)]))]) (w1 := [(mo, .inr (4, [.ref li, .ref ra, .ref ca, .ref aa, .int (nI 0), .int 0, .int 0, .int 0, .ref tr])), (ra, .inl (cI, 8, .inl (fun _ => 0))), (ca, .inl (cI, 64, .inl (tm_c0 sd))), (aa, .inl (cI, 120, .inl Ac)), (li, .inr (1, [.ref lf, .int (nI n)])), (lf, .inl (cI, 868, .inl F)), (sD, .inl (cI, 32, .inl sd))]) (va_runU (As := [.ref sD]) (rest := []) (C := R_Ta) ⟨hx, hb, hml, hown, hg⟩ (c_Ta_beginWithData l D cI cZ cJ mo li ra ca aa lf tr Rg Ce Ac F n kp dn en he sD sd s.heap.size) (xg_O (x := ⟨"TwoMachines$TargetMachine", "beginWithData", "([I)V"⟩) (owner := R_Ma) hg m_Ma_beginWithData q459 q460 rfl m_Ma_beginWithData q461 ⟨by decide, by decide, by decide +kernel⟩ rfl rfl ⟨Nat.le_of_ble_eq_true rfl, Nat.le_of_ble_eq_true rfl⟩) ⟨xw_blind, (va_recv (q0 := 0) hK.1 hP rfl rfl), xw_pre hK hP hD [0, 1, 2, 3, 4, 5, 7] (by decide) rfl⟩ rfl rfl hl.1 rfl (lv_room (Nat.le_of_ble_eq_true rfl)) d_Ta_begin_2 ⟨Nat.zero_le _, Nat.zero_le _⟩) hP hD hS hA [0, 1, 2, 3, 4, 5, 7] [6, 8, 9, 10] [4, 5, 6, 7, 8, 9, 0, 10, 1, 2, 3] rfl rfl (by decide) (by decide) rfl (by decide) (fun H locs hP hD hS => ?_)
  refine lv_iconst (v := 1) hx hb d_Ta_begin_5 (by decide) ?_
  refine lv_istore_n hx hb d_Ta_begin_6 rfl hl (by decide) rfl (fun ls hl => ?_)
  have hl : lv_has ls 4 [(3, .int 1), (0, .ref mo), (1, .ref sR), (2, .ref sD)] := hl
  refine lv_iload_n hx hb d_Ta_begin_7 rfl (lv_at hl 0 rfl) ?_
  refine lv_bipush (v := 8) hx hb d_Ta_begin_8 (by decide) ?_
  refine lv_icmp_ge (tgt := 48) hx hb d_Ta_begin_10 rfl (fun hz9 => absurd hz9 (by decide)) (fun _ => ?_)
  refine lv_iload_n hx hb d_Ta_begin_13 rfl (lv_at hl 0 rfl) ?_
  refine lv_iconst (v := 4) hx hb d_Ta_begin_14 (by decide) ?_
  refine lv_icmp_ge (tgt := 30) hx hb d_Ta_begin_15 rfl (fun hz9 => absurd hz9 (by decide)) (fun _ => ?_)
  refine lv_aload_n hx hb d_Ta_begin_18 rfl (lv_at hl 1 rfl) ?_
  refine va_get (D := D) (ci := 4) (v := .ref ra) (C := R_Ta) (T := F_Ta) (N := 9) hx hb hg f_Ta hown hK.1 hP 0 rfl rfl 1 (by decide) (hg _ q83) (fun x9 h9 => u_same (hg _ q84) x9 h9) rfl d_Ta_begin_19 ?_
  refine lv_iload_n hx hb d_Ta_begin_22 rfl (lv_at hl 0 rfl) ?_
  refine lv_aload_n hx hb d_Ta_begin_23 rfl (lv_at hl 2 rfl) ?_
  refine lv_iload_n hx hb d_Ta_begin_24 rfl (lv_at hl 0 rfl) ?_
  refine xa_ld hx hb hK hP 6 0 rfl rfl (kx := 1) (rfl) (by decide) (by decide) d_Ta_begin_25 ?_
  refine xa_st hx hb hK hP hD hS 1 0 rfl rfl (kx := 1) (rfl) (by decide) (by decide) d_Ta_begin_26 (fun H locs hP hD hS => ?_)
  have hP : va_P D cls [(mo, .inr (4, [.ref li, .ref ra, .ref ca, .ref aa, .int (nI 0), .int 0, .int 0, .int 0, .ref tr])), (ra, .inl (cI, 8, .inl (upd (fun _ => 0) 1 (sr 1)))), (ca, .inl (cI, 64, .inl (tm_c0 sd))), (aa, .inl (cI, 120, .inl Ac)), (li, .inr (1, [.ref lf, .int (nI n)])), (lf, .inl (cI, 868, .inl F)), (sR, .inl (cI, 8, .inl sr)), (sD, .inl (cI, 32, .inl sd)), (tr, .inr (2, [.ref pL, .ref li, .ref bA])), (bA, .inl (cI, 25, .inl B)), (pL, .inr (1, [.ref pF, .int (nI np)]))] H := hP
  have hD : va_D A [(mo, .inr (4, [.ref li, .ref ra, .ref ca, .ref aa, .int (nI 0), .int 0, .int 0, .int 0, .ref tr])), (ra, .inl (cI, 8, .inl (upd (fun _ => 0) 1 (sr 1)))), (ca, .inl (cI, 64, .inl (tm_c0 sd))), (aa, .inl (cI, 120, .inl Ac)), (li, .inr (1, [.ref lf, .int (nI n)])), (lf, .inl (cI, 868, .inl F)), (sR, .inl (cI, 8, .inl sr)), (sD, .inl (cI, 32, .inl sd)), (tr, .inr (2, [.ref pL, .ref li, .ref bA])), (bA, .inl (cI, 25, .inl B)), (pL, .inr (1, [.ref pF, .int (nI np)]))] := hD
  refine lv_goto (tgt := 42) hx hb d_Ta_begin_27 rfl ?_
  refine lv_iinc (k := 0) (v := 2) hx hb d_Ta_begin_42 hl rfl (by decide) (by decide) rfl (fun ls hl => ?_)
  have hl : lv_has ls 4 [(3, .int 2), (0, .ref mo), (1, .ref sR), (2, .ref sD)] := hl
  refine lv_goto (tgt := 7) hx hb d_Ta_begin_45 rfl ?_
  refine lv_iload_n hx hb d_Ta_begin_7 rfl (lv_at hl 0 rfl) ?_
  refine lv_bipush (v := 8) hx hb d_Ta_begin_8 (by decide) ?_
  refine lv_icmp_ge (tgt := 48) hx hb d_Ta_begin_10 rfl (fun hz9 => absurd hz9 (by decide)) (fun _ => ?_)
  refine lv_iload_n hx hb d_Ta_begin_13 rfl (lv_at hl 0 rfl) ?_
  refine lv_iconst (v := 4) hx hb d_Ta_begin_14 (by decide) ?_
  refine lv_icmp_ge (tgt := 30) hx hb d_Ta_begin_15 rfl (fun hz9 => absurd hz9 (by decide)) (fun _ => ?_)
  refine lv_aload_n hx hb d_Ta_begin_18 rfl (lv_at hl 1 rfl) ?_
  refine va_get (D := D) (ci := 4) (v := .ref ra) (C := R_Ta) (T := F_Ta) (N := 9) hx hb hg f_Ta hown hK.1 hP 0 rfl rfl 1 (by decide) (hg _ q83) (fun x9 h9 => u_same (hg _ q84) x9 h9) rfl d_Ta_begin_19 ?_
  refine lv_iload_n hx hb d_Ta_begin_22 rfl (lv_at hl 0 rfl) ?_
  refine lv_aload_n hx hb d_Ta_begin_23 rfl (lv_at hl 2 rfl) ?_
  refine lv_iload_n hx hb d_Ta_begin_24 rfl (lv_at hl 0 rfl) ?_
  refine xa_ld hx hb hK hP 6 0 rfl rfl (kx := 2) (rfl) (by decide) (by decide) d_Ta_begin_25 ?_
  refine xa_st hx hb hK hP hD hS 1 0 rfl rfl (kx := 2) (rfl) (by decide) (by decide) d_Ta_begin_26 (fun H locs hP hD hS => ?_)
  have hP : va_P D cls [(mo, .inr (4, [.ref li, .ref ra, .ref ca, .ref aa, .int (nI 0), .int 0, .int 0, .int 0, .ref tr])), (ra, .inl (cI, 8, .inl (upd (upd (fun _ => 0) 1 (sr 1)) 2 (sr 2)))), (ca, .inl (cI, 64, .inl (tm_c0 sd))), (aa, .inl (cI, 120, .inl Ac)), (li, .inr (1, [.ref lf, .int (nI n)])), (lf, .inl (cI, 868, .inl F)), (sR, .inl (cI, 8, .inl sr)), (sD, .inl (cI, 32, .inl sd)), (tr, .inr (2, [.ref pL, .ref li, .ref bA])), (bA, .inl (cI, 25, .inl B)), (pL, .inr (1, [.ref pF, .int (nI np)]))] H := hP
  have hD : va_D A [(mo, .inr (4, [.ref li, .ref ra, .ref ca, .ref aa, .int (nI 0), .int 0, .int 0, .int 0, .ref tr])), (ra, .inl (cI, 8, .inl (upd (upd (fun _ => 0) 1 (sr 1)) 2 (sr 2)))), (ca, .inl (cI, 64, .inl (tm_c0 sd))), (aa, .inl (cI, 120, .inl Ac)), (li, .inr (1, [.ref lf, .int (nI n)])), (lf, .inl (cI, 868, .inl F)), (sR, .inl (cI, 8, .inl sr)), (sD, .inl (cI, 32, .inl sd)), (tr, .inr (2, [.ref pL, .ref li, .ref bA])), (bA, .inl (cI, 25, .inl B)), (pL, .inr (1, [.ref pF, .int (nI np)]))] := hD
  refine lv_goto (tgt := 42) hx hb d_Ta_begin_27 rfl ?_
  refine lv_iinc (k := 0) (v := 3) hx hb d_Ta_begin_42 hl rfl (by decide) (by decide) rfl (fun ls hl => ?_)
  have hl : lv_has ls 4 [(3, .int 3), (0, .ref mo), (1, .ref sR), (2, .ref sD)] := hl
  refine lv_goto (tgt := 7) hx hb d_Ta_begin_45 rfl ?_
  refine lv_iload_n hx hb d_Ta_begin_7 rfl (lv_at hl 0 rfl) ?_
  refine lv_bipush (v := 8) hx hb d_Ta_begin_8 (by decide) ?_
  refine lv_icmp_ge (tgt := 48) hx hb d_Ta_begin_10 rfl (fun hz9 => absurd hz9 (by decide)) (fun _ => ?_)
  refine lv_iload_n hx hb d_Ta_begin_13 rfl (lv_at hl 0 rfl) ?_
  refine lv_iconst (v := 4) hx hb d_Ta_begin_14 (by decide) ?_
  refine lv_icmp_ge (tgt := 30) hx hb d_Ta_begin_15 rfl (fun hz9 => absurd hz9 (by decide)) (fun _ => ?_)
  refine lv_aload_n hx hb d_Ta_begin_18 rfl (lv_at hl 1 rfl) ?_
  refine va_get (D := D) (ci := 4) (v := .ref ra) (C := R_Ta) (T := F_Ta) (N := 9) hx hb hg f_Ta hown hK.1 hP 0 rfl rfl 1 (by decide) (hg _ q83) (fun x9 h9 => u_same (hg _ q84) x9 h9) rfl d_Ta_begin_19 ?_
  refine lv_iload_n hx hb d_Ta_begin_22 rfl (lv_at hl 0 rfl) ?_
  refine lv_aload_n hx hb d_Ta_begin_23 rfl (lv_at hl 2 rfl) ?_
  refine lv_iload_n hx hb d_Ta_begin_24 rfl (lv_at hl 0 rfl) ?_
  refine xa_ld hx hb hK hP 6 0 rfl rfl (kx := 3) (rfl) (by decide) (by decide) d_Ta_begin_25 ?_
  refine xa_st hx hb hK hP hD hS 1 0 rfl rfl (kx := 3) (rfl) (by decide) (by decide) d_Ta_begin_26 (fun H locs hP hD hS => ?_)
  have hP : va_P D cls [(mo, .inr (4, [.ref li, .ref ra, .ref ca, .ref aa, .int (nI 0), .int 0, .int 0, .int 0, .ref tr])), (ra, .inl (cI, 8, .inl (upd (upd (upd (fun _ => 0) 1 (sr 1)) 2 (sr 2)) 3 (sr 3)))), (ca, .inl (cI, 64, .inl (tm_c0 sd))), (aa, .inl (cI, 120, .inl Ac)), (li, .inr (1, [.ref lf, .int (nI n)])), (lf, .inl (cI, 868, .inl F)), (sR, .inl (cI, 8, .inl sr)), (sD, .inl (cI, 32, .inl sd)), (tr, .inr (2, [.ref pL, .ref li, .ref bA])), (bA, .inl (cI, 25, .inl B)), (pL, .inr (1, [.ref pF, .int (nI np)]))] H := hP
  have hD : va_D A [(mo, .inr (4, [.ref li, .ref ra, .ref ca, .ref aa, .int (nI 0), .int 0, .int 0, .int 0, .ref tr])), (ra, .inl (cI, 8, .inl (upd (upd (upd (fun _ => 0) 1 (sr 1)) 2 (sr 2)) 3 (sr 3)))), (ca, .inl (cI, 64, .inl (tm_c0 sd))), (aa, .inl (cI, 120, .inl Ac)), (li, .inr (1, [.ref lf, .int (nI n)])), (lf, .inl (cI, 868, .inl F)), (sR, .inl (cI, 8, .inl sr)), (sD, .inl (cI, 32, .inl sd)), (tr, .inr (2, [.ref pL, .ref li, .ref bA])), (bA, .inl (cI, 25, .inl B)), (pL, .inr (1, [.ref pF, .int (nI np)]))] := hD
  refine lv_goto (tgt := 42) hx hb d_Ta_begin_27 rfl ?_
  refine lv_iinc (k := 0) (v := 4) hx hb d_Ta_begin_42 hl rfl (by decide) (by decide) rfl (fun ls hl => ?_)
  have hl : lv_has ls 4 [(3, .int 4), (0, .ref mo), (1, .ref sR), (2, .ref sD)] := hl
  refine lv_goto (tgt := 7) hx hb d_Ta_begin_45 rfl ?_
  refine lv_iload_n hx hb d_Ta_begin_7 rfl (lv_at hl 0 rfl) ?_
  refine lv_bipush (v := 8) hx hb d_Ta_begin_8 (by decide) ?_
  refine lv_icmp_ge (tgt := 48) hx hb d_Ta_begin_10 rfl (fun hz9 => absurd hz9 (by decide)) (fun _ => ?_)
  refine lv_iload_n hx hb d_Ta_begin_13 rfl (lv_at hl 0 rfl) ?_
  refine lv_iconst (v := 4) hx hb d_Ta_begin_14 (by decide) ?_
  refine lv_icmp_ge (tgt := 30) hx hb d_Ta_begin_15 rfl (fun _ => ?_) (fun hz9 => absurd (by decide) hz9)
  refine lv_aload_n hx hb d_Ta_begin_30 rfl (lv_at hl 1 rfl) ?_
  refine va_get (D := D) (ci := 4) (v := .ref ca) (C := R_Ta) (T := F_Ta) (N := 9) hx hb hg f_Ta hown hK.1 hP 0 rfl rfl 2 (by decide) (hg _ q86) (fun x9 h9 => u_same (hg _ q87) x9 h9) rfl d_Ta_begin_31 ?_
  refine lv_bipush (v := 32) hx hb d_Ta_begin_34 (by decide) ?_
  refine lv_iload_n hx hb d_Ta_begin_36 rfl (lv_at hl 0 rfl) ?_
  refine lv_iadd hx hb d_Ta_begin_37 ?_
  have eq9 : (32 + 4 : Int32) = 36 := by decide
  refine W.eq (g2 := F0 m 38 ls [.int 36, .ref ca]) (by rw [eq9]) ?_
  refine lv_aload_n hx hb d_Ta_begin_38 rfl (lv_at hl 2 rfl) ?_
  refine lv_iload_n hx hb d_Ta_begin_39 rfl (lv_at hl 0 rfl) ?_
  refine xa_ld hx hb hK hP 6 0 rfl rfl (kx := 4) (rfl) (by decide) (by decide) d_Ta_begin_40 ?_
  refine xa_st hx hb hK hP hD hS 2 0 rfl rfl (kx := 36) (rfl) (by decide) (by decide) d_Ta_begin_41 (fun H locs hP hD hS => ?_)
  have hP : va_P D cls [(mo, .inr (4, [.ref li, .ref ra, .ref ca, .ref aa, .int (nI 0), .int 0, .int 0, .int 0, .ref tr])), (ra, .inl (cI, 8, .inl (upd (upd (upd (fun _ => 0) 1 (sr 1)) 2 (sr 2)) 3 (sr 3)))), (ca, .inl (cI, 64, .inl (upd (tm_c0 sd) 36 (sr 4)))), (aa, .inl (cI, 120, .inl Ac)), (li, .inr (1, [.ref lf, .int (nI n)])), (lf, .inl (cI, 868, .inl F)), (sR, .inl (cI, 8, .inl sr)), (sD, .inl (cI, 32, .inl sd)), (tr, .inr (2, [.ref pL, .ref li, .ref bA])), (bA, .inl (cI, 25, .inl B)), (pL, .inr (1, [.ref pF, .int (nI np)]))] H := hP
  have hD : va_D A [(mo, .inr (4, [.ref li, .ref ra, .ref ca, .ref aa, .int (nI 0), .int 0, .int 0, .int 0, .ref tr])), (ra, .inl (cI, 8, .inl (upd (upd (upd (fun _ => 0) 1 (sr 1)) 2 (sr 2)) 3 (sr 3)))), (ca, .inl (cI, 64, .inl (upd (tm_c0 sd) 36 (sr 4)))), (aa, .inl (cI, 120, .inl Ac)), (li, .inr (1, [.ref lf, .int (nI n)])), (lf, .inl (cI, 868, .inl F)), (sR, .inl (cI, 8, .inl sr)), (sD, .inl (cI, 32, .inl sd)), (tr, .inr (2, [.ref pL, .ref li, .ref bA])), (bA, .inl (cI, 25, .inl B)), (pL, .inr (1, [.ref pF, .int (nI np)]))] := hD
  refine lv_iinc (k := 0) (v := 5) hx hb d_Ta_begin_42 hl rfl (by decide) (by decide) rfl (fun ls hl => ?_)
  have hl : lv_has ls 4 [(3, .int 5), (0, .ref mo), (1, .ref sR), (2, .ref sD)] := hl
  refine lv_goto (tgt := 7) hx hb d_Ta_begin_45 rfl ?_
  refine lv_iload_n hx hb d_Ta_begin_7 rfl (lv_at hl 0 rfl) ?_
  refine lv_bipush (v := 8) hx hb d_Ta_begin_8 (by decide) ?_
  refine lv_icmp_ge (tgt := 48) hx hb d_Ta_begin_10 rfl (fun hz9 => absurd hz9 (by decide)) (fun _ => ?_)
  refine lv_iload_n hx hb d_Ta_begin_13 rfl (lv_at hl 0 rfl) ?_
  refine lv_iconst (v := 4) hx hb d_Ta_begin_14 (by decide) ?_
  refine lv_icmp_ge (tgt := 30) hx hb d_Ta_begin_15 rfl (fun _ => ?_) (fun hz9 => absurd (by decide) hz9)
  refine lv_aload_n hx hb d_Ta_begin_30 rfl (lv_at hl 1 rfl) ?_
  refine va_get (D := D) (ci := 4) (v := .ref ca) (C := R_Ta) (T := F_Ta) (N := 9) hx hb hg f_Ta hown hK.1 hP 0 rfl rfl 2 (by decide) (hg _ q86) (fun x9 h9 => u_same (hg _ q87) x9 h9) rfl d_Ta_begin_31 ?_
  refine lv_bipush (v := 32) hx hb d_Ta_begin_34 (by decide) ?_
  refine lv_iload_n hx hb d_Ta_begin_36 rfl (lv_at hl 0 rfl) ?_
  refine lv_iadd hx hb d_Ta_begin_37 ?_
  have eq9 : (32 + 5 : Int32) = 37 := by decide
  refine W.eq (g2 := F0 m 38 ls [.int 37, .ref ca]) (by rw [eq9]) ?_
  refine lv_aload_n hx hb d_Ta_begin_38 rfl (lv_at hl 2 rfl) ?_
  refine lv_iload_n hx hb d_Ta_begin_39 rfl (lv_at hl 0 rfl) ?_
  refine xa_ld hx hb hK hP 6 0 rfl rfl (kx := 5) (rfl) (by decide) (by decide) d_Ta_begin_40 ?_
  refine xa_st hx hb hK hP hD hS 2 0 rfl rfl (kx := 37) (rfl) (by decide) (by decide) d_Ta_begin_41 (fun H locs hP hD hS => ?_)
  have hP : va_P D cls [(mo, .inr (4, [.ref li, .ref ra, .ref ca, .ref aa, .int (nI 0), .int 0, .int 0, .int 0, .ref tr])), (ra, .inl (cI, 8, .inl (upd (upd (upd (fun _ => 0) 1 (sr 1)) 2 (sr 2)) 3 (sr 3)))), (ca, .inl (cI, 64, .inl (upd (upd (tm_c0 sd) 36 (sr 4)) 37 (sr 5)))), (aa, .inl (cI, 120, .inl Ac)), (li, .inr (1, [.ref lf, .int (nI n)])), (lf, .inl (cI, 868, .inl F)), (sR, .inl (cI, 8, .inl sr)), (sD, .inl (cI, 32, .inl sd)), (tr, .inr (2, [.ref pL, .ref li, .ref bA])), (bA, .inl (cI, 25, .inl B)), (pL, .inr (1, [.ref pF, .int (nI np)]))] H := hP
  have hD : va_D A [(mo, .inr (4, [.ref li, .ref ra, .ref ca, .ref aa, .int (nI 0), .int 0, .int 0, .int 0, .ref tr])), (ra, .inl (cI, 8, .inl (upd (upd (upd (fun _ => 0) 1 (sr 1)) 2 (sr 2)) 3 (sr 3)))), (ca, .inl (cI, 64, .inl (upd (upd (tm_c0 sd) 36 (sr 4)) 37 (sr 5)))), (aa, .inl (cI, 120, .inl Ac)), (li, .inr (1, [.ref lf, .int (nI n)])), (lf, .inl (cI, 868, .inl F)), (sR, .inl (cI, 8, .inl sr)), (sD, .inl (cI, 32, .inl sd)), (tr, .inr (2, [.ref pL, .ref li, .ref bA])), (bA, .inl (cI, 25, .inl B)), (pL, .inr (1, [.ref pF, .int (nI np)]))] := hD
  refine lv_iinc (k := 0) (v := 6) hx hb d_Ta_begin_42 hl rfl (by decide) (by decide) rfl (fun ls hl => ?_)
  have hl : lv_has ls 4 [(3, .int 6), (0, .ref mo), (1, .ref sR), (2, .ref sD)] := hl
  refine lv_goto (tgt := 7) hx hb d_Ta_begin_45 rfl ?_
  refine lv_iload_n hx hb d_Ta_begin_7 rfl (lv_at hl 0 rfl) ?_
  refine lv_bipush (v := 8) hx hb d_Ta_begin_8 (by decide) ?_
  refine lv_icmp_ge (tgt := 48) hx hb d_Ta_begin_10 rfl (fun hz9 => absurd hz9 (by decide)) (fun _ => ?_)
  refine lv_iload_n hx hb d_Ta_begin_13 rfl (lv_at hl 0 rfl) ?_
  refine lv_iconst (v := 4) hx hb d_Ta_begin_14 (by decide) ?_
  refine lv_icmp_ge (tgt := 30) hx hb d_Ta_begin_15 rfl (fun _ => ?_) (fun hz9 => absurd (by decide) hz9)
  refine lv_aload_n hx hb d_Ta_begin_30 rfl (lv_at hl 1 rfl) ?_
  refine va_get (D := D) (ci := 4) (v := .ref ca) (C := R_Ta) (T := F_Ta) (N := 9) hx hb hg f_Ta hown hK.1 hP 0 rfl rfl 2 (by decide) (hg _ q86) (fun x9 h9 => u_same (hg _ q87) x9 h9) rfl d_Ta_begin_31 ?_
  refine lv_bipush (v := 32) hx hb d_Ta_begin_34 (by decide) ?_
  refine lv_iload_n hx hb d_Ta_begin_36 rfl (lv_at hl 0 rfl) ?_
  refine lv_iadd hx hb d_Ta_begin_37 ?_
  have eq9 : (32 + 6 : Int32) = 38 := by decide
  refine W.eq (g2 := F0 m 38 ls [.int 38, .ref ca]) (by rw [eq9]) ?_
  refine lv_aload_n hx hb d_Ta_begin_38 rfl (lv_at hl 2 rfl) ?_
  refine lv_iload_n hx hb d_Ta_begin_39 rfl (lv_at hl 0 rfl) ?_
  refine xa_ld hx hb hK hP 6 0 rfl rfl (kx := 6) (rfl) (by decide) (by decide) d_Ta_begin_40 ?_
  refine xa_st hx hb hK hP hD hS 2 0 rfl rfl (kx := 38) (rfl) (by decide) (by decide) d_Ta_begin_41 (fun H locs hP hD hS => ?_)
  have hP : va_P D cls [(mo, .inr (4, [.ref li, .ref ra, .ref ca, .ref aa, .int (nI 0), .int 0, .int 0, .int 0, .ref tr])), (ra, .inl (cI, 8, .inl (upd (upd (upd (fun _ => 0) 1 (sr 1)) 2 (sr 2)) 3 (sr 3)))), (ca, .inl (cI, 64, .inl (upd (upd (upd (tm_c0 sd) 36 (sr 4)) 37 (sr 5)) 38 (sr 6)))), (aa, .inl (cI, 120, .inl Ac)), (li, .inr (1, [.ref lf, .int (nI n)])), (lf, .inl (cI, 868, .inl F)), (sR, .inl (cI, 8, .inl sr)), (sD, .inl (cI, 32, .inl sd)), (tr, .inr (2, [.ref pL, .ref li, .ref bA])), (bA, .inl (cI, 25, .inl B)), (pL, .inr (1, [.ref pF, .int (nI np)]))] H := hP
  have hD : va_D A [(mo, .inr (4, [.ref li, .ref ra, .ref ca, .ref aa, .int (nI 0), .int 0, .int 0, .int 0, .ref tr])), (ra, .inl (cI, 8, .inl (upd (upd (upd (fun _ => 0) 1 (sr 1)) 2 (sr 2)) 3 (sr 3)))), (ca, .inl (cI, 64, .inl (upd (upd (upd (tm_c0 sd) 36 (sr 4)) 37 (sr 5)) 38 (sr 6)))), (aa, .inl (cI, 120, .inl Ac)), (li, .inr (1, [.ref lf, .int (nI n)])), (lf, .inl (cI, 868, .inl F)), (sR, .inl (cI, 8, .inl sr)), (sD, .inl (cI, 32, .inl sd)), (tr, .inr (2, [.ref pL, .ref li, .ref bA])), (bA, .inl (cI, 25, .inl B)), (pL, .inr (1, [.ref pF, .int (nI np)]))] := hD
  refine lv_iinc (k := 0) (v := 7) hx hb d_Ta_begin_42 hl rfl (by decide) (by decide) rfl (fun ls hl => ?_)
  have hl : lv_has ls 4 [(3, .int 7), (0, .ref mo), (1, .ref sR), (2, .ref sD)] := hl
  refine lv_goto (tgt := 7) hx hb d_Ta_begin_45 rfl ?_
  refine lv_iload_n hx hb d_Ta_begin_7 rfl (lv_at hl 0 rfl) ?_
  refine lv_bipush (v := 8) hx hb d_Ta_begin_8 (by decide) ?_
  refine lv_icmp_ge (tgt := 48) hx hb d_Ta_begin_10 rfl (fun hz9 => absurd hz9 (by decide)) (fun _ => ?_)
  refine lv_iload_n hx hb d_Ta_begin_13 rfl (lv_at hl 0 rfl) ?_
  refine lv_iconst (v := 4) hx hb d_Ta_begin_14 (by decide) ?_
  refine lv_icmp_ge (tgt := 30) hx hb d_Ta_begin_15 rfl (fun _ => ?_) (fun hz9 => absurd (by decide) hz9)
  refine lv_aload_n hx hb d_Ta_begin_30 rfl (lv_at hl 1 rfl) ?_
  refine va_get (D := D) (ci := 4) (v := .ref ca) (C := R_Ta) (T := F_Ta) (N := 9) hx hb hg f_Ta hown hK.1 hP 0 rfl rfl 2 (by decide) (hg _ q86) (fun x9 h9 => u_same (hg _ q87) x9 h9) rfl d_Ta_begin_31 ?_
  refine lv_bipush (v := 32) hx hb d_Ta_begin_34 (by decide) ?_
  refine lv_iload_n hx hb d_Ta_begin_36 rfl (lv_at hl 0 rfl) ?_
  refine lv_iadd hx hb d_Ta_begin_37 ?_
  have eq9 : (32 + 7 : Int32) = 39 := by decide
  refine W.eq (g2 := F0 m 38 ls [.int 39, .ref ca]) (by rw [eq9]) ?_
  refine lv_aload_n hx hb d_Ta_begin_38 rfl (lv_at hl 2 rfl) ?_
  refine lv_iload_n hx hb d_Ta_begin_39 rfl (lv_at hl 0 rfl) ?_
  refine xa_ld hx hb hK hP 6 0 rfl rfl (kx := 7) (rfl) (by decide) (by decide) d_Ta_begin_40 ?_
  refine xa_st hx hb hK hP hD hS 2 0 rfl rfl (kx := 39) (rfl) (by decide) (by decide) d_Ta_begin_41 (fun H locs hP hD hS => ?_)
  have hP : va_P D cls [(mo, .inr (4, [.ref li, .ref ra, .ref ca, .ref aa, .int (nI 0), .int 0, .int 0, .int 0, .ref tr])), (ra, .inl (cI, 8, .inl (upd (upd (upd (fun _ => 0) 1 (sr 1)) 2 (sr 2)) 3 (sr 3)))), (ca, .inl (cI, 64, .inl (upd (upd (upd (upd (tm_c0 sd) 36 (sr 4)) 37 (sr 5)) 38 (sr 6)) 39 (sr 7)))), (aa, .inl (cI, 120, .inl Ac)), (li, .inr (1, [.ref lf, .int (nI n)])), (lf, .inl (cI, 868, .inl F)), (sR, .inl (cI, 8, .inl sr)), (sD, .inl (cI, 32, .inl sd)), (tr, .inr (2, [.ref pL, .ref li, .ref bA])), (bA, .inl (cI, 25, .inl B)), (pL, .inr (1, [.ref pF, .int (nI np)]))] H := hP
  have hD : va_D A [(mo, .inr (4, [.ref li, .ref ra, .ref ca, .ref aa, .int (nI 0), .int 0, .int 0, .int 0, .ref tr])), (ra, .inl (cI, 8, .inl (upd (upd (upd (fun _ => 0) 1 (sr 1)) 2 (sr 2)) 3 (sr 3)))), (ca, .inl (cI, 64, .inl (upd (upd (upd (upd (tm_c0 sd) 36 (sr 4)) 37 (sr 5)) 38 (sr 6)) 39 (sr 7)))), (aa, .inl (cI, 120, .inl Ac)), (li, .inr (1, [.ref lf, .int (nI n)])), (lf, .inl (cI, 868, .inl F)), (sR, .inl (cI, 8, .inl sr)), (sD, .inl (cI, 32, .inl sd)), (tr, .inr (2, [.ref pL, .ref li, .ref bA])), (bA, .inl (cI, 25, .inl B)), (pL, .inr (1, [.ref pF, .int (nI np)]))] := hD
  refine lv_iinc (k := 0) (v := 8) hx hb d_Ta_begin_42 hl rfl (by decide) (by decide) rfl (fun ls hl => ?_)
  have hl : lv_has ls 4 [(3, .int 8), (0, .ref mo), (1, .ref sR), (2, .ref sD)] := hl
  refine lv_goto (tgt := 7) hx hb d_Ta_begin_45 rfl ?_
  refine lv_iload_n hx hb d_Ta_begin_7 rfl (lv_at hl 0 rfl) ?_
  refine lv_bipush (v := 8) hx hb d_Ta_begin_8 (by decide) ?_
  refine lv_icmp_ge (tgt := 48) hx hb d_Ta_begin_10 rfl (fun _ => ?_) (fun hz9 => absurd (by decide) hz9)
  refine lv_aload_n hx hb d_Ta_begin_48 rfl (lv_at hl 1 rfl) ?_
  refine va_get (D := D) (ci := 4) (v := .ref tr) (C := R_Ta) (T := F_Ta) (N := 9) hx hb hg f_Ta hown hK.1 hP 0 rfl rfl 8 (by decide) (hg _ q128) (fun _ h9 => h9) rfl d_Ta_begin_49 ?_
  refine va_get (D := D) (ci := 2) (v := .ref bA) (C := R_Tr) (T := F_Tr) (N := 3) hx hb hg f_Tr hown hK.1 hP 8 rfl rfl 2 (by decide) (hg _ q56) (fun _ h9 => h9) rfl d_Ta_begin_52 ?_
  refine lv_iconst (v := 0) hx hb d_Ta_begin_55 (by decide) ?_
  refine lv_aload_n hx hb d_Ta_begin_56 rfl (lv_at hl 1 rfl) ?_
  refine va_get (D := D) (ci := 4) (v := .ref ca) (C := R_Ta) (T := F_Ta) (N := 9) hx hb hg f_Ta hown hK.1 hP 0 rfl rfl 2 (by decide) (hg _ q86) (fun x9 h9 => u_same (hg _ q87) x9 h9) rfl d_Ta_begin_57 ?_
  refine lv_bipush (v := 40) hx hb d_Ta_begin_60 (by decide) ?_
  refine lv_aload_n hx hb d_Ta_begin_62 rfl (lv_at hl 1 rfl) ?_
  refine va_get (D := D) (ci := 4) (v := .ref tr) (C := R_Ta) (T := F_Ta) (N := 9) hx hb hg f_Ta hown hK.1 hP 0 rfl rfl 8 (by decide) (hg _ q128) (fun _ h9 => h9) rfl d_Ta_begin_63 ?_
  refine va_get (D := D) (ci := 2) (v := .ref pL) (C := R_Tr) (T := F_Tr) (N := 3) hx hb hg f_Tr hown hK.1 hP 8 rfl rfl 0 (by decide) (hg _ q51) (fun _ h9 => h9) rfl d_Ta_begin_66 ?_
  refine va_get (D := D) (ci := 1) (v := .int (nI np)) (C := R_Li) (T := F_Li) (N := 2) hx hb hg f_Li hown hK.1 hP 10 rfl rfl 1 (by decide) (hg _ q35) (fun _ h9 => h9) rfl d_Ta_begin_69 ?_
  refine xa_cp hx hb (hml.trans hl.1.symm) hown hg q462 hK hP hD hS 9 2 0 rfl rfl rfl 0 40 np rfl rfl rfl (by decide) (by decide) (by omega) (by omega) (Nat.le_of_ble_eq_true rfl) (Nat.le_of_ble_eq_true rfl) d_Ta_begin_72 (fun H locs hP hD hS => ?_)
  have hP : va_P D cls [(mo, .inr (4, [.ref li, .ref ra, .ref ca, .ref aa, .int (nI 0), .int 0, .int 0, .int 0, .ref tr])), (ra, .inl (cI, 8, .inl (upd (upd (upd (fun _ => 0) 1 (sr 1)) 2 (sr 2)) 3 (sr 3)))), (ca, .inl (cI, 64, .inl (va_cpy B (upd (upd (upd (upd (tm_c0 sd) 36 (sr 4)) 37 (sr 5)) 38 (sr 6)) 39 (sr 7)) 0 40 np))), (aa, .inl (cI, 120, .inl Ac)), (li, .inr (1, [.ref lf, .int (nI n)])), (lf, .inl (cI, 868, .inl F)), (sR, .inl (cI, 8, .inl sr)), (sD, .inl (cI, 32, .inl sd)), (tr, .inr (2, [.ref pL, .ref li, .ref bA])), (bA, .inl (cI, 25, .inl B)), (pL, .inr (1, [.ref pF, .int (nI np)]))] H := hP
  have hD : va_D A [(mo, .inr (4, [.ref li, .ref ra, .ref ca, .ref aa, .int (nI 0), .int 0, .int 0, .int 0, .ref tr])), (ra, .inl (cI, 8, .inl (upd (upd (upd (fun _ => 0) 1 (sr 1)) 2 (sr 2)) 3 (sr 3)))), (ca, .inl (cI, 64, .inl (va_cpy B (upd (upd (upd (upd (tm_c0 sd) 36 (sr 4)) 37 (sr 5)) 38 (sr 6)) 39 (sr 7)) 0 40 np))), (aa, .inl (cI, 120, .inl Ac)), (li, .inr (1, [.ref lf, .int (nI n)])), (lf, .inl (cI, 868, .inl F)), (sR, .inl (cI, 8, .inl sr)), (sD, .inl (cI, 32, .inl sd)), (tr, .inr (2, [.ref pL, .ref li, .ref bA])), (bA, .inl (cI, 25, .inl B)), (pL, .inr (1, [.ref pF, .int (nI np)]))] := hD
  have hD := xa_D (e2 := .inl (cI, 8, .inl (tm_r1 sr))) hD 1 rfl
  have hP := xa_P (g := tm_r1 sr) hP 1 rfl (tm_r1_a sr)
  have hP : va_P D cls [(mo, .inr (4, [.ref li, .ref ra, .ref ca, .ref aa, .int (nI 0), .int 0, .int 0, .int 0, .ref tr])), (ra, .inl (cI, 8, .inl (tm_r1 sr))), (ca, .inl (cI, 64, .inl (va_cpy B (upd (upd (upd (upd (tm_c0 sd) 36 (sr 4)) 37 (sr 5)) 38 (sr 6)) 39 (sr 7)) 0 40 np))), (aa, .inl (cI, 120, .inl Ac)), (li, .inr (1, [.ref lf, .int (nI n)])), (lf, .inl (cI, 868, .inl F)), (sR, .inl (cI, 8, .inl sr)), (sD, .inl (cI, 32, .inl sd)), (tr, .inr (2, [.ref pL, .ref li, .ref bA])), (bA, .inl (cI, 25, .inl B)), (pL, .inr (1, [.ref pF, .int (nI np)]))] H := hP
  have hD : va_D A [(mo, .inr (4, [.ref li, .ref ra, .ref ca, .ref aa, .int (nI 0), .int 0, .int 0, .int 0, .ref tr])), (ra, .inl (cI, 8, .inl (tm_r1 sr))), (ca, .inl (cI, 64, .inl (va_cpy B (upd (upd (upd (upd (tm_c0 sd) 36 (sr 4)) 37 (sr 5)) 38 (sr 6)) 39 (sr 7)) 0 40 np))), (aa, .inl (cI, 120, .inl Ac)), (li, .inr (1, [.ref lf, .int (nI n)])), (lf, .inl (cI, 868, .inl F)), (sR, .inl (cI, 8, .inl sr)), (sD, .inl (cI, 32, .inl sd)), (tr, .inr (2, [.ref pL, .ref li, .ref bA])), (bA, .inl (cI, 25, .inl B)), (pL, .inr (1, [.ref pF, .int (nI np)]))] := hD
  have hD := xa_D (e2 := .inl (cI, 64, .inl (tm_c1 sr sd B np))) hD 2 rfl
  have hP := xa_P (g := tm_c1 sr sd B np) hP 2 rfl (tm_c1_a sr sd B hnp)
  have hP : va_P D cls [(mo, .inr (4, [.ref li, .ref ra, .ref ca, .ref aa, .int (nI 0), .int 0, .int 0, .int 0, .ref tr])), (ra, .inl (cI, 8, .inl (tm_r1 sr))), (ca, .inl (cI, 64, .inl (tm_c1 sr sd B np))), (aa, .inl (cI, 120, .inl Ac)), (li, .inr (1, [.ref lf, .int (nI n)])), (lf, .inl (cI, 868, .inl F)), (sR, .inl (cI, 8, .inl sr)), (sD, .inl (cI, 32, .inl sd)), (tr, .inr (2, [.ref pL, .ref li, .ref bA])), (bA, .inl (cI, 25, .inl B)), (pL, .inr (1, [.ref pF, .int (nI np)]))] H := hP
  have hD : va_D A [(mo, .inr (4, [.ref li, .ref ra, .ref ca, .ref aa, .int (nI 0), .int 0, .int 0, .int 0, .ref tr])), (ra, .inl (cI, 8, .inl (tm_r1 sr))), (ca, .inl (cI, 64, .inl (tm_c1 sr sd B np))), (aa, .inl (cI, 120, .inl Ac)), (li, .inr (1, [.ref lf, .int (nI n)])), (lf, .inl (cI, 868, .inl F)), (sR, .inl (cI, 8, .inl sr)), (sD, .inl (cI, 32, .inl sd)), (tr, .inr (2, [.ref pL, .ref li, .ref bA])), (bA, .inl (cI, 25, .inl B)), (pL, .inr (1, [.ref pF, .int (nI np)]))] := hD
  have hP : va_P D cls [(mo, .inr (4, [.ref li, .ref ra, .ref ca, .ref aa, .int (nI 0), .int 0, .int 0, .int 0, .ref tr])), (ra, .inl (cI, 8, .inl (tm_r1 sr))), (ca, .inl (cI, 64, .inl (tm_c1 sr sd B np))), (aa, .inl (cI, 120, .inl Ac)), (li, .inr (1, [.ref lf, .int (nI n)])), (lf, .inl (cI, 868, .inl F)), (sR, .inl (cI, 8, .inl sr)), (sD, .inl (cI, 32, .inl sd)), (tr, .inr (2, [.ref pL, .ref li, .ref bA])), (bA, .inl (cI, 25, .inl B)), (pL, .inr (1, [.ref pF, .int (nI np)]))] H := by exact hP
  have hD : va_D A [(mo, .inr (4, [.ref li, .ref ra, .ref ca, .ref aa, .int (nI 0), .int 0, .int 0, .int 0, .ref tr])), (ra, .inl (cI, 8, .inl (tm_r1 sr))), (ca, .inl (cI, 64, .inl (tm_c1 sr sd B np))), (aa, .inl (cI, 120, .inl Ac)), (li, .inr (1, [.ref lf, .int (nI n)])), (lf, .inl (cI, 868, .inl F)), (sR, .inl (cI, 8, .inl sr)), (sD, .inl (cI, 32, .inl sd)), (tr, .inr (2, [.ref pL, .ref li, .ref bA])), (bA, .inl (cI, 25, .inl B)), (pL, .inr (1, [.ref pF, .int (nI np)]))] := by exact hD
  exact W.vret hx hb hr (fun t9 ht9 hW9 => ⟨⟨(), rfl, trivial, by rw [ht9]; exact hP, hD⟩, hS.F ht9⟩) hS.2.2 d_Ta_begin_75

set_option maxHeartbeats 4000000 in
set_option maxRecDepth 100000 in
theorem c_So_sourceRegister (l : Launch) (D : va_G) (cI cZ cJ : ClassId) (mo li ra ca aa lf : Nat) (Rg Ce Ac F : Nat → Int32) (n kp : Nat) (dn en nx : Int32) (he : Int32) (q : Nat) (hq : q < 8) : xr_Met l y_So_sourceRegister b_So_sourceRegister 2 (some .int) { frames := 0, cells := 0, slots := 0, locals := 0 } [.ref mo, .int (nI q)] (xb D cls [(mo, .inr (3, [.ref li, .ref ra, .ref ca, .ref aa, .int (nI kp), .int he, .int dn, .int en, .int nx])), (ra, .inl (cI, 8, .inl Rg)), (ca, .inl (cI, 32, .inl Ce)), (aa, .inl (cI, 120, .inl Ac)), (li, .inr (1, [.ref lf, .int (nI n)])), (lf, .inl (cI, 96, .inl F))] (tyL cI cZ cJ)) (Rg q) := by
  refine Met.ofW (cc := b_So_sourceRegister) (maxL := 2) (ret := (some .int)) (by decide) rfl ?_
  intro p e s m args below meth c s₁ B0 hml hv
  obtain ⟨rfl, hP, hK⟩ := hv
  have hx := B0.exec
  have hb := B0.bytes
  have hr := B0.returns
  have hlocks := B0.notSynchronized
  have hg : ∀ w ∈ gG, w.before _ s = true := fun w h => atoms_spec B0.pre w (List.mem_cons_of_mem _ h)
  have hown : s.vm.findClass R_So = some m.cls := findClass_of_methodNamed B0.named
  have hP : va_P D cls [(mo, .inr (3, [.ref li, .ref ra, .ref ca, .ref aa, .int (nI kp), .int he, .int dn, .int en, .int nx])), (ra, .inl (cI, 8, .inl Rg)), (ca, .inl (cI, 32, .inl Ce)), (aa, .inl (cI, 120, .inl Ac)), (li, .inr (1, [.ref lf, .int (nI n)])), (lf, .inl (cI, 96, .inl F))] s.heap := hP
  have hl := lv_entry ([.ref mo, .int (nI q)]) (n := 2) (Nat.le_of_ble_eq_true rfl)
  rw [lg_entry_eq]
  generalize (lg_sl ([.ref mo, .int (nI q)]) ++ List.replicate (2 - (lg_sl ([.ref mo, .int (nI q)])).length) Slot.unset).toArray = ls at hl ⊢
  have hl : lv_has ls 2 [(0, .ref mo), (1, .int (nI q))] := hl
  refine lv_aload_n hx hb d_So_sourceRegister_0 rfl (lv_at hl 0 rfl) ?_
  refine va_get (D := D) (ci := 3) (v := .ref ra) (C := R_So) (T := F_So) (N := 9) hx hb hg f_So hown hK.1 hP 0 rfl rfl 1 (by decide) (hg _ q81) (fun x9 h9 => u_same (hg _ q82) x9 h9) rfl d_So_sourceRegister_1 ?_
  refine lv_iload_n hx hb d_So_sourceRegister_4 rfl (lv_at hl 1 rfl) ?_
  refine xa_ld hx hb hK hP 1 0 rfl rfl (kx := q) (rfl) (by omega) (by decide) d_So_sourceRegister_5 ?_
  exact W.iret (v := Rg q) hx hb hr (fun t9 ht9 hW9 => ⟨Rg q, rfl, rfl, ht9⟩) (fun _ h => by cases h) d_So_sourceRegister_6

set_option maxHeartbeats 4000000 in
set_option maxRecDepth 100000 in
theorem c_Ta_sourceRegister (l : Launch) (D : va_G) (cI cZ cJ : ClassId) (mo li ra ca aa lf tr : Nat) (Rg Ce Ac F : Nat → Int32) (n kp : Nat) (dn en : Int32) (he : Int32) (q : Nat) (hq : q < 8) : xr_Met l y_Ta_sourceRegister b_Ta_sourceRegister 2 (some .int) { frames := 0, cells := 0, slots := 0, locals := 0 } [.ref mo, .int (nI q)] (xb D cls [(mo, .inr (4, [.ref li, .ref ra, .ref ca, .ref aa, .int (nI kp), .int he, .int dn, .int en, .ref tr])), (ra, .inl (cI, 8, .inl Rg)), (ca, .inl (cI, 64, .inl Ce)), (aa, .inl (cI, 120, .inl Ac)), (li, .inr (1, [.ref lf, .int (nI n)])), (lf, .inl (cI, 868, .inl F))] (tyL cI cZ cJ)) (if q < 4 then Rg q else Ce (32 + q)) := by
  refine Met.ofW (cc := b_Ta_sourceRegister) (maxL := 2) (ret := (some .int)) (by decide) rfl ?_
  intro p e s m args below meth c s₁ B0 hml hv
  obtain ⟨rfl, hP, hK⟩ := hv
  have hx := B0.exec
  have hb := B0.bytes
  have hr := B0.returns
  have hlocks := B0.notSynchronized
  have hg : ∀ w ∈ gG, w.before _ s = true := fun w h => atoms_spec B0.pre w (List.mem_cons_of_mem _ h)
  have hown : s.vm.findClass R_Ta = some m.cls := findClass_of_methodNamed B0.named
  have hP : va_P D cls [(mo, .inr (4, [.ref li, .ref ra, .ref ca, .ref aa, .int (nI kp), .int he, .int dn, .int en, .ref tr])), (ra, .inl (cI, 8, .inl Rg)), (ca, .inl (cI, 64, .inl Ce)), (aa, .inl (cI, 120, .inl Ac)), (li, .inr (1, [.ref lf, .int (nI n)])), (lf, .inl (cI, 868, .inl F))] s.heap := hP
  have hl := lv_entry ([.ref mo, .int (nI q)]) (n := 2) (Nat.le_of_ble_eq_true rfl)
  rw [lg_entry_eq]
  generalize (lg_sl ([.ref mo, .int (nI q)]) ++ List.replicate (2 - (lg_sl ([.ref mo, .int (nI q)])).length) Slot.unset).toArray = ls at hl ⊢
  have hl : lv_has ls 2 [(0, .ref mo), (1, .int (nI q))] := hl
  refine lv_iload_n hx hb d_Ta_sourceRegister_0 rfl (lv_at hl 1 rfl) ?_
  refine lv_iconst (v := 4) hx hb d_Ta_sourceRegister_1 (by decide) ?_
  refine lv_icmp_ge (tgt := 14) hx hb d_Ta_sourceRegister_2 rfl (fun hc => ?_) (fun hc => ?_)
  · have hc := Nat.not_lt.mpr ((nI_leI (a := 4) (b := q) (by decide) (by omega)).mp hc)
    refine lv_aload_n hx hb d_Ta_sourceRegister_14 rfl (lv_at hl 0 rfl) ?_
    refine va_get (D := D) (ci := 4) (v := .ref ca) (C := R_Ta) (T := F_Ta) (N := 9) hx hb hg f_Ta hown hK.1 hP 0 rfl rfl 2 (by decide) (hg _ q86) (fun x9 h9 => u_same (hg _ q87) x9 h9) rfl d_Ta_sourceRegister_15 ?_
    refine lv_bipush (v := 32) hx hb d_Ta_sourceRegister_18 (by decide) ?_
    refine lv_iload_n hx hb d_Ta_sourceRegister_20 rfl (lv_at hl 1 rfl) ?_
    refine lv_iadd hx hb d_Ta_sourceRegister_21 ?_
    have eq9 : (32 + (nI q) : Int32) = nI (32 + q) := nI_add 32 q
    refine W.eq (g2 := F0 m 22 ls [.int (nI (32 + q)), .ref ca]) (by rw [eq9]) ?_
    refine xa_ld hx hb hK hP 2 0 rfl rfl (kx := 32 + q) (rfl) (by omega) (by decide) d_Ta_sourceRegister_22 ?_
    exact W.iret (v := Ce (32 + q)) hx hb hr (fun t9 ht9 hW9 => ⟨Ce (32 + q), rfl, by simp [hc], ht9⟩) (fun _ h => by cases h) d_Ta_sourceRegister_23
  · have hc := Nat.lt_of_not_le (mt (nI_leI (a := 4) (b := q) (by decide) (by omega)).mpr hc)
    refine lv_aload_n hx hb d_Ta_sourceRegister_5 rfl (lv_at hl 0 rfl) ?_
    refine va_get (D := D) (ci := 4) (v := .ref ra) (C := R_Ta) (T := F_Ta) (N := 9) hx hb hg f_Ta hown hK.1 hP 0 rfl rfl 1 (by decide) (hg _ q83) (fun x9 h9 => u_same (hg _ q84) x9 h9) rfl d_Ta_sourceRegister_6 ?_
    refine lv_iload_n hx hb d_Ta_sourceRegister_9 rfl (lv_at hl 1 rfl) ?_
    refine xa_ld hx hb hK hP 1 0 rfl rfl (kx := q) (rfl) (by omega) (by decide) d_Ta_sourceRegister_10 ?_
    refine lv_goto (tgt := 23) hx hb d_Ta_sourceRegister_11 rfl ?_
    exact W.iret (v := Rg q) hx hb hr (fun t9 ht9 hW9 => ⟨Rg q, rfl, by simp [hc], ht9⟩) (fun _ h => by cases h) d_Ta_sourceRegister_23
