/-! THE REFERENCE: its questions, and what it writes (printed by wip/whole/gen/c20.py) -/
set_option maxHeartbeats 4000000 in
set_option maxRecDepth 100000 in
theorem c_Mo_in (l : Launch) (D : va_G) (cI cZ cJ : ClassId) (x lo hi : Int32) : xr_Met l y_Mo_in b_Mo_in 3 (some .boolean) { frames := 0, cells := 0, slots := 0, locals := 0 } [.int x, .int lo, .int hi] (xb D cls [] (tyL cI cZ cJ)) (tm_wi x lo hi) := by
  refine Met.ofW (cc := b_Mo_in) (maxL := 3) (ret := (some .boolean)) (by decide) rfl ?_
  intro p e s m args below meth c s₁ B0 hml hv
  obtain ⟨rfl, hP, hK⟩ := hv
  have hx := B0.exec
  have hb := B0.bytes
  have hr := B0.returns
  have hlocks := B0.notSynchronized
  have hg : ∀ w ∈ gG, w.before _ s = true := fun w h => atoms_spec B0.pre w (List.mem_cons_of_mem _ h)
  have hown : s.vm.findClass R_Mo = some m.cls := findClass_of_methodNamed B0.named
  have hP : va_P D cls [] s.heap := hP
  have hl := lv_entry ([.int x, .int lo, .int hi]) (n := 3) (Nat.le_of_ble_eq_true rfl)
  rw [lg_entry_eq]
  generalize (lg_sl ([.int x, .int lo, .int hi]) ++ List.replicate (3 - (lg_sl ([.int x, .int lo, .int hi])).length) Slot.unset).toArray = ls at hl ⊢
  have hl : lv_has ls 3 [(0, .int x), (1, .int lo), (2, .int hi)] := hl
  refine lv_iload_n hx hb d_Mo_in_0 rfl (lv_at hl 0 rfl) ?_
  refine lv_iload_n hx hb d_Mo_in_1 rfl (lv_at hl 1 rfl) ?_
  refine lv_icmp_lt (tgt := 14) hx hb d_Mo_in_2 rfl (fun h97 => ?_) (fun h97 => ?_)
  · refine lv_iconst (v := 0) hx hb d_Mo_in_14 (by decide) ?_
    exact W.zret (v := 0) hx hb hr (rfl) (fun t9 ht9 hW9 => ⟨0, rfl, by simp [tm_wi, h97], ht9⟩) (fun _ h => by cases h) d_Mo_in_15
  · refine lv_iload_n hx hb d_Mo_in_5 rfl (lv_at hl 0 rfl) ?_
    refine lv_iload_n hx hb d_Mo_in_6 rfl (lv_at hl 2 rfl) ?_
    refine lv_icmp_gt (tgt := 14) hx hb d_Mo_in_7 rfl (fun h98 => ?_) (fun h98 => ?_)
    · refine lv_iconst (v := 0) hx hb d_Mo_in_14 (by decide) ?_
      exact W.zret (v := 0) hx hb hr (rfl) (fun t9 ht9 hW9 => ⟨0, rfl, by simp [tm_wi, h97, h98], ht9⟩) (fun _ h => by cases h) d_Mo_in_15
    · refine lv_iconst (v := 1) hx hb d_Mo_in_10 (by decide) ?_
      refine lv_goto (tgt := 15) hx hb d_Mo_in_11 rfl ?_
      exact W.zret (v := 1) hx hb hr (rfl) (fun t9 ht9 hW9 => ⟨1, rfl, by simp [tm_wi, h97, h98], ht9⟩) (fun _ h => by cases h) d_Mo_in_15

set_option maxHeartbeats 4000000 in
set_option maxRecDepth 100000 in
theorem c_Mo_isNumber (l : Launch) (D : va_G) (cI cZ cJ : ClassId) (x : Int32) : xr_Met l y_Mo_isNumber b_Mo_isNumber 1 (some .boolean) { frames := 1, cells := 0, slots := 0, locals := 22 } [.int x] (xb D cls [] (tyL cI cZ cJ)) (tm_wi x (-32768) 32767) := by
  refine Met.ofW (cc := b_Mo_isNumber) (maxL := 1) (ret := (some .boolean)) (by decide) rfl ?_
  intro p e s m args below meth c s₁ B0 hml hv
  obtain ⟨rfl, hP, hK⟩ := hv
  have hx := B0.exec
  have hb := B0.bytes
  have hr := B0.returns
  have hlocks := B0.notSynchronized
  have hg : ∀ w ∈ gG, w.before _ s = true := fun w h => atoms_spec B0.pre w (List.mem_cons_of_mem _ h)
  have hown : s.vm.findClass R_Mo = some m.cls := findClass_of_methodNamed B0.named
  have hP : va_P D cls [] s.heap := hP
  have hl := lv_entry ([.int x]) (n := 1) (Nat.le_of_ble_eq_true rfl)
  rw [lg_entry_eq]
  generalize (lg_sl ([.int x]) ++ List.replicate (1 - (lg_sl ([.int x])).length) Slot.unset).toArray = ls at hl ⊢
  have hl : lv_has ls 1 [(0, .int x)] := hl
  refine lv_iload_n hx hb d_Mo_isNumber_0 rfl (lv_at hl 0 rfl) ?_
  refine lv_sipush (v := -32768) hx hb d_Mo_isNumber_1 (by decide) ?_
  refine lv_sipush (v := 32767) hx hb d_Mo_isNumber_4 (by decide) ?_
  refine xr_S (As := [.int x, .int (-32768), .int 32767]) (rest := []) ⟨hx, hb, hml, hown, hg⟩ (c_Mo_in l D cI cZ cJ x (-32768) 32767) m_Mo_in q636 ⟨rfl, rfl⟩ ⟨Nat.le_of_ble_eq_true rfl, Nat.le_of_ble_eq_true rfl⟩ hK hP [] rfl rfl hl.1 rfl (Nat.le_of_ble_eq_true rfl) d_Mo_isNumber_7 ⟨Nat.zero_le _, Nat.zero_le _⟩ ?_
  exact W.zret (v := tm_wi x (-32768) 32767) hx hb hr (xz_wi _ _ _) (fun t9 ht9 hW9 => ⟨tm_wi x (-32768) 32767, rfl, rfl, ht9⟩) (fun _ h => by cases h) d_Mo_isNumber_10

set_option maxHeartbeats 4000000 in
set_option maxRecDepth 100000 in
theorem c_Mo_isBranch (l : Launch) (D : va_G) (cI cZ cJ : ClassId) (x : Int32) : xr_Met l y_Mo_isBranch b_Mo_isBranch 1 (some .boolean) { frames := 1, cells := 0, slots := 0, locals := 22 } [.int x] (xb D cls [] (tyL cI cZ cJ)) (tm_wi x 9 13) := by
  refine Met.ofW (cc := b_Mo_isBranch) (maxL := 1) (ret := (some .boolean)) (by decide) rfl ?_
  intro p e s m args below meth c s₁ B0 hml hv
  obtain ⟨rfl, hP, hK⟩ := hv
  have hx := B0.exec
  have hb := B0.bytes
  have hr := B0.returns
  have hlocks := B0.notSynchronized
  have hg : ∀ w ∈ gG, w.before _ s = true := fun w h => atoms_spec B0.pre w (List.mem_cons_of_mem _ h)
  have hown : s.vm.findClass R_Mo = some m.cls := findClass_of_methodNamed B0.named
  have hP : va_P D cls [] s.heap := hP
  have hl := lv_entry ([.int x]) (n := 1) (Nat.le_of_ble_eq_true rfl)
  rw [lg_entry_eq]
  generalize (lg_sl ([.int x]) ++ List.replicate (1 - (lg_sl ([.int x])).length) Slot.unset).toArray = ls at hl ⊢
  have hl : lv_has ls 1 [(0, .int x)] := hl
  refine lv_iload_n hx hb d_Mo_isBranch_0 rfl (lv_at hl 0 rfl) ?_
  refine lv_bipush (v := 9) hx hb d_Mo_isBranch_1 (by decide) ?_
  refine lv_bipush (v := 13) hx hb d_Mo_isBranch_3 (by decide) ?_
  refine xr_S (As := [.int x, .int 9, .int 13]) (rest := []) ⟨hx, hb, hml, hown, hg⟩ (c_Mo_in l D cI cZ cJ x 9 13) m_Mo_in q636 ⟨rfl, rfl⟩ ⟨Nat.le_of_ble_eq_true rfl, Nat.le_of_ble_eq_true rfl⟩ hK hP [] rfl rfl hl.1 rfl (Nat.le_of_ble_eq_true rfl) d_Mo_isBranch_5 ⟨Nat.zero_le _, Nat.zero_le _⟩ ?_
  exact W.zret (v := tm_wi x 9 13) hx hb hr (xz_wi _ _ _) (fun t9 ht9 hW9 => ⟨tm_wi x 9 13, rfl, rfl, ht9⟩) (fun _ h => by cases h) d_Mo_isBranch_8

set_option maxHeartbeats 4000000 in
set_option maxRecDepth 100000 in
theorem c_Mo_round (l : Launch) (D : va_G) (cI cZ cJ : ClassId) (x : Int32) : xr_Met l y_Mo_round b_Mo_round 1 (some .int) { frames := 0, cells := 0, slots := 0, locals := 0 } [.int x] (xb D cls [] (tyL cI cZ cJ)) (tm_wr x) := by
  refine Met.ofW (cc := b_Mo_round) (maxL := 1) (ret := (some .int)) (by decide) rfl ?_
  intro p e s m args below meth c s₁ B0 hml hv
  obtain ⟨rfl, hP, hK⟩ := hv
  have hx := B0.exec
  have hb := B0.bytes
  have hr := B0.returns
  have hlocks := B0.notSynchronized
  have hg : ∀ w ∈ gG, w.before _ s = true := fun w h => atoms_spec B0.pre w (List.mem_cons_of_mem _ h)
  have hown : s.vm.findClass R_Mo = some m.cls := findClass_of_methodNamed B0.named
  have hP : va_P D cls [] s.heap := hP
  have hl := lv_entry ([.int x]) (n := 1) (Nat.le_of_ble_eq_true rfl)
  rw [lg_entry_eq]
  generalize (lg_sl ([.int x]) ++ List.replicate (1 - (lg_sl ([.int x])).length) Slot.unset).toArray = ls at hl ⊢
  have hl : lv_has ls 1 [(0, .int x)] := hl
  refine lv_iload_n hx hb d_Mo_round_0 rfl (lv_at hl 0 rfl) ?_
  refine lv_i2s (v := tm_wr x) hx hb d_Mo_round_1 rfl ?_
  exact W.iret (v := tm_wr x) hx hb hr (fun t9 ht9 hW9 => ⟨tm_wr x, rfl, rfl, ht9⟩) (fun _ h => by cases h) d_Mo_round_2

set_option maxHeartbeats 4000000 in
set_option maxRecDepth 100000 in
theorem c_Mo_thrown (l : Launch) (D : va_G) (cI cZ cJ : ClassId) (m0 oA aA bB cC gA zA bA sR sD rA eC eA pA dA kA acA : Nat) (Po Pa Pb Pc G O B sr sd Rr Cr En Pl Dn Kp Ar : Nat → Int32) (n k : Nat) (th tl nx : Int32) : xr_Met l y_Mo_thrown b_Mo_thrown 1 (some .int) { frames := 0, cells := 0, slots := 0, locals := 0 } [.ref m0] (xb D cls [(m0, .inr (5, [.int th, .int (nI n), .ref oA, .ref aA, .ref bB, .ref cC, .int tl, .int (nI k), .ref gA, .ref zA, .ref bA, .ref sR, .ref sD, .ref rA, .ref eC, .ref eA, .ref pA, .ref dA, .ref kA, .ref acA, .int nx])), (oA, .inl (cI, 24, .inl Po)), (aA, .inl (cI, 24, .inl Pa)), (bB, .inl (cI, 24, .inl Pb)), (cC, .inl (cI, 24, .inl Pc)), (gA, .inl (cI, 1600, .inl G)), (zA, .inl (cZ, 400, .inl O)), (bA, .inl (cI, 25, .inl B)), (sR, .inl (cI, 8, .inl sr)), (sD, .inl (cI, 32, .inl sd)), (rA, .inl (cI, 16, .inl Rr)), (eC, .inl (cI, 128, .inl Cr)), (eA, .inl (cI, 2, .inl En)), (pA, .inl (cI, 2, .inl Pl)), (dA, .inl (cI, 2, .inl Dn)), (kA, .inl (cI, 2, .inl Kp)), (acA, .inl (cI, 240, .inl Ar))] (tyL cI cZ cJ)) (th) := by
  refine Met.ofW (cc := b_Mo_thrown) (maxL := 1) (ret := (some .int)) (by decide) rfl ?_
  intro p e s m args below meth c s₁ B0 hml hv
  obtain ⟨rfl, hP, hK⟩ := hv
  have hx := B0.exec
  have hb := B0.bytes
  have hr := B0.returns
  have hlocks := B0.notSynchronized
  have hg : ∀ w ∈ gG, w.before _ s = true := fun w h => atoms_spec B0.pre w (List.mem_cons_of_mem _ h)
  have hown : s.vm.findClass R_Mo = some m.cls := findClass_of_methodNamed B0.named
  have hP : va_P D cls [(m0, .inr (5, [.int th, .int (nI n), .ref oA, .ref aA, .ref bB, .ref cC, .int tl, .int (nI k), .ref gA, .ref zA, .ref bA, .ref sR, .ref sD, .ref rA, .ref eC, .ref eA, .ref pA, .ref dA, .ref kA, .ref acA, .int nx])), (oA, .inl (cI, 24, .inl Po)), (aA, .inl (cI, 24, .inl Pa)), (bB, .inl (cI, 24, .inl Pb)), (cC, .inl (cI, 24, .inl Pc)), (gA, .inl (cI, 1600, .inl G)), (zA, .inl (cZ, 400, .inl O)), (bA, .inl (cI, 25, .inl B)), (sR, .inl (cI, 8, .inl sr)), (sD, .inl (cI, 32, .inl sd)), (rA, .inl (cI, 16, .inl Rr)), (eC, .inl (cI, 128, .inl Cr)), (eA, .inl (cI, 2, .inl En)), (pA, .inl (cI, 2, .inl Pl)), (dA, .inl (cI, 2, .inl Dn)), (kA, .inl (cI, 2, .inl Kp)), (acA, .inl (cI, 240, .inl Ar))] s.heap := hP
  have hl := lv_entry ([.ref m0]) (n := 1) (Nat.le_of_ble_eq_true rfl)
  rw [lg_entry_eq]
  generalize (lg_sl ([.ref m0]) ++ List.replicate (1 - (lg_sl ([.ref m0])).length) Slot.unset).toArray = ls at hl ⊢
  have hl : lv_has ls 1 [(0, .ref m0)] := hl
  refine lv_aload_n hx hb d_Mo_thrown_0 rfl (lv_at hl 0 rfl) ?_
  refine va_get (D := D) (ci := 5) (v := .int th) (C := R_Mo) (T := F_Mo) (N := 21) hx hb hg f_Mo hown hK.1 hP 0 rfl rfl 0 (by decide) (hg _ q563) (fun _ h9 => h9) rfl d_Mo_thrown_1 ?_
  exact W.iret (v := th) hx hb hr (fun t9 ht9 hW9 => ⟨th, rfl, rfl, ht9⟩) (fun _ h => by cases h) d_Mo_thrown_4

set_option maxHeartbeats 4000000 in
set_option maxRecDepth 100000 in
theorem c_Mo_size (l : Launch) (D : va_G) (cI cZ cJ : ClassId) (m0 oA aA bB cC gA zA bA sR sD rA eC eA pA dA kA acA : Nat) (Po Pa Pb Pc G O B sr sd Rr Cr En Pl Dn Kp Ar : Nat → Int32) (n k : Nat) (th tl nx : Int32) : xi_Met l y_Mo_size b_Mo_size 1 (some .int) { frames := 0, cells := 0, slots := 0, locals := 0 } [.ref m0] D cls (tyL cI cZ cJ) [(m0, .inr (5, [.int th, .int (nI n), .ref oA, .ref aA, .ref bB, .ref cC, .int tl, .int (nI k), .ref gA, .ref zA, .ref bA, .ref sR, .ref sD, .ref rA, .ref eC, .ref eA, .ref pA, .ref dA, .ref kA, .ref acA, .int nx])), (oA, .inl (cI, 24, .inl Po)), (aA, .inl (cI, 24, .inl Pa)), (bB, .inl (cI, 24, .inl Pb)), (cC, .inl (cI, 24, .inl Pc)), (gA, .inl (cI, 1600, .inl G)), (zA, .inl (cZ, 400, .inl O)), (bA, .inl (cI, 25, .inl B)), (sR, .inl (cI, 8, .inl sr)), (sD, .inl (cI, 32, .inl sd)), (rA, .inl (cI, 16, .inl Rr)), (eC, .inl (cI, 128, .inl Cr)), (eA, .inl (cI, 2, .inl En)), (pA, .inl (cI, 2, .inl Pl)), (dA, .inl (cI, 2, .inl Dn)), (kA, .inl (cI, 2, .inl Kp)), (acA, .inl (cI, 240, .inl Ar))] [(m0, .inr (5, [.int 0, .int (nI n), .ref oA, .ref aA, .ref bB, .ref cC, .int tl, .int (nI k), .ref gA, .ref zA, .ref bA, .ref sR, .ref sD, .ref rA, .ref eC, .ref eA, .ref pA, .ref dA, .ref kA, .ref acA, .int nx])), (oA, .inl (cI, 24, .inl Po)), (aA, .inl (cI, 24, .inl Pa)), (bB, .inl (cI, 24, .inl Pb)), (cC, .inl (cI, 24, .inl Pc)), (gA, .inl (cI, 1600, .inl G)), (zA, .inl (cZ, 400, .inl O)), (bA, .inl (cI, 25, .inl B)), (sR, .inl (cI, 8, .inl sr)), (sD, .inl (cI, 32, .inl sd)), (rA, .inl (cI, 16, .inl Rr)), (eC, .inl (cI, 128, .inl Cr)), (eA, .inl (cI, 2, .inl En)), (pA, .inl (cI, 2, .inl Pl)), (dA, .inl (cI, 2, .inl Dn)), (kA, .inl (cI, 2, .inl Kp)), (acA, .inl (cI, 240, .inl Ar))] (nI k) := by
  intro sz
  refine Met.ofW (cc := b_Mo_size) (maxL := 1) (ret := (some .int)) (by decide) rfl ?_
  intro p e s m args below meth c s₁ B0 hml hv
  obtain ⟨rfl, hsz, hP, hK, hD0⟩ := hv
  have hx := B0.exec
  have hb := B0.bytes
  have hr := B0.returns
  have hlocks := B0.notSynchronized
  have hg : ∀ w ∈ gG, w.before _ s = true := fun w h => atoms_spec B0.pre w (List.mem_cons_of_mem _ h)
  have hown : s.vm.findClass R_Mo = some m.cls := findClass_of_methodNamed B0.named
  subst hsz
  have hD := hD0.self (sz := s.heap.size)
  generalize hAe : va_A [(m0, .inr (5, [.int th, .int (nI n), .ref oA, .ref aA, .ref bB, .ref cC, .int tl, .int (nI k), .ref gA, .ref zA, .ref bA, .ref sR, .ref sD, .ref rA, .ref eC, .ref eA, .ref pA, .ref dA, .ref kA, .ref acA, .int nx])), (oA, .inl (cI, 24, .inl Po)), (aA, .inl (cI, 24, .inl Pa)), (bB, .inl (cI, 24, .inl Pb)), (cC, .inl (cI, 24, .inl Pc)), (gA, .inl (cI, 1600, .inl G)), (zA, .inl (cZ, 400, .inl O)), (bA, .inl (cI, 25, .inl B)), (sR, .inl (cI, 8, .inl sr)), (sD, .inl (cI, 32, .inl sd)), (rA, .inl (cI, 16, .inl Rr)), (eC, .inl (cI, 128, .inl Cr)), (eA, .inl (cI, 2, .inl En)), (pA, .inl (cI, 2, .inl Pl)), (dA, .inl (cI, 2, .inl Dn)), (kA, .inl (cI, 2, .inl Kp)), (acA, .inl (cI, 240, .inl Ar))] s.heap.size = A at hD ⊢
  have hA : ∀ q : Nat, s.heap.size ≤ q → A q := fun q h => by rw [← hAe]; exact Or.inr h
  have hS : va_S A s.heap s.heap [] := va_S.rf
  have hP : va_P D cls [(m0, .inr (5, [.int th, .int (nI n), .ref oA, .ref aA, .ref bB, .ref cC, .int tl, .int (nI k), .ref gA, .ref zA, .ref bA, .ref sR, .ref sD, .ref rA, .ref eC, .ref eA, .ref pA, .ref dA, .ref kA, .ref acA, .int nx])), (oA, .inl (cI, 24, .inl Po)), (aA, .inl (cI, 24, .inl Pa)), (bB, .inl (cI, 24, .inl Pb)), (cC, .inl (cI, 24, .inl Pc)), (gA, .inl (cI, 1600, .inl G)), (zA, .inl (cZ, 400, .inl O)), (bA, .inl (cI, 25, .inl B)), (sR, .inl (cI, 8, .inl sr)), (sD, .inl (cI, 32, .inl sd)), (rA, .inl (cI, 16, .inl Rr)), (eC, .inl (cI, 128, .inl Cr)), (eA, .inl (cI, 2, .inl En)), (pA, .inl (cI, 2, .inl Pl)), (dA, .inl (cI, 2, .inl Dn)), (kA, .inl (cI, 2, .inl Kp)), (acA, .inl (cI, 240, .inl Ar))] s.heap := hP
  have hl := lv_entry ([.ref m0]) (n := 1) (Nat.le_of_ble_eq_true rfl)
  rw [lg_entry_eq]
  generalize (lg_sl ([.ref m0]) ++ List.replicate (1 - (lg_sl ([.ref m0])).length) Slot.unset).toArray = ls at hl ⊢
  have hl : lv_has ls 1 [(0, .ref m0)] := hl
  refine lv_aload_n hx hb d_Mo_size_0 rfl (lv_at hl 0 rfl) ?_
  refine lv_iconst (v := 0) hx hb d_Mo_size_1 (by decide) ?_
  refine va_put (D := D) (ci := 5) (v := .int 0) (ty := .int) (C := R_Mo) (T := F_Mo) (N := 21) hx hb hg f_Mo t_Mo t_Mo_ok n_Mo hown hK.1 hP hD hS 0 rfl rfl 0 (by decide) (hg _ q563) (fun _ h9 => h9) rfl (by decide +kernel) rfl rfl (Nat.le_of_ble_eq_true rfl) d_Mo_size_2 (fun H locs hP hD hS => ?_)
  have hP : va_P D cls [(m0, .inr (5, [.int 0, .int (nI n), .ref oA, .ref aA, .ref bB, .ref cC, .int tl, .int (nI k), .ref gA, .ref zA, .ref bA, .ref sR, .ref sD, .ref rA, .ref eC, .ref eA, .ref pA, .ref dA, .ref kA, .ref acA, .int nx])), (oA, .inl (cI, 24, .inl Po)), (aA, .inl (cI, 24, .inl Pa)), (bB, .inl (cI, 24, .inl Pb)), (cC, .inl (cI, 24, .inl Pc)), (gA, .inl (cI, 1600, .inl G)), (zA, .inl (cZ, 400, .inl O)), (bA, .inl (cI, 25, .inl B)), (sR, .inl (cI, 8, .inl sr)), (sD, .inl (cI, 32, .inl sd)), (rA, .inl (cI, 16, .inl Rr)), (eC, .inl (cI, 128, .inl Cr)), (eA, .inl (cI, 2, .inl En)), (pA, .inl (cI, 2, .inl Pl)), (dA, .inl (cI, 2, .inl Dn)), (kA, .inl (cI, 2, .inl Kp)), (acA, .inl (cI, 240, .inl Ar))] H := hP
  have hD : va_D A [(m0, .inr (5, [.int 0, .int (nI n), .ref oA, .ref aA, .ref bB, .ref cC, .int tl, .int (nI k), .ref gA, .ref zA, .ref bA, .ref sR, .ref sD, .ref rA, .ref eC, .ref eA, .ref pA, .ref dA, .ref kA, .ref acA, .int nx])), (oA, .inl (cI, 24, .inl Po)), (aA, .inl (cI, 24, .inl Pa)), (bB, .inl (cI, 24, .inl Pb)), (cC, .inl (cI, 24, .inl Pc)), (gA, .inl (cI, 1600, .inl G)), (zA, .inl (cZ, 400, .inl O)), (bA, .inl (cI, 25, .inl B)), (sR, .inl (cI, 8, .inl sr)), (sD, .inl (cI, 32, .inl sd)), (rA, .inl (cI, 16, .inl Rr)), (eC, .inl (cI, 128, .inl Cr)), (eA, .inl (cI, 2, .inl En)), (pA, .inl (cI, 2, .inl Pl)), (dA, .inl (cI, 2, .inl Dn)), (kA, .inl (cI, 2, .inl Kp)), (acA, .inl (cI, 240, .inl Ar))] := hD
  refine lv_aload_n hx hb d_Mo_size_5 rfl (lv_at hl 0 rfl) ?_
  refine va_get (D := D) (ci := 5) (v := .int (nI k)) (C := R_Mo) (T := F_Mo) (N := 21) hx hb hg f_Mo hown hK.1 hP 0 rfl rfl 7 (by decide) (hg _ q570) (fun _ h9 => h9) rfl d_Mo_size_6 ?_
  have hP : va_P D cls [(m0, .inr (5, [.int 0, .int (nI n), .ref oA, .ref aA, .ref bB, .ref cC, .int tl, .int (nI k), .ref gA, .ref zA, .ref bA, .ref sR, .ref sD, .ref rA, .ref eC, .ref eA, .ref pA, .ref dA, .ref kA, .ref acA, .int nx])), (oA, .inl (cI, 24, .inl Po)), (aA, .inl (cI, 24, .inl Pa)), (bB, .inl (cI, 24, .inl Pb)), (cC, .inl (cI, 24, .inl Pc)), (gA, .inl (cI, 1600, .inl G)), (zA, .inl (cZ, 400, .inl O)), (bA, .inl (cI, 25, .inl B)), (sR, .inl (cI, 8, .inl sr)), (sD, .inl (cI, 32, .inl sd)), (rA, .inl (cI, 16, .inl Rr)), (eC, .inl (cI, 128, .inl Cr)), (eA, .inl (cI, 2, .inl En)), (pA, .inl (cI, 2, .inl Pl)), (dA, .inl (cI, 2, .inl Dn)), (kA, .inl (cI, 2, .inl Kp)), (acA, .inl (cI, 240, .inl Ar))] H := by exact hP
  have hD : va_D A [(m0, .inr (5, [.int 0, .int (nI n), .ref oA, .ref aA, .ref bB, .ref cC, .int tl, .int (nI k), .ref gA, .ref zA, .ref bA, .ref sR, .ref sD, .ref rA, .ref eC, .ref eA, .ref pA, .ref dA, .ref kA, .ref acA, .int nx])), (oA, .inl (cI, 24, .inl Po)), (aA, .inl (cI, 24, .inl Pa)), (bB, .inl (cI, 24, .inl Pb)), (cC, .inl (cI, 24, .inl Pc)), (gA, .inl (cI, 1600, .inl G)), (zA, .inl (cZ, 400, .inl O)), (bA, .inl (cI, 25, .inl B)), (sR, .inl (cI, 8, .inl sr)), (sD, .inl (cI, 32, .inl sd)), (rA, .inl (cI, 16, .inl Rr)), (eC, .inl (cI, 128, .inl Cr)), (eA, .inl (cI, 2, .inl En)), (pA, .inl (cI, 2, .inl Pl)), (dA, .inl (cI, 2, .inl Dn)), (kA, .inl (cI, 2, .inl Kp)), (acA, .inl (cI, 240, .inl Ar))] := by exact hD
  exact W.iret (v := nI k) hx hb hr (fun t9 ht9 hW9 => ⟨⟨nI k, (), rfl, rfl, by rw [ht9]; exact hP, hD⟩, hS.F ht9⟩) hS.2.2 d_Mo_size_9

set_option maxHeartbeats 4000000 in
set_option maxRecDepth 100000 in
theorem c_Mo_forget (l : Launch) (D : va_G) (cI cZ cJ : ClassId) (m0 oA aA bB cC gA zA bA sR sD rA eC eA pA dA kA acA : Nat) (Po Pa Pb Pc G O B sr sd Rr Cr En Pl Dn Kp Ar : Nat → Int32) (n k : Nat) (th tl nx : Int32) : xw_Met l y_Mo_forget b_Mo_forget 1 none { frames := 0, cells := 0, slots := 0, locals := 0 } [.ref m0] D cls (tyL cI cZ cJ) [(m0, .inr (5, [.int th, .int (nI n), .ref oA, .ref aA, .ref bB, .ref cC, .int tl, .int (nI k), .ref gA, .ref zA, .ref bA, .ref sR, .ref sD, .ref rA, .ref eC, .ref eA, .ref pA, .ref dA, .ref kA, .ref acA, .int nx])), (oA, .inl (cI, 24, .inl Po)), (aA, .inl (cI, 24, .inl Pa)), (bB, .inl (cI, 24, .inl Pb)), (cC, .inl (cI, 24, .inl Pc)), (gA, .inl (cI, 1600, .inl G)), (zA, .inl (cZ, 400, .inl O)), (bA, .inl (cI, 25, .inl B)), (sR, .inl (cI, 8, .inl sr)), (sD, .inl (cI, 32, .inl sd)), (rA, .inl (cI, 16, .inl Rr)), (eC, .inl (cI, 128, .inl Cr)), (eA, .inl (cI, 2, .inl En)), (pA, .inl (cI, 2, .inl Pl)), (dA, .inl (cI, 2, .inl Dn)), (kA, .inl (cI, 2, .inl Kp)), (acA, .inl (cI, 240, .inl Ar))] [(m0, .inr (5, [.int th, .int (nI n), .ref oA, .ref aA, .ref bB, .ref cC, .int 0, .int (nI 0), .ref gA, .ref zA, .ref bA, .ref sR, .ref sD, .ref rA, .ref eC, .ref eA, .ref pA, .ref dA, .ref kA, .ref acA, .int nx])), (oA, .inl (cI, 24, .inl Po)), (aA, .inl (cI, 24, .inl Pa)), (bB, .inl (cI, 24, .inl Pb)), (cC, .inl (cI, 24, .inl Pc)), (gA, .inl (cI, 1600, .inl G)), (zA, .inl (cZ, 400, .inl O)), (bA, .inl (cI, 25, .inl B)), (sR, .inl (cI, 8, .inl sr)), (sD, .inl (cI, 32, .inl sd)), (rA, .inl (cI, 16, .inl Rr)), (eC, .inl (cI, 128, .inl Cr)), (eA, .inl (cI, 2, .inl En)), (pA, .inl (cI, 2, .inl Pl)), (dA, .inl (cI, 2, .inl Dn)), (kA, .inl (cI, 2, .inl Kp)), (acA, .inl (cI, 240, .inl Ar))] := by
  intro sz
  refine Met.ofW (cc := b_Mo_forget) (maxL := 1) (ret := none) (by decide) rfl ?_
  intro p e s m args below meth c s₁ B0 hml hv
  obtain ⟨rfl, hsz, hP, hK, hD0⟩ := hv
  have hx := B0.exec
  have hb := B0.bytes
  have hr := B0.returns
  have hlocks := B0.notSynchronized
  have hg : ∀ w ∈ gG, w.before _ s = true := fun w h => atoms_spec B0.pre w (List.mem_cons_of_mem _ h)
  have hown : s.vm.findClass R_Mo = some m.cls := findClass_of_methodNamed B0.named
  subst hsz
  have hD := hD0.self (sz := s.heap.size)
  generalize hAe : va_A [(m0, .inr (5, [.int th, .int (nI n), .ref oA, .ref aA, .ref bB, .ref cC, .int tl, .int (nI k), .ref gA, .ref zA, .ref bA, .ref sR, .ref sD, .ref rA, .ref eC, .ref eA, .ref pA, .ref dA, .ref kA, .ref acA, .int nx])), (oA, .inl (cI, 24, .inl Po)), (aA, .inl (cI, 24, .inl Pa)), (bB, .inl (cI, 24, .inl Pb)), (cC, .inl (cI, 24, .inl Pc)), (gA, .inl (cI, 1600, .inl G)), (zA, .inl (cZ, 400, .inl O)), (bA, .inl (cI, 25, .inl B)), (sR, .inl (cI, 8, .inl sr)), (sD, .inl (cI, 32, .inl sd)), (rA, .inl (cI, 16, .inl Rr)), (eC, .inl (cI, 128, .inl Cr)), (eA, .inl (cI, 2, .inl En)), (pA, .inl (cI, 2, .inl Pl)), (dA, .inl (cI, 2, .inl Dn)), (kA, .inl (cI, 2, .inl Kp)), (acA, .inl (cI, 240, .inl Ar))] s.heap.size = A at hD ⊢
  have hA : ∀ q : Nat, s.heap.size ≤ q → A q := fun q h => by rw [← hAe]; exact Or.inr h
  have hS : va_S A s.heap s.heap [] := va_S.rf
  have hP : va_P D cls [(m0, .inr (5, [.int th, .int (nI n), .ref oA, .ref aA, .ref bB, .ref cC, .int tl, .int (nI k), .ref gA, .ref zA, .ref bA, .ref sR, .ref sD, .ref rA, .ref eC, .ref eA, .ref pA, .ref dA, .ref kA, .ref acA, .int nx])), (oA, .inl (cI, 24, .inl Po)), (aA, .inl (cI, 24, .inl Pa)), (bB, .inl (cI, 24, .inl Pb)), (cC, .inl (cI, 24, .inl Pc)), (gA, .inl (cI, 1600, .inl G)), (zA, .inl (cZ, 400, .inl O)), (bA, .inl (cI, 25, .inl B)), (sR, .inl (cI, 8, .inl sr)), (sD, .inl (cI, 32, .inl sd)), (rA, .inl (cI, 16, .inl Rr)), (eC, .inl (cI, 128, .inl Cr)), (eA, .inl (cI, 2, .inl En)), (pA, .inl (cI, 2, .inl Pl)), (dA, .inl (cI, 2, .inl Dn)), (kA, .inl (cI, 2, .inl Kp)), (acA, .inl (cI, 240, .inl Ar))] s.heap := hP
  have hl := lv_entry ([.ref m0]) (n := 1) (Nat.le_of_ble_eq_true rfl)
  rw [lg_entry_eq]
  generalize (lg_sl ([.ref m0]) ++ List.replicate (1 - (lg_sl ([.ref m0])).length) Slot.unset).toArray = ls at hl ⊢
  have hl : lv_has ls 1 [(0, .ref m0)] := hl
  refine lv_aload_n hx hb d_Mo_forget_0 rfl (lv_at hl 0 rfl) ?_
  refine lv_iconst (v := 0) hx hb d_Mo_forget_1 (by decide) ?_
  refine va_put (D := D) (ci := 5) (v := .int 0) (ty := .boolean) (C := R_Mo) (T := F_Mo) (N := 21) hx hb hg f_Mo t_Mo t_Mo_ok n_Mo hown hK.1 hP hD hS 0 rfl rfl 6 (by decide) (hg _ q569) (fun _ h9 => h9) rfl (by decide +kernel) rfl rfl (Nat.le_of_ble_eq_true rfl) d_Mo_forget_2 (fun H locs hP hD hS => ?_)
  have hP : va_P D cls [(m0, .inr (5, [.int th, .int (nI n), .ref oA, .ref aA, .ref bB, .ref cC, .int 0, .int (nI k), .ref gA, .ref zA, .ref bA, .ref sR, .ref sD, .ref rA, .ref eC, .ref eA, .ref pA, .ref dA, .ref kA, .ref acA, .int nx])), (oA, .inl (cI, 24, .inl Po)), (aA, .inl (cI, 24, .inl Pa)), (bB, .inl (cI, 24, .inl Pb)), (cC, .inl (cI, 24, .inl Pc)), (gA, .inl (cI, 1600, .inl G)), (zA, .inl (cZ, 400, .inl O)), (bA, .inl (cI, 25, .inl B)), (sR, .inl (cI, 8, .inl sr)), (sD, .inl (cI, 32, .inl sd)), (rA, .inl (cI, 16, .inl Rr)), (eC, .inl (cI, 128, .inl Cr)), (eA, .inl (cI, 2, .inl En)), (pA, .inl (cI, 2, .inl Pl)), (dA, .inl (cI, 2, .inl Dn)), (kA, .inl (cI, 2, .inl Kp)), (acA, .inl (cI, 240, .inl Ar))] H := hP
  have hD : va_D A [(m0, .inr (5, [.int th, .int (nI n), .ref oA, .ref aA, .ref bB, .ref cC, .int 0, .int (nI k), .ref gA, .ref zA, .ref bA, .ref sR, .ref sD, .ref rA, .ref eC, .ref eA, .ref pA, .ref dA, .ref kA, .ref acA, .int nx])), (oA, .inl (cI, 24, .inl Po)), (aA, .inl (cI, 24, .inl Pa)), (bB, .inl (cI, 24, .inl Pb)), (cC, .inl (cI, 24, .inl Pc)), (gA, .inl (cI, 1600, .inl G)), (zA, .inl (cZ, 400, .inl O)), (bA, .inl (cI, 25, .inl B)), (sR, .inl (cI, 8, .inl sr)), (sD, .inl (cI, 32, .inl sd)), (rA, .inl (cI, 16, .inl Rr)), (eC, .inl (cI, 128, .inl Cr)), (eA, .inl (cI, 2, .inl En)), (pA, .inl (cI, 2, .inl Pl)), (dA, .inl (cI, 2, .inl Dn)), (kA, .inl (cI, 2, .inl Kp)), (acA, .inl (cI, 240, .inl Ar))] := hD
  refine lv_aload_n hx hb d_Mo_forget_5 rfl (lv_at hl 0 rfl) ?_
  refine lv_iconst (v := 0) hx hb d_Mo_forget_6 (by decide) ?_
  refine va_put (D := D) (ci := 5) (v := .int 0) (ty := .int) (C := R_Mo) (T := F_Mo) (N := 21) hx hb hg f_Mo t_Mo t_Mo_ok n_Mo hown hK.1 hP hD hS 0 rfl rfl 7 (by decide) (hg _ q570) (fun _ h9 => h9) rfl (by decide +kernel) rfl rfl (Nat.le_of_ble_eq_true rfl) d_Mo_forget_7 (fun H locs hP hD hS => ?_)
  have hP : va_P D cls [(m0, .inr (5, [.int th, .int (nI n), .ref oA, .ref aA, .ref bB, .ref cC, .int 0, .int 0, .ref gA, .ref zA, .ref bA, .ref sR, .ref sD, .ref rA, .ref eC, .ref eA, .ref pA, .ref dA, .ref kA, .ref acA, .int nx])), (oA, .inl (cI, 24, .inl Po)), (aA, .inl (cI, 24, .inl Pa)), (bB, .inl (cI, 24, .inl Pb)), (cC, .inl (cI, 24, .inl Pc)), (gA, .inl (cI, 1600, .inl G)), (zA, .inl (cZ, 400, .inl O)), (bA, .inl (cI, 25, .inl B)), (sR, .inl (cI, 8, .inl sr)), (sD, .inl (cI, 32, .inl sd)), (rA, .inl (cI, 16, .inl Rr)), (eC, .inl (cI, 128, .inl Cr)), (eA, .inl (cI, 2, .inl En)), (pA, .inl (cI, 2, .inl Pl)), (dA, .inl (cI, 2, .inl Dn)), (kA, .inl (cI, 2, .inl Kp)), (acA, .inl (cI, 240, .inl Ar))] H := hP
  have hD : va_D A [(m0, .inr (5, [.int th, .int (nI n), .ref oA, .ref aA, .ref bB, .ref cC, .int 0, .int 0, .ref gA, .ref zA, .ref bA, .ref sR, .ref sD, .ref rA, .ref eC, .ref eA, .ref pA, .ref dA, .ref kA, .ref acA, .int nx])), (oA, .inl (cI, 24, .inl Po)), (aA, .inl (cI, 24, .inl Pa)), (bB, .inl (cI, 24, .inl Pb)), (cC, .inl (cI, 24, .inl Pc)), (gA, .inl (cI, 1600, .inl G)), (zA, .inl (cZ, 400, .inl O)), (bA, .inl (cI, 25, .inl B)), (sR, .inl (cI, 8, .inl sr)), (sD, .inl (cI, 32, .inl sd)), (rA, .inl (cI, 16, .inl Rr)), (eC, .inl (cI, 128, .inl Cr)), (eA, .inl (cI, 2, .inl En)), (pA, .inl (cI, 2, .inl Pl)), (dA, .inl (cI, 2, .inl Dn)), (kA, .inl (cI, 2, .inl Kp)), (acA, .inl (cI, 240, .inl Ar))] := hD
  have ew1 : 0 = nI 0 := by first | rfl | (simp []; done) | (simp [Nat.add_assoc]; done)
  have hP : va_P D cls [(m0, .inr (5, [.int th, .int (nI n), .ref oA, .ref aA, .ref bB, .ref cC, .int 0, .int (nI 0), .ref gA, .ref zA, .ref bA, .ref sR, .ref sD, .ref rA, .ref eC, .ref eA, .ref pA, .ref dA, .ref kA, .ref acA, .int nx])), (oA, .inl (cI, 24, .inl Po)), (aA, .inl (cI, 24, .inl Pa)), (bB, .inl (cI, 24, .inl Pb)), (cC, .inl (cI, 24, .inl Pc)), (gA, .inl (cI, 1600, .inl G)), (zA, .inl (cZ, 400, .inl O)), (bA, .inl (cI, 25, .inl B)), (sR, .inl (cI, 8, .inl sr)), (sD, .inl (cI, 32, .inl sd)), (rA, .inl (cI, 16, .inl Rr)), (eC, .inl (cI, 128, .inl Cr)), (eA, .inl (cI, 2, .inl En)), (pA, .inl (cI, 2, .inl Pl)), (dA, .inl (cI, 2, .inl Dn)), (kA, .inl (cI, 2, .inl Kp)), (acA, .inl (cI, 240, .inl Ar))] H := by rw [← ew1]; exact hP
  have hD : va_D A [(m0, .inr (5, [.int th, .int (nI n), .ref oA, .ref aA, .ref bB, .ref cC, .int 0, .int (nI 0), .ref gA, .ref zA, .ref bA, .ref sR, .ref sD, .ref rA, .ref eC, .ref eA, .ref pA, .ref dA, .ref kA, .ref acA, .int nx])), (oA, .inl (cI, 24, .inl Po)), (aA, .inl (cI, 24, .inl Pa)), (bB, .inl (cI, 24, .inl Pb)), (cC, .inl (cI, 24, .inl Pc)), (gA, .inl (cI, 1600, .inl G)), (zA, .inl (cZ, 400, .inl O)), (bA, .inl (cI, 25, .inl B)), (sR, .inl (cI, 8, .inl sr)), (sD, .inl (cI, 32, .inl sd)), (rA, .inl (cI, 16, .inl Rr)), (eC, .inl (cI, 128, .inl Cr)), (eA, .inl (cI, 2, .inl En)), (pA, .inl (cI, 2, .inl Pl)), (dA, .inl (cI, 2, .inl Dn)), (kA, .inl (cI, 2, .inl Kp)), (acA, .inl (cI, 240, .inl Ar))] := by rw [← ew1]; exact hD
  exact W.vret hx hb hr (fun t9 ht9 hW9 => ⟨⟨(), rfl, trivial, by rw [ht9]; exact hP, hD⟩, hS.F ht9⟩) hS.2.2 d_Mo_forget_10

set_option maxHeartbeats 4000000 in
set_option maxRecDepth 100000 in
theorem c_Mo_clear (l : Launch) (D : va_G) (cI cZ cJ : ClassId) (m0 oA aA bB cC gA zA bA sR sD rA eC eA pA dA kA acA : Nat) (Po Pa Pb Pc G O B sr sd Rr Cr En Pl Dn Kp Ar : Nat → Int32) (n k : Nat) (th tl nx : Int32) : xi_Met l y_Mo_clear b_Mo_clear 2 (some .int) { frames := 1, cells := 0, slots := 0, locals := 20 } [.ref m0] D cls (tyL cI cZ cJ) [(m0, .inr (5, [.int th, .int (nI n), .ref oA, .ref aA, .ref bB, .ref cC, .int tl, .int (nI k), .ref gA, .ref zA, .ref bA, .ref sR, .ref sD, .ref rA, .ref eC, .ref eA, .ref pA, .ref dA, .ref kA, .ref acA, .int nx])), (oA, .inl (cI, 24, .inl Po)), (aA, .inl (cI, 24, .inl Pa)), (bB, .inl (cI, 24, .inl Pb)), (cC, .inl (cI, 24, .inl Pc)), (gA, .inl (cI, 1600, .inl G)), (zA, .inl (cZ, 400, .inl O)), (bA, .inl (cI, 25, .inl B)), (sR, .inl (cI, 8, .inl sr)), (sD, .inl (cI, 32, .inl sd)), (rA, .inl (cI, 16, .inl Rr)), (eC, .inl (cI, 128, .inl Cr)), (eA, .inl (cI, 2, .inl En)), (pA, .inl (cI, 2, .inl Pl)), (dA, .inl (cI, 2, .inl Dn)), (kA, .inl (cI, 2, .inl Kp)), (acA, .inl (cI, 240, .inl Ar))] [(m0, .inr (5, [.int 0, .int (nI 0), .ref oA, .ref aA, .ref bB, .ref cC, .int 0, .int (nI 0), .ref gA, .ref zA, .ref bA, .ref sR, .ref sD, .ref rA, .ref eC, .ref eA, .ref pA, .ref dA, .ref kA, .ref acA, .int nx])), (oA, .inl (cI, 24, .inl Po)), (aA, .inl (cI, 24, .inl Pa)), (bB, .inl (cI, 24, .inl Pb)), (cC, .inl (cI, 24, .inl Pc)), (gA, .inl (cI, 1600, .inl G)), (zA, .inl (cZ, 400, .inl O)), (bA, .inl (cI, 25, .inl B)), (sR, .inl (cI, 8, .inl sr)), (sD, .inl (cI, 32, .inl sd)), (rA, .inl (cI, 16, .inl Rr)), (eC, .inl (cI, 128, .inl Cr)), (eA, .inl (cI, 2, .inl En)), (pA, .inl (cI, 2, .inl Pl)), (dA, .inl (cI, 2, .inl Dn)), (kA, .inl (cI, 2, .inl Kp)), (acA, .inl (cI, 240, .inl Ar))] (nI n) := by
  intro sz
  refine Met.ofW (cc := b_Mo_clear) (maxL := 2) (ret := (some .int)) (by decide) rfl ?_
  intro p e s m args below meth c s₁ B0 hml hv
  obtain ⟨rfl, hsz, hP, hK, hD0⟩ := hv
  have hx := B0.exec
  have hb := B0.bytes
  have hr := B0.returns
  have hlocks := B0.notSynchronized
  have hg : ∀ w ∈ gG, w.before _ s = true := fun w h => atoms_spec B0.pre w (List.mem_cons_of_mem _ h)
  have hown : s.vm.findClass R_Mo = some m.cls := findClass_of_methodNamed B0.named
  subst hsz
  have hD := hD0.self (sz := s.heap.size)
  generalize hAe : va_A [(m0, .inr (5, [.int th, .int (nI n), .ref oA, .ref aA, .ref bB, .ref cC, .int tl, .int (nI k), .ref gA, .ref zA, .ref bA, .ref sR, .ref sD, .ref rA, .ref eC, .ref eA, .ref pA, .ref dA, .ref kA, .ref acA, .int nx])), (oA, .inl (cI, 24, .inl Po)), (aA, .inl (cI, 24, .inl Pa)), (bB, .inl (cI, 24, .inl Pb)), (cC, .inl (cI, 24, .inl Pc)), (gA, .inl (cI, 1600, .inl G)), (zA, .inl (cZ, 400, .inl O)), (bA, .inl (cI, 25, .inl B)), (sR, .inl (cI, 8, .inl sr)), (sD, .inl (cI, 32, .inl sd)), (rA, .inl (cI, 16, .inl Rr)), (eC, .inl (cI, 128, .inl Cr)), (eA, .inl (cI, 2, .inl En)), (pA, .inl (cI, 2, .inl Pl)), (dA, .inl (cI, 2, .inl Dn)), (kA, .inl (cI, 2, .inl Kp)), (acA, .inl (cI, 240, .inl Ar))] s.heap.size = A at hD ⊢
  have hA : ∀ q : Nat, s.heap.size ≤ q → A q := fun q h => by rw [← hAe]; exact Or.inr h
  have hS : va_S A s.heap s.heap [] := va_S.rf
  have hP : va_P D cls [(m0, .inr (5, [.int th, .int (nI n), .ref oA, .ref aA, .ref bB, .ref cC, .int tl, .int (nI k), .ref gA, .ref zA, .ref bA, .ref sR, .ref sD, .ref rA, .ref eC, .ref eA, .ref pA, .ref dA, .ref kA, .ref acA, .int nx])), (oA, .inl (cI, 24, .inl Po)), (aA, .inl (cI, 24, .inl Pa)), (bB, .inl (cI, 24, .inl Pb)), (cC, .inl (cI, 24, .inl Pc)), (gA, .inl (cI, 1600, .inl G)), (zA, .inl (cZ, 400, .inl O)), (bA, .inl (cI, 25, .inl B)), (sR, .inl (cI, 8, .inl sr)), (sD, .inl (cI, 32, .inl sd)), (rA, .inl (cI, 16, .inl Rr)), (eC, .inl (cI, 128, .inl Cr)), (eA, .inl (cI, 2, .inl En)), (pA, .inl (cI, 2, .inl Pl)), (dA, .inl (cI, 2, .inl Dn)), (kA, .inl (cI, 2, .inl Kp)), (acA, .inl (cI, 240, .inl Ar))] s.heap := hP
  have hl := lv_entry ([.ref m0]) (n := 2) (Nat.le_of_ble_eq_true rfl)
  rw [lg_entry_eq]
  generalize (lg_sl ([.ref m0]) ++ List.replicate (2 - (lg_sl ([.ref m0])).length) Slot.unset).toArray = ls at hl ⊢
  have hl : lv_has ls 2 [(0, .ref m0)] := hl
  refine lv_aload_n hx hb d_Mo_clear_0 rfl (lv_at hl 0 rfl) ?_
  refine lv_iconst (v := 0) hx hb d_Mo_clear_1 (by decide) ?_
  refine va_put (D := D) (ci := 5) (v := .int 0) (ty := .int) (C := R_Mo) (T := F_Mo) (N := 21) hx hb hg f_Mo t_Mo t_Mo_ok n_Mo hown hK.1 hP hD hS 0 rfl rfl 0 (by decide) (hg _ q563) (fun _ h9 => h9) rfl (by decide +kernel) rfl rfl (Nat.le_of_ble_eq_true rfl) d_Mo_clear_2 (fun H locs hP hD hS => ?_)
  have hP : va_P D cls [(m0, .inr (5, [.int 0, .int (nI n), .ref oA, .ref aA, .ref bB, .ref cC, .int tl, .int (nI k), .ref gA, .ref zA, .ref bA, .ref sR, .ref sD, .ref rA, .ref eC, .ref eA, .ref pA, .ref dA, .ref kA, .ref acA, .int nx])), (oA, .inl (cI, 24, .inl Po)), (aA, .inl (cI, 24, .inl Pa)), (bB, .inl (cI, 24, .inl Pb)), (cC, .inl (cI, 24, .inl Pc)), (gA, .inl (cI, 1600, .inl G)), (zA, .inl (cZ, 400, .inl O)), (bA, .inl (cI, 25, .inl B)), (sR, .inl (cI, 8, .inl sr)), (sD, .inl (cI, 32, .inl sd)), (rA, .inl (cI, 16, .inl Rr)), (eC, .inl (cI, 128, .inl Cr)), (eA, .inl (cI, 2, .inl En)), (pA, .inl (cI, 2, .inl Pl)), (dA, .inl (cI, 2, .inl Dn)), (kA, .inl (cI, 2, .inl Kp)), (acA, .inl (cI, 240, .inl Ar))] H := hP
  have hD : va_D A [(m0, .inr (5, [.int 0, .int (nI n), .ref oA, .ref aA, .ref bB, .ref cC, .int tl, .int (nI k), .ref gA, .ref zA, .ref bA, .ref sR, .ref sD, .ref rA, .ref eC, .ref eA, .ref pA, .ref dA, .ref kA, .ref acA, .int nx])), (oA, .inl (cI, 24, .inl Po)), (aA, .inl (cI, 24, .inl Pa)), (bB, .inl (cI, 24, .inl Pb)), (cC, .inl (cI, 24, .inl Pc)), (gA, .inl (cI, 1600, .inl G)), (zA, .inl (cZ, 400, .inl O)), (bA, .inl (cI, 25, .inl B)), (sR, .inl (cI, 8, .inl sr)), (sD, .inl (cI, 32, .inl sd)), (rA, .inl (cI, 16, .inl Rr)), (eC, .inl (cI, 128, .inl Cr)), (eA, .inl (cI, 2, .inl En)), (pA, .inl (cI, 2, .inl Pl)), (dA, .inl (cI, 2, .inl Dn)), (kA, .inl (cI, 2, .inl Kp)), (acA, .inl (cI, 240, .inl Ar))] := hD
  refine lv_aload_n hx hb d_Mo_clear_5 rfl (lv_at hl 0 rfl) ?_
  refine va_get (D := D) (ci := 5) (v := .int (nI n)) (C := R_Mo) (T := F_Mo) (N := 21) hx hb hg f_Mo hown hK.1 hP 0 rfl rfl 1 (by decide) (hg _ q564) (fun _ h9 => h9) rfl d_Mo_clear_6 ?_
  refine lv_istore_n hx hb d_Mo_clear_9 rfl hl (by decide) rfl (fun ls hl => ?_)
  have hl : lv_has ls 2 [(1, .int (nI n)), (0, .ref m0)] := hl
  refine lv_aload_n hx hb d_Mo_clear_10 rfl (lv_at hl 1 rfl) ?_
  refine lv_iconst (v := 0) hx hb d_Mo_clear_11 (by decide) ?_
  have eq9 : (0 : Int32) = nI 0 := rfl
  refine W.eq (g2 := F0 m 12 ls [.int (nI 0), .ref m0]) (by rw [eq9]) ?_
  refine va_put (D := D) (ci := 5) (v := .int (nI 0)) (ty := .int) (C := R_Mo) (T := F_Mo) (N := 21) hx hb hg f_Mo t_Mo t_Mo_ok n_Mo hown hK.1 hP hD hS 0 rfl rfl 1 (by decide) (hg _ q564) (fun _ h9 => h9) rfl (by decide +kernel) rfl rfl (Nat.le_of_ble_eq_true rfl) d_Mo_clear_12 (fun H locs hP hD hS => ?_)
  have hP : va_P D cls [(m0, .inr (5, [.int 0, .int (nI 0), .ref oA, .ref aA, .ref bB, .ref cC, .int tl, .int (nI k), .ref gA, .ref zA, .ref bA, .ref sR, .ref sD, .ref rA, .ref eC, .ref eA, .ref pA, .ref dA, .ref kA, .ref acA, .int nx])), (oA, .inl (cI, 24, .inl Po)), (aA, .inl (cI, 24, .inl Pa)), (bB, .inl (cI, 24, .inl Pb)), (cC, .inl (cI, 24, .inl Pc)), (gA, .inl (cI, 1600, .inl G)), (zA, .inl (cZ, 400, .inl O)), (bA, .inl (cI, 25, .inl B)), (sR, .inl (cI, 8, .inl sr)), (sD, .inl (cI, 32, .inl sd)), (rA, .inl (cI, 16, .inl Rr)), (eC, .inl (cI, 128, .inl Cr)), (eA, .inl (cI, 2, .inl En)), (pA, .inl (cI, 2, .inl Pl)), (dA, .inl (cI, 2, .inl Dn)), (kA, .inl (cI, 2, .inl Kp)), (acA, .inl (cI, 240, .inl Ar))] H := hP
  have hD : va_D A [(m0, .inr (5, [.int 0, .int (nI 0), .ref oA, .ref aA, .ref bB, .ref cC, .int tl, .int (nI k), .ref gA, .ref zA, .ref bA, .ref sR, .ref sD, .ref rA, .ref eC, .ref eA, .ref pA, .ref dA, .ref kA, .ref acA, .int nx])), (oA, .inl (cI, 24, .inl Po)), (aA, .inl (cI, 24, .inl Pa)), (bB, .inl (cI, 24, .inl Pb)), (cC, .inl (cI, 24, .inl Pc)), (gA, .inl (cI, 1600, .inl G)), (zA, .inl (cZ, 400, .inl O)), (bA, .inl (cI, 25, .inl B)), (sR, .inl (cI, 8, .inl sr)), (sD, .inl (cI, 32, .inl sd)), (rA, .inl (cI, 16, .inl Rr)), (eC, .inl (cI, 128, .inl Cr)), (eA, .inl (cI, 2, .inl En)), (pA, .inl (cI, 2, .inl Pl)), (dA, .inl (cI, 2, .inl Dn)), (kA, .inl (cI, 2, .inl Kp)), (acA, .inl (cI, 240, .inl Ar))] := hD
  refine lv_aload_n hx hb d_Mo_clear_15 rfl (lv_at hl 1 rfl) ?_
  refine xw_go (w2 := [(m0, .inr (5, [.int 0, .int (nI 0), .ref oA, .ref aA, .ref bB, .ref cC, .int 0, .int (nI 0), .ref gA, .ref zA, .ref bA, .ref sR, .ref sD, .ref rA, .ref eC, .ref eA, .ref pA, .ref dA, .ref kA, .ref acA, .int nx])), (oA, .inl (cI, 24, .inl Po)), (aA, .inl (cI, 24, .inl Pa)), (bB, .inl (cI, 24, .inl Pb)), (cC, .inl (cI, 24, .inl Pc)), (gA, .inl (cI, 1600, .inl G)), (zA, .inl (cZ, 400, .inl O)), (bA, .inl (cI, 25, .inl B)), (sR, .inl (cI, 8, .inl sr)), (sD, .inl (cI, 32, .inl sd)), (rA, .inl (cI, 16, .inl Rr)), (eC, .inl (cI, 128, .inl Cr)), (eA, .inl (cI, 2, .inl En)), (pA, .inl (cI, 2, .inl Pl)), (dA, .inl (cI, 2, .inl Dn)), (kA, .inl (cI, 2, .inl Kp)), (acA, .inl (cI, 240, .inl Ar))]) (wr := []) (w1 := [(m0, .inr (5, [.int 0, .int (nI 0), .ref oA, .ref aA, .ref bB, .ref cC, .int 0, .int (nI 0), .ref gA, .ref zA, .ref bA, .ref sR, .ref sD, .ref rA, .ref eC, .ref eA, .ref pA, .ref dA, .ref kA, .ref acA, .int nx])), (oA, .inl (cI, 24, .inl Po)), (aA, .inl (cI, 24, .inl Pa)), (bB, .inl (cI, 24, .inl Pb)), (cC, .inl (cI, 24, .inl Pc)), (gA, .inl (cI, 1600, .inl G)), (zA, .inl (cZ, 400, .inl O)), (bA, .inl (cI, 25, .inl B)), (sR, .inl (cI, 8, .inl sr)), (sD, .inl (cI, 32, .inl sd)), (rA, .inl (cI, 16, .inl Rr)), (eC, .inl (cI, 128, .inl Cr)), (eA, .inl (cI, 2, .inl En)), (pA, .inl (cI, 2, .inl Pl)), (dA, .inl (cI, 2, .inl Dn)), (kA, .inl (cI, 2, .inl Kp)), (acA, .inl (cI, 240, .inl Ar))]) (va_runV (As := []) (rest := []) (C := R_Mo) ⟨hx, hb, hml, hown, hg⟩ (c_Mo_forget l D cI cZ cJ m0 oA aA bB cC gA zA bA sR sD rA eC eA pA dA kA acA Po Pa Pb Pc G O B sr sd Rr Cr En Pl Dn Kp Ar 0 k 0 tl nx H.size) ⟨xg_B hg m_Mo_forget.1 m_Mo_forget.2.2.1 m_Mo_forget.2.2.2.1 m_Mo_forget.2.2.2.2 q639 rfl rfl ⟨Nat.le_of_ble_eq_true rfl, Nat.le_of_ble_eq_true rfl⟩, hg _ m_Mo_forget.2.1, hg _ sp_Mo_forget⟩ ⟨xw_blind, (va_recv (q0 := 0) hK.1 hP rfl rfl), xw_pre hK hP hD [0, 1, 2, 3, 4, 5, 6, 7, 8, 9, 10, 11, 12, 13, 14, 15, 16] (by decide) rfl⟩ rfl rfl hl.1 rfl (lv_room (Nat.le_of_ble_eq_true rfl)) d_Mo_clear_16 ⟨Nat.zero_le _, Nat.zero_le _⟩) hP hD hS hA [0, 1, 2, 3, 4, 5, 6, 7, 8, 9, 10, 11, 12, 13, 14, 15, 16] [] [0, 1, 2, 3, 4, 5, 6, 7, 8, 9, 10, 11, 12, 13, 14, 15, 16] rfl rfl (by decide) (by decide) rfl (by decide) (fun H locs hP hD hS => ?_)
  refine lv_iload_n hx hb d_Mo_clear_19 rfl (lv_at hl 0 rfl) ?_
  have hP : va_P D cls [(m0, .inr (5, [.int 0, .int (nI 0), .ref oA, .ref aA, .ref bB, .ref cC, .int 0, .int (nI 0), .ref gA, .ref zA, .ref bA, .ref sR, .ref sD, .ref rA, .ref eC, .ref eA, .ref pA, .ref dA, .ref kA, .ref acA, .int nx])), (oA, .inl (cI, 24, .inl Po)), (aA, .inl (cI, 24, .inl Pa)), (bB, .inl (cI, 24, .inl Pb)), (cC, .inl (cI, 24, .inl Pc)), (gA, .inl (cI, 1600, .inl G)), (zA, .inl (cZ, 400, .inl O)), (bA, .inl (cI, 25, .inl B)), (sR, .inl (cI, 8, .inl sr)), (sD, .inl (cI, 32, .inl sd)), (rA, .inl (cI, 16, .inl Rr)), (eC, .inl (cI, 128, .inl Cr)), (eA, .inl (cI, 2, .inl En)), (pA, .inl (cI, 2, .inl Pl)), (dA, .inl (cI, 2, .inl Dn)), (kA, .inl (cI, 2, .inl Kp)), (acA, .inl (cI, 240, .inl Ar))] H := by exact hP
  have hD : va_D A [(m0, .inr (5, [.int 0, .int (nI 0), .ref oA, .ref aA, .ref bB, .ref cC, .int 0, .int (nI 0), .ref gA, .ref zA, .ref bA, .ref sR, .ref sD, .ref rA, .ref eC, .ref eA, .ref pA, .ref dA, .ref kA, .ref acA, .int nx])), (oA, .inl (cI, 24, .inl Po)), (aA, .inl (cI, 24, .inl Pa)), (bB, .inl (cI, 24, .inl Pb)), (cC, .inl (cI, 24, .inl Pc)), (gA, .inl (cI, 1600, .inl G)), (zA, .inl (cZ, 400, .inl O)), (bA, .inl (cI, 25, .inl B)), (sR, .inl (cI, 8, .inl sr)), (sD, .inl (cI, 32, .inl sd)), (rA, .inl (cI, 16, .inl Rr)), (eC, .inl (cI, 128, .inl Cr)), (eA, .inl (cI, 2, .inl En)), (pA, .inl (cI, 2, .inl Pl)), (dA, .inl (cI, 2, .inl Dn)), (kA, .inl (cI, 2, .inl Kp)), (acA, .inl (cI, 240, .inl Ar))] := by exact hD
  exact W.iret (v := nI n) hx hb hr (fun t9 ht9 hW9 => ⟨⟨nI n, (), rfl, rfl, by rw [ht9]; exact hP, hD⟩, hS.F ht9⟩) hS.2.2 d_Mo_clear_20

set_option maxHeartbeats 4000000 in
set_option maxRecDepth 100000 in
theorem c_Mo_goal (l : Launch) (D : va_G) (cI cZ cJ : ClassId) (m0 oA aA bB cC gA zA bA sR sD rA eC eA pA dA kA acA : Nat) (Po Pa Pb Pc G O B sr sd Rr Cr En Pl Dn Kp Ar : Nat → Int32) (n k : Nat) (th tl nx : Int32) (P : Nat → Int32) (q v : Nat) (hPo : ∀ i, Po i = P (4 * i)) (hPa : ∀ i, Pa i = P (4 * i + 1)) (hPb : ∀ i, Pb i = P (4 * i + 2)) (hPc : ∀ i, Pc i = P (4 * i + 3)) (hn : n ≤ 24) (hq : q < n) (hv : P (4 * q) = nI v) (hv9 : 9 ≤ v) (hv13 : v ≤ 13) : xr_Met l y_Mo_goal b_Mo_goal 2 (some .int) { frames := 0, cells := 0, slots := 0, locals := 0 } [.ref m0, .int (nI q)] (xb D cls [(m0, .inr (5, [.int th, .int (nI n), .ref oA, .ref aA, .ref bB, .ref cC, .int tl, .int (nI k), .ref gA, .ref zA, .ref bA, .ref sR, .ref sD, .ref rA, .ref eC, .ref eA, .ref pA, .ref dA, .ref kA, .ref acA, .int nx])), (oA, .inl (cI, 24, .inl Po)), (aA, .inl (cI, 24, .inl Pa)), (bB, .inl (cI, 24, .inl Pb)), (cC, .inl (cI, 24, .inl Pc)), (gA, .inl (cI, 1600, .inl G)), (zA, .inl (cZ, 400, .inl O)), (bA, .inl (cI, 25, .inl B)), (sR, .inl (cI, 8, .inl sr)), (sD, .inl (cI, 32, .inl sd)), (rA, .inl (cI, 16, .inl Rr)), (eC, .inl (cI, 128, .inl Cr)), (eA, .inl (cI, 2, .inl En)), (pA, .inl (cI, 2, .inl Pl)), (dA, .inl (cI, 2, .inl Dn)), (kA, .inl (cI, 2, .inl Kp)), (acA, .inl (cI, 240, .inl Ar))] (tyL cI cZ cJ)) (tm_ld P q) := by
  refine Met.ofW (cc := b_Mo_goal) (maxL := 2) (ret := (some .int)) (by decide) rfl ?_
  intro p e s m args below meth c s₁ B0 hml hv
  obtain ⟨rfl, hP, hK⟩ := hv
  have hx := B0.exec
  have hb := B0.bytes
  have hr := B0.returns
  have hlocks := B0.notSynchronized
  have hg : ∀ w ∈ gG, w.before _ s = true := fun w h => atoms_spec B0.pre w (List.mem_cons_of_mem _ h)
  have hown : s.vm.findClass R_Mo = some m.cls := findClass_of_methodNamed B0.named
  have hP : va_P D cls [(m0, .inr (5, [.int th, .int (nI n), .ref oA, .ref aA, .ref bB, .ref cC, .int tl, .int (nI k), .ref gA, .ref zA, .ref bA, .ref sR, .ref sD, .ref rA, .ref eC, .ref eA, .ref pA, .ref dA, .ref kA, .ref acA, .int nx])), (oA, .inl (cI, 24, .inl Po)), (aA, .inl (cI, 24, .inl Pa)), (bB, .inl (cI, 24, .inl Pb)), (cC, .inl (cI, 24, .inl Pc)), (gA, .inl (cI, 1600, .inl G)), (zA, .inl (cZ, 400, .inl O)), (bA, .inl (cI, 25, .inl B)), (sR, .inl (cI, 8, .inl sr)), (sD, .inl (cI, 32, .inl sd)), (rA, .inl (cI, 16, .inl Rr)), (eC, .inl (cI, 128, .inl Cr)), (eA, .inl (cI, 2, .inl En)), (pA, .inl (cI, 2, .inl Pl)), (dA, .inl (cI, 2, .inl Dn)), (kA, .inl (cI, 2, .inl Kp)), (acA, .inl (cI, 240, .inl Ar))] s.heap := hP
  have hl := lv_entry ([.ref m0, .int (nI q)]) (n := 2) (Nat.le_of_ble_eq_true rfl)
  rw [lg_entry_eq]
  generalize (lg_sl ([.ref m0, .int (nI q)]) ++ List.replicate (2 - (lg_sl ([.ref m0, .int (nI q)])).length) Slot.unset).toArray = ls at hl ⊢
  have hl : lv_has ls 2 [(0, .ref m0), (1, .int (nI q))] := hl
  rcases (show v = 9 ∨ v = 10 ∨ 11 ≤ v by omega) with e0 | e0 | e0
  · subst e0
    have ho : P (4 * q) = 9 := hv
    have h10 : ¬ 10 < P (4 * q) := by rw [hv]; decide
    refine lv_aload_n hx hb d_Mo_goal_0 rfl (lv_at hl 0 rfl) ?_
    refine va_get (D := D) (ci := 5) (v := .ref oA) (C := R_Mo) (T := F_Mo) (N := 21) hx hb hg f_Mo hown hK.1 hP 0 rfl rfl 2 (by decide) (hg _ q565) (fun _ h9 => h9) rfl d_Mo_goal_1 ?_
    refine lv_iload_n hx hb d_Mo_goal_4 rfl (lv_at hl 1 rfl) ?_
    refine xa_ld hx hb hK hP 1 0 rfl rfl (kx := q) (rfl) (by omega) (by decide) d_Mo_goal_5 ?_
    have eq9 : (Po q : Int32) = P (4 * q) := hPo q
    refine W.eq (g2 := F0 m 6 ls [.int (P (4 * q))]) (by rw [eq9]) ?_
    refine lv_bipush (v := 9) hx hb d_Mo_goal_6 (by decide) ?_
    refine lv_icmp_eq (tgt := 22) hx hb d_Mo_goal_8 rfl (fun _ => ?_) (fun hz9 => absurd (ho) hz9)
    refine lv_iload_n hx hb d_Mo_goal_22 rfl (lv_at hl 1 rfl) ?_
    refine lv_iconst (v := 1) hx hb d_Mo_goal_23 (by decide) ?_
    refine lv_iadd hx hb d_Mo_goal_24 ?_
    have eq9 : ((nI q) + 1 : Int32) = nI (q + 1) := nI_add q 1
    refine W.eq (g2 := F0 m 25 ls [.int (nI (q + 1))]) (by rw [eq9]) ?_
    refine lv_aload_n hx hb d_Mo_goal_25 rfl (lv_at hl 0 rfl) ?_
    refine va_get (D := D) (ci := 5) (v := .ref cC) (C := R_Mo) (T := F_Mo) (N := 21) hx hb hg f_Mo hown hK.1 hP 0 rfl rfl 5 (by decide) (hg _ q568) (fun _ h9 => h9) rfl d_Mo_goal_26 ?_
    refine lv_iload_n hx hb d_Mo_goal_29 rfl (lv_at hl 1 rfl) ?_
    refine xa_ld hx hb hK hP 4 0 rfl rfl (kx := q) (rfl) (by omega) (by decide) d_Mo_goal_30 ?_
    have eq9 : (Pc q : Int32) = P (4 * q + 3) := hPc q
    refine W.eq (g2 := F0 m 31 ls [.int (P (4 * q + 3)), .int (nI (q + 1))]) (by rw [eq9]) ?_
    refine lv_iadd hx hb d_Mo_goal_31 ?_
    refine lv_goto (tgt := 41) hx hb d_Mo_goal_32 rfl ?_
    exact W.iret (v := (nI (q + 1)) + (P (4 * q + 3))) hx hb hr (fun t9 ht9 hW9 => ⟨(nI (q + 1)) + (P (4 * q + 3)), rfl, by simp [tm_ld, hPc, h10], ht9⟩) (fun _ h => by cases h) d_Mo_goal_41
  · subst e0
    have ho : P (4 * q) = 10 := hv
    have h10 : ¬ 10 < P (4 * q) := by rw [hv]; decide
    refine lv_aload_n hx hb d_Mo_goal_0 rfl (lv_at hl 0 rfl) ?_
    refine va_get (D := D) (ci := 5) (v := .ref oA) (C := R_Mo) (T := F_Mo) (N := 21) hx hb hg f_Mo hown hK.1 hP 0 rfl rfl 2 (by decide) (hg _ q565) (fun _ h9 => h9) rfl d_Mo_goal_1 ?_
    refine lv_iload_n hx hb d_Mo_goal_4 rfl (lv_at hl 1 rfl) ?_
    refine xa_ld hx hb hK hP 1 0 rfl rfl (kx := q) (rfl) (by omega) (by decide) d_Mo_goal_5 ?_
    have eq9 : (Po q : Int32) = P (4 * q) := hPo q
    refine W.eq (g2 := F0 m 6 ls [.int (P (4 * q))]) (by rw [eq9]) ?_
    refine lv_bipush (v := 9) hx hb d_Mo_goal_6 (by decide) ?_
    refine lv_icmp_eq (tgt := 22) hx hb d_Mo_goal_8 rfl (fun hz9 => absurd hz9 (by rw [ho]; decide)) (fun _ => ?_)
    refine lv_aload_n hx hb d_Mo_goal_11 rfl (lv_at hl 0 rfl) ?_
    refine va_get (D := D) (ci := 5) (v := .ref oA) (C := R_Mo) (T := F_Mo) (N := 21) hx hb hg f_Mo hown hK.1 hP 0 rfl rfl 2 (by decide) (hg _ q565) (fun _ h9 => h9) rfl d_Mo_goal_12 ?_
    refine lv_iload_n hx hb d_Mo_goal_15 rfl (lv_at hl 1 rfl) ?_
    refine xa_ld hx hb hK hP 1 0 rfl rfl (kx := q) (rfl) (by omega) (by decide) d_Mo_goal_16 ?_
    have eq9 : (Po q : Int32) = P (4 * q) := hPo q
    refine W.eq (g2 := F0 m 17 ls [.int (P (4 * q))]) (by rw [eq9]) ?_
    refine lv_bipush (v := 10) hx hb d_Mo_goal_17 (by decide) ?_
    refine lv_icmp_ne (tgt := 35) hx hb d_Mo_goal_19 rfl (fun hz9 => absurd (ho) hz9) (fun _ => ?_)
    refine lv_iload_n hx hb d_Mo_goal_22 rfl (lv_at hl 1 rfl) ?_
    refine lv_iconst (v := 1) hx hb d_Mo_goal_23 (by decide) ?_
    refine lv_iadd hx hb d_Mo_goal_24 ?_
    have eq9 : ((nI q) + 1 : Int32) = nI (q + 1) := nI_add q 1
    refine W.eq (g2 := F0 m 25 ls [.int (nI (q + 1))]) (by rw [eq9]) ?_
    refine lv_aload_n hx hb d_Mo_goal_25 rfl (lv_at hl 0 rfl) ?_
    refine va_get (D := D) (ci := 5) (v := .ref cC) (C := R_Mo) (T := F_Mo) (N := 21) hx hb hg f_Mo hown hK.1 hP 0 rfl rfl 5 (by decide) (hg _ q568) (fun _ h9 => h9) rfl d_Mo_goal_26 ?_
    refine lv_iload_n hx hb d_Mo_goal_29 rfl (lv_at hl 1 rfl) ?_
    refine xa_ld hx hb hK hP 4 0 rfl rfl (kx := q) (rfl) (by omega) (by decide) d_Mo_goal_30 ?_
    have eq9 : (Pc q : Int32) = P (4 * q + 3) := hPc q
    refine W.eq (g2 := F0 m 31 ls [.int (P (4 * q + 3)), .int (nI (q + 1))]) (by rw [eq9]) ?_
    refine lv_iadd hx hb d_Mo_goal_31 ?_
    refine lv_goto (tgt := 41) hx hb d_Mo_goal_32 rfl ?_
    exact W.iret (v := (nI (q + 1)) + (P (4 * q + 3))) hx hb hr (fun t9 ht9 hW9 => ⟨(nI (q + 1)) + (P (4 * q + 3)), rfl, by simp [tm_ld, hPc, h10], ht9⟩) (fun _ h => by cases h) d_Mo_goal_41
  · have ho : P (4 * q) = nI v := hv
    have h10 : 10 < P (4 * q) := by rw [hv]; exact nI_lt (a := 10) (b := v) (by omega) (by omega)
    refine lv_aload_n hx hb d_Mo_goal_0 rfl (lv_at hl 0 rfl) ?_
    refine va_get (D := D) (ci := 5) (v := .ref oA) (C := R_Mo) (T := F_Mo) (N := 21) hx hb hg f_Mo hown hK.1 hP 0 rfl rfl 2 (by decide) (hg _ q565) (fun _ h9 => h9) rfl d_Mo_goal_1 ?_
    refine lv_iload_n hx hb d_Mo_goal_4 rfl (lv_at hl 1 rfl) ?_
    refine xa_ld hx hb hK hP 1 0 rfl rfl (kx := q) (rfl) (by omega) (by decide) d_Mo_goal_5 ?_
    have eq9 : (Po q : Int32) = P (4 * q) := hPo q
    refine W.eq (g2 := F0 m 6 ls [.int (P (4 * q))]) (by rw [eq9]) ?_
    refine lv_bipush (v := 9) hx hb d_Mo_goal_6 (by decide) ?_
    refine lv_icmp_eq (tgt := 22) hx hb d_Mo_goal_8 rfl (fun hz9 => absurd hz9 (by rw [ho]; exact xn_ne (w := 9) (by omega) (by decide) (by omega))) (fun _ => ?_)
    refine lv_aload_n hx hb d_Mo_goal_11 rfl (lv_at hl 0 rfl) ?_
    refine va_get (D := D) (ci := 5) (v := .ref oA) (C := R_Mo) (T := F_Mo) (N := 21) hx hb hg f_Mo hown hK.1 hP 0 rfl rfl 2 (by decide) (hg _ q565) (fun _ h9 => h9) rfl d_Mo_goal_12 ?_
    refine lv_iload_n hx hb d_Mo_goal_15 rfl (lv_at hl 1 rfl) ?_
    refine xa_ld hx hb hK hP 1 0 rfl rfl (kx := q) (rfl) (by omega) (by decide) d_Mo_goal_16 ?_
    have eq9 : (Po q : Int32) = P (4 * q) := hPo q
    refine W.eq (g2 := F0 m 17 ls [.int (P (4 * q))]) (by rw [eq9]) ?_
    refine lv_bipush (v := 10) hx hb d_Mo_goal_17 (by decide) ?_
    refine lv_icmp_ne (tgt := 35) hx hb d_Mo_goal_19 rfl (fun _ => ?_) (fun hz9 => absurd hz9 (by rw [ho]; exact xn_ne (w := 10) (by omega) (by decide) (by omega)))
    refine lv_aload_n hx hb d_Mo_goal_35 rfl (lv_at hl 0 rfl) ?_
    refine va_get (D := D) (ci := 5) (v := .ref cC) (C := R_Mo) (T := F_Mo) (N := 21) hx hb hg f_Mo hown hK.1 hP 0 rfl rfl 5 (by decide) (hg _ q568) (fun _ h9 => h9) rfl d_Mo_goal_36 ?_
    refine lv_iload_n hx hb d_Mo_goal_39 rfl (lv_at hl 1 rfl) ?_
    refine xa_ld hx hb hK hP 4 0 rfl rfl (kx := q) (rfl) (by omega) (by decide) d_Mo_goal_40 ?_
    have eq9 : (Pc q : Int32) = P (4 * q + 3) := hPc q
    refine W.eq (g2 := F0 m 41 ls [.int (P (4 * q + 3))]) (by rw [eq9]) ?_
    exact W.iret (v := P (4 * q + 3)) hx hb hr (fun t9 ht9 hW9 => ⟨P (4 * q + 3), rfl, by simp [tm_ld, hPc, h10], ht9⟩) (fun _ h => by cases h) d_Mo_goal_41

set_option maxHeartbeats 4000000 in
set_option maxRecDepth 100000 in
theorem c_Mo_put (l : Launch) (D : va_G) (cI cZ cJ : ClassId) (m0 oA aA bB cC gA zA bA sR sD rA eC eA pA dA kA acA : Nat) (Po Pa Pb Pc G O B sr sd Rr Cr En Pl Dn Kp Ar : Nat → Int32) (n k : Nat) (th tl nx : Int32) (u1 u2 u3 u4 : Int32) (hk : k + 1 ≤ 217) : xw_Met l y_Mo_put b_Mo_put 5 none { frames := 0, cells := 0, slots := 0, locals := 0 } [.ref m0, .int u1, .int u2, .int u3, .int u4] D cls (tyL cI cZ cJ) [(m0, .inr (5, [.int th, .int (nI n), .ref oA, .ref aA, .ref bB, .ref cC, .int tl, .int (nI k), .ref gA, .ref zA, .ref bA, .ref sR, .ref sD, .ref rA, .ref eC, .ref eA, .ref pA, .ref dA, .ref kA, .ref acA, .int nx])), (oA, .inl (cI, 24, .inl Po)), (aA, .inl (cI, 24, .inl Pa)), (bB, .inl (cI, 24, .inl Pb)), (cC, .inl (cI, 24, .inl Pc)), (gA, .inl (cI, 1600, .inl G)), (zA, .inl (cZ, 400, .inl O)), (bA, .inl (cI, 25, .inl B)), (sR, .inl (cI, 8, .inl sr)), (sD, .inl (cI, 32, .inl sd)), (rA, .inl (cI, 16, .inl Rr)), (eC, .inl (cI, 128, .inl Cr)), (eA, .inl (cI, 2, .inl En)), (pA, .inl (cI, 2, .inl Pl)), (dA, .inl (cI, 2, .inl Dn)), (kA, .inl (cI, 2, .inl Kp)), (acA, .inl (cI, 240, .inl Ar))] [(m0, .inr (5, [.int th, .int (nI n), .ref oA, .ref aA, .ref bB, .ref cC, .int tl, .int (nI (k + 1)), .ref gA, .ref zA, .ref bA, .ref sR, .ref sD, .ref rA, .ref eC, .ref eA, .ref pA, .ref dA, .ref kA, .ref acA, .int nx])), (oA, .inl (cI, 24, .inl Po)), (aA, .inl (cI, 24, .inl Pa)), (bB, .inl (cI, 24, .inl Pb)), (cC, .inl (cI, 24, .inl Pc)), (gA, .inl (cI, 1600, .inl (tm_w4 G k u1 u2 u3 u4))), (zA, .inl (cZ, 400, .inl (upd O k 0))), (bA, .inl (cI, 25, .inl B)), (sR, .inl (cI, 8, .inl sr)), (sD, .inl (cI, 32, .inl sd)), (rA, .inl (cI, 16, .inl Rr)), (eC, .inl (cI, 128, .inl Cr)), (eA, .inl (cI, 2, .inl En)), (pA, .inl (cI, 2, .inl Pl)), (dA, .inl (cI, 2, .inl Dn)), (kA, .inl (cI, 2, .inl Kp)), (acA, .inl (cI, 240, .inl Ar))] := by
  intro sz
  refine Met.ofW (cc := b_Mo_put) (maxL := 5) (ret := none) (by decide) rfl ?_
  intro p e s m args below meth c s₁ B0 hml hv
  obtain ⟨rfl, hsz, hP, hK, hD0⟩ := hv
  have hx := B0.exec
  have hb := B0.bytes
  have hr := B0.returns
  have hlocks := B0.notSynchronized
  have hg : ∀ w ∈ gG, w.before _ s = true := fun w h => atoms_spec B0.pre w (List.mem_cons_of_mem _ h)
  have hown : s.vm.findClass R_Mo = some m.cls := findClass_of_methodNamed B0.named
  subst hsz
  have hD := hD0.self (sz := s.heap.size)
  generalize hAe : va_A [(m0, .inr (5, [.int th, .int (nI n), .ref oA, .ref aA, .ref bB, .ref cC, .int tl, .int (nI k), .ref gA, .ref zA, .ref bA, .ref sR, .ref sD, .ref rA, .ref eC, .ref eA, .ref pA, .ref dA, .ref kA, .ref acA, .int nx])), (oA, .inl (cI, 24, .inl Po)), (aA, .inl (cI, 24, .inl Pa)), (bB, .inl (cI, 24, .inl Pb)), (cC, .inl (cI, 24, .inl Pc)), (gA, .inl (cI, 1600, .inl G)), (zA, .inl (cZ, 400, .inl O)), (bA, .inl (cI, 25, .inl B)), (sR, .inl (cI, 8, .inl sr)), (sD, .inl (cI, 32, .inl sd)), (rA, .inl (cI, 16, .inl Rr)), (eC, .inl (cI, 128, .inl Cr)), (eA, .inl (cI, 2, .inl En)), (pA, .inl (cI, 2, .inl Pl)), (dA, .inl (cI, 2, .inl Dn)), (kA, .inl (cI, 2, .inl Kp)), (acA, .inl (cI, 240, .inl Ar))] s.heap.size = A at hD ⊢
  have hA : ∀ q : Nat, s.heap.size ≤ q → A q := fun q h => by rw [← hAe]; exact Or.inr h
  have hS : va_S A s.heap s.heap [] := va_S.rf
  have hP : va_P D cls [(m0, .inr (5, [.int th, .int (nI n), .ref oA, .ref aA, .ref bB, .ref cC, .int tl, .int (nI k), .ref gA, .ref zA, .ref bA, .ref sR, .ref sD, .ref rA, .ref eC, .ref eA, .ref pA, .ref dA, .ref kA, .ref acA, .int nx])), (oA, .inl (cI, 24, .inl Po)), (aA, .inl (cI, 24, .inl Pa)), (bB, .inl (cI, 24, .inl Pb)), (cC, .inl (cI, 24, .inl Pc)), (gA, .inl (cI, 1600, .inl G)), (zA, .inl (cZ, 400, .inl O)), (bA, .inl (cI, 25, .inl B)), (sR, .inl (cI, 8, .inl sr)), (sD, .inl (cI, 32, .inl sd)), (rA, .inl (cI, 16, .inl Rr)), (eC, .inl (cI, 128, .inl Cr)), (eA, .inl (cI, 2, .inl En)), (pA, .inl (cI, 2, .inl Pl)), (dA, .inl (cI, 2, .inl Dn)), (kA, .inl (cI, 2, .inl Kp)), (acA, .inl (cI, 240, .inl Ar))] s.heap := hP
  have hl := lv_entry ([.ref m0, .int u1, .int u2, .int u3, .int u4]) (n := 5) (Nat.le_of_ble_eq_true rfl)
  rw [lg_entry_eq]
  generalize (lg_sl ([.ref m0, .int u1, .int u2, .int u3, .int u4]) ++ List.replicate (5 - (lg_sl ([.ref m0, .int u1, .int u2, .int u3, .int u4])).length) Slot.unset).toArray = ls at hl ⊢
  have hl : lv_has ls 5 [(0, .ref m0), (1, .int u1), (2, .int u2), (3, .int u3), (4, .int u4)] := hl
  refine lv_aload_n hx hb d_Mo_put_0 rfl (lv_at hl 0 rfl) ?_
  refine va_get (D := D) (ci := 5) (v := .ref gA) (C := R_Mo) (T := F_Mo) (N := 21) hx hb hg f_Mo hown hK.1 hP 0 rfl rfl 8 (by decide) (hg _ q571) (fun _ h9 => h9) rfl d_Mo_put_1 ?_
  refine lv_iconst (v := 4) hx hb d_Mo_put_4 (by decide) ?_
  refine lv_aload_n hx hb d_Mo_put_5 rfl (lv_at hl 0 rfl) ?_
  refine va_get (D := D) (ci := 5) (v := .int (nI k)) (C := R_Mo) (T := F_Mo) (N := 21) hx hb hg f_Mo hown hK.1 hP 0 rfl rfl 7 (by decide) (hg _ q570) (fun _ h9 => h9) rfl d_Mo_put_6 ?_
  refine lv_imul hx hb d_Mo_put_9 ?_
  have eq9 : (4 * (nI k) : Int32) = nI (4 * k) := pk_mul 4 k
  refine W.eq (g2 := F0 m 10 ls [.int (nI (4 * k)), .ref gA]) (by rw [eq9]) ?_
  refine lv_iload_n hx hb d_Mo_put_10 rfl (lv_at hl 1 rfl) ?_
  refine xa_st hx hb hK hP hD hS 5 0 rfl rfl (kx := 4 * k) (rfl) (by omega) (by decide) d_Mo_put_11 (fun H locs hP hD hS => ?_)
  have hP : va_P D cls [(m0, .inr (5, [.int th, .int (nI n), .ref oA, .ref aA, .ref bB, .ref cC, .int tl, .int (nI k), .ref gA, .ref zA, .ref bA, .ref sR, .ref sD, .ref rA, .ref eC, .ref eA, .ref pA, .ref dA, .ref kA, .ref acA, .int nx])), (oA, .inl (cI, 24, .inl Po)), (aA, .inl (cI, 24, .inl Pa)), (bB, .inl (cI, 24, .inl Pb)), (cC, .inl (cI, 24, .inl Pc)), (gA, .inl (cI, 1600, .inl (upd G (4 * k) u1))), (zA, .inl (cZ, 400, .inl O)), (bA, .inl (cI, 25, .inl B)), (sR, .inl (cI, 8, .inl sr)), (sD, .inl (cI, 32, .inl sd)), (rA, .inl (cI, 16, .inl Rr)), (eC, .inl (cI, 128, .inl Cr)), (eA, .inl (cI, 2, .inl En)), (pA, .inl (cI, 2, .inl Pl)), (dA, .inl (cI, 2, .inl Dn)), (kA, .inl (cI, 2, .inl Kp)), (acA, .inl (cI, 240, .inl Ar))] H := hP
  have hD : va_D A [(m0, .inr (5, [.int th, .int (nI n), .ref oA, .ref aA, .ref bB, .ref cC, .int tl, .int (nI k), .ref gA, .ref zA, .ref bA, .ref sR, .ref sD, .ref rA, .ref eC, .ref eA, .ref pA, .ref dA, .ref kA, .ref acA, .int nx])), (oA, .inl (cI, 24, .inl Po)), (aA, .inl (cI, 24, .inl Pa)), (bB, .inl (cI, 24, .inl Pb)), (cC, .inl (cI, 24, .inl Pc)), (gA, .inl (cI, 1600, .inl (upd G (4 * k) u1))), (zA, .inl (cZ, 400, .inl O)), (bA, .inl (cI, 25, .inl B)), (sR, .inl (cI, 8, .inl sr)), (sD, .inl (cI, 32, .inl sd)), (rA, .inl (cI, 16, .inl Rr)), (eC, .inl (cI, 128, .inl Cr)), (eA, .inl (cI, 2, .inl En)), (pA, .inl (cI, 2, .inl Pl)), (dA, .inl (cI, 2, .inl Dn)), (kA, .inl (cI, 2, .inl Kp)), (acA, .inl (cI, 240, .inl Ar))] := hD
  refine lv_aload_n hx hb d_Mo_put_12 rfl (lv_at hl 0 rfl) ?_
  refine va_get (D := D) (ci := 5) (v := .ref gA) (C := R_Mo) (T := F_Mo) (N := 21) hx hb hg f_Mo hown hK.1 hP 0 rfl rfl 8 (by decide) (hg _ q571) (fun _ h9 => h9) rfl d_Mo_put_13 ?_
  refine lv_iconst (v := 4) hx hb d_Mo_put_16 (by decide) ?_
  refine lv_aload_n hx hb d_Mo_put_17 rfl (lv_at hl 0 rfl) ?_
  refine va_get (D := D) (ci := 5) (v := .int (nI k)) (C := R_Mo) (T := F_Mo) (N := 21) hx hb hg f_Mo hown hK.1 hP 0 rfl rfl 7 (by decide) (hg _ q570) (fun _ h9 => h9) rfl d_Mo_put_18 ?_
  refine lv_imul hx hb d_Mo_put_21 ?_
  have eq9 : (4 * (nI k) : Int32) = nI (4 * k) := pk_mul 4 k
  refine W.eq (g2 := F0 m 22 ls [.int (nI (4 * k)), .ref gA]) (by rw [eq9]) ?_
  refine lv_iconst (v := 1) hx hb d_Mo_put_22 (by decide) ?_
  refine lv_iadd hx hb d_Mo_put_23 ?_
  have eq9 : ((nI (4 * k)) + 1 : Int32) = nI (4 * k + 1) := nI_add (4 * k) 1
  refine W.eq (g2 := F0 m 24 ls [.int (nI (4 * k + 1)), .ref gA]) (by rw [eq9]) ?_
  refine lv_iload_n hx hb d_Mo_put_24 rfl (lv_at hl 2 rfl) ?_
  refine xa_st hx hb hK hP hD hS 5 0 rfl rfl (kx := 4 * k + 1) (rfl) (by omega) (by decide) d_Mo_put_25 (fun H locs hP hD hS => ?_)
  have hP : va_P D cls [(m0, .inr (5, [.int th, .int (nI n), .ref oA, .ref aA, .ref bB, .ref cC, .int tl, .int (nI k), .ref gA, .ref zA, .ref bA, .ref sR, .ref sD, .ref rA, .ref eC, .ref eA, .ref pA, .ref dA, .ref kA, .ref acA, .int nx])), (oA, .inl (cI, 24, .inl Po)), (aA, .inl (cI, 24, .inl Pa)), (bB, .inl (cI, 24, .inl Pb)), (cC, .inl (cI, 24, .inl Pc)), (gA, .inl (cI, 1600, .inl (upd (upd G (4 * k) u1) (4 * k + 1) u2))), (zA, .inl (cZ, 400, .inl O)), (bA, .inl (cI, 25, .inl B)), (sR, .inl (cI, 8, .inl sr)), (sD, .inl (cI, 32, .inl sd)), (rA, .inl (cI, 16, .inl Rr)), (eC, .inl (cI, 128, .inl Cr)), (eA, .inl (cI, 2, .inl En)), (pA, .inl (cI, 2, .inl Pl)), (dA, .inl (cI, 2, .inl Dn)), (kA, .inl (cI, 2, .inl Kp)), (acA, .inl (cI, 240, .inl Ar))] H := hP
  have hD : va_D A [(m0, .inr (5, [.int th, .int (nI n), .ref oA, .ref aA, .ref bB, .ref cC, .int tl, .int (nI k), .ref gA, .ref zA, .ref bA, .ref sR, .ref sD, .ref rA, .ref eC, .ref eA, .ref pA, .ref dA, .ref kA, .ref acA, .int nx])), (oA, .inl (cI, 24, .inl Po)), (aA, .inl (cI, 24, .inl Pa)), (bB, .inl (cI, 24, .inl Pb)), (cC, .inl (cI, 24, .inl Pc)), (gA, .inl (cI, 1600, .inl (upd (upd G (4 * k) u1) (4 * k + 1) u2))), (zA, .inl (cZ, 400, .inl O)), (bA, .inl (cI, 25, .inl B)), (sR, .inl (cI, 8, .inl sr)), (sD, .inl (cI, 32, .inl sd)), (rA, .inl (cI, 16, .inl Rr)), (eC, .inl (cI, 128, .inl Cr)), (eA, .inl (cI, 2, .inl En)), (pA, .inl (cI, 2, .inl Pl)), (dA, .inl (cI, 2, .inl Dn)), (kA, .inl (cI, 2, .inl Kp)), (acA, .inl (cI, 240, .inl Ar))] := hD
  refine lv_aload_n hx hb d_Mo_put_26 rfl (lv_at hl 0 rfl) ?_
  refine va_get (D := D) (ci := 5) (v := .ref gA) (C := R_Mo) (T := F_Mo) (N := 21) hx hb hg f_Mo hown hK.1 hP 0 rfl rfl 8 (by decide) (hg _ q571) (fun _ h9 => h9) rfl d_Mo_put_27 ?_
  refine lv_iconst (v := 4) hx hb d_Mo_put_30 (by decide) ?_
  refine lv_aload_n hx hb d_Mo_put_31 rfl (lv_at hl 0 rfl) ?_
  refine va_get (D := D) (ci := 5) (v := .int (nI k)) (C := R_Mo) (T := F_Mo) (N := 21) hx hb hg f_Mo hown hK.1 hP 0 rfl rfl 7 (by decide) (hg _ q570) (fun _ h9 => h9) rfl d_Mo_put_32 ?_
  refine lv_imul hx hb d_Mo_put_35 ?_
  have eq9 : (4 * (nI k) : Int32) = nI (4 * k) := pk_mul 4 k
  refine W.eq (g2 := F0 m 36 ls [.int (nI (4 * k)), .ref gA]) (by rw [eq9]) ?_
  refine lv_iconst (v := 2) hx hb d_Mo_put_36 (by decide) ?_
  refine lv_iadd hx hb d_Mo_put_37 ?_
  have eq9 : ((nI (4 * k)) + 2 : Int32) = nI (4 * k + 2) := nI_add (4 * k) 2
  refine W.eq (g2 := F0 m 38 ls [.int (nI (4 * k + 2)), .ref gA]) (by rw [eq9]) ?_
  refine lv_iload_n hx hb d_Mo_put_38 rfl (lv_at hl 3 rfl) ?_
  refine xa_st hx hb hK hP hD hS 5 0 rfl rfl (kx := 4 * k + 2) (rfl) (by omega) (by decide) d_Mo_put_39 (fun H locs hP hD hS => ?_)
  have hP : va_P D cls [(m0, .inr (5, [.int th, .int (nI n), .ref oA, .ref aA, .ref bB, .ref cC, .int tl, .int (nI k), .ref gA, .ref zA, .ref bA, .ref sR, .ref sD, .ref rA, .ref eC, .ref eA, .ref pA, .ref dA, .ref kA, .ref acA, .int nx])), (oA, .inl (cI, 24, .inl Po)), (aA, .inl (cI, 24, .inl Pa)), (bB, .inl (cI, 24, .inl Pb)), (cC, .inl (cI, 24, .inl Pc)), (gA, .inl (cI, 1600, .inl (upd (upd (upd G (4 * k) u1) (4 * k + 1) u2) (4 * k + 2) u3))), (zA, .inl (cZ, 400, .inl O)), (bA, .inl (cI, 25, .inl B)), (sR, .inl (cI, 8, .inl sr)), (sD, .inl (cI, 32, .inl sd)), (rA, .inl (cI, 16, .inl Rr)), (eC, .inl (cI, 128, .inl Cr)), (eA, .inl (cI, 2, .inl En)), (pA, .inl (cI, 2, .inl Pl)), (dA, .inl (cI, 2, .inl Dn)), (kA, .inl (cI, 2, .inl Kp)), (acA, .inl (cI, 240, .inl Ar))] H := hP
  have hD : va_D A [(m0, .inr (5, [.int th, .int (nI n), .ref oA, .ref aA, .ref bB, .ref cC, .int tl, .int (nI k), .ref gA, .ref zA, .ref bA, .ref sR, .ref sD, .ref rA, .ref eC, .ref eA, .ref pA, .ref dA, .ref kA, .ref acA, .int nx])), (oA, .inl (cI, 24, .inl Po)), (aA, .inl (cI, 24, .inl Pa)), (bB, .inl (cI, 24, .inl Pb)), (cC, .inl (cI, 24, .inl Pc)), (gA, .inl (cI, 1600, .inl (upd (upd (upd G (4 * k) u1) (4 * k + 1) u2) (4 * k + 2) u3))), (zA, .inl (cZ, 400, .inl O)), (bA, .inl (cI, 25, .inl B)), (sR, .inl (cI, 8, .inl sr)), (sD, .inl (cI, 32, .inl sd)), (rA, .inl (cI, 16, .inl Rr)), (eC, .inl (cI, 128, .inl Cr)), (eA, .inl (cI, 2, .inl En)), (pA, .inl (cI, 2, .inl Pl)), (dA, .inl (cI, 2, .inl Dn)), (kA, .inl (cI, 2, .inl Kp)), (acA, .inl (cI, 240, .inl Ar))] := hD
  refine lv_aload_n hx hb d_Mo_put_40 rfl (lv_at hl 0 rfl) ?_
  refine va_get (D := D) (ci := 5) (v := .ref gA) (C := R_Mo) (T := F_Mo) (N := 21) hx hb hg f_Mo hown hK.1 hP 0 rfl rfl 8 (by decide) (hg _ q571) (fun _ h9 => h9) rfl d_Mo_put_41 ?_
  refine lv_iconst (v := 4) hx hb d_Mo_put_44 (by decide) ?_
  refine lv_aload_n hx hb d_Mo_put_45 rfl (lv_at hl 0 rfl) ?_
  refine va_get (D := D) (ci := 5) (v := .int (nI k)) (C := R_Mo) (T := F_Mo) (N := 21) hx hb hg f_Mo hown hK.1 hP 0 rfl rfl 7 (by decide) (hg _ q570) (fun _ h9 => h9) rfl d_Mo_put_46 ?_
  refine lv_imul hx hb d_Mo_put_49 ?_
  have eq9 : (4 * (nI k) : Int32) = nI (4 * k) := pk_mul 4 k
  refine W.eq (g2 := F0 m 50 ls [.int (nI (4 * k)), .ref gA]) (by rw [eq9]) ?_
  refine lv_iconst (v := 3) hx hb d_Mo_put_50 (by decide) ?_
  refine lv_iadd hx hb d_Mo_put_51 ?_
  have eq9 : ((nI (4 * k)) + 3 : Int32) = nI (4 * k + 3) := nI_add (4 * k) 3
  refine W.eq (g2 := F0 m 52 ls [.int (nI (4 * k + 3)), .ref gA]) (by rw [eq9]) ?_
  refine lv_iload hx hb d_Mo_put_52 (lv_at hl 4 rfl) ?_
  refine xa_st hx hb hK hP hD hS 5 0 rfl rfl (kx := 4 * k + 3) (rfl) (by omega) (by decide) d_Mo_put_54 (fun H locs hP hD hS => ?_)
  have hP : va_P D cls [(m0, .inr (5, [.int th, .int (nI n), .ref oA, .ref aA, .ref bB, .ref cC, .int tl, .int (nI k), .ref gA, .ref zA, .ref bA, .ref sR, .ref sD, .ref rA, .ref eC, .ref eA, .ref pA, .ref dA, .ref kA, .ref acA, .int nx])), (oA, .inl (cI, 24, .inl Po)), (aA, .inl (cI, 24, .inl Pa)), (bB, .inl (cI, 24, .inl Pb)), (cC, .inl (cI, 24, .inl Pc)), (gA, .inl (cI, 1600, .inl (upd (upd (upd (upd G (4 * k) u1) (4 * k + 1) u2) (4 * k + 2) u3) (4 * k + 3) u4))), (zA, .inl (cZ, 400, .inl O)), (bA, .inl (cI, 25, .inl B)), (sR, .inl (cI, 8, .inl sr)), (sD, .inl (cI, 32, .inl sd)), (rA, .inl (cI, 16, .inl Rr)), (eC, .inl (cI, 128, .inl Cr)), (eA, .inl (cI, 2, .inl En)), (pA, .inl (cI, 2, .inl Pl)), (dA, .inl (cI, 2, .inl Dn)), (kA, .inl (cI, 2, .inl Kp)), (acA, .inl (cI, 240, .inl Ar))] H := hP
  have hD : va_D A [(m0, .inr (5, [.int th, .int (nI n), .ref oA, .ref aA, .ref bB, .ref cC, .int tl, .int (nI k), .ref gA, .ref zA, .ref bA, .ref sR, .ref sD, .ref rA, .ref eC, .ref eA, .ref pA, .ref dA, .ref kA, .ref acA, .int nx])), (oA, .inl (cI, 24, .inl Po)), (aA, .inl (cI, 24, .inl Pa)), (bB, .inl (cI, 24, .inl Pb)), (cC, .inl (cI, 24, .inl Pc)), (gA, .inl (cI, 1600, .inl (upd (upd (upd (upd G (4 * k) u1) (4 * k + 1) u2) (4 * k + 2) u3) (4 * k + 3) u4))), (zA, .inl (cZ, 400, .inl O)), (bA, .inl (cI, 25, .inl B)), (sR, .inl (cI, 8, .inl sr)), (sD, .inl (cI, 32, .inl sd)), (rA, .inl (cI, 16, .inl Rr)), (eC, .inl (cI, 128, .inl Cr)), (eA, .inl (cI, 2, .inl En)), (pA, .inl (cI, 2, .inl Pl)), (dA, .inl (cI, 2, .inl Dn)), (kA, .inl (cI, 2, .inl Kp)), (acA, .inl (cI, 240, .inl Ar))] := hD
  refine lv_aload_n hx hb d_Mo_put_55 rfl (lv_at hl 0 rfl) ?_
  refine va_get (D := D) (ci := 5) (v := .ref zA) (C := R_Mo) (T := F_Mo) (N := 21) hx hb hg f_Mo hown hK.1 hP 0 rfl rfl 9 (by decide) (hg _ q572) (fun _ h9 => h9) rfl d_Mo_put_56 ?_
  refine lv_aload_n hx hb d_Mo_put_59 rfl (lv_at hl 0 rfl) ?_
  refine va_get (D := D) (ci := 5) (v := .int (nI k)) (C := R_Mo) (T := F_Mo) (N := 21) hx hb hg f_Mo hown hK.1 hP 0 rfl rfl 7 (by decide) (hg _ q570) (fun _ h9 => h9) rfl d_Mo_put_60 ?_
  refine lv_iconst (v := 0) hx hb d_Mo_put_63 (by decide) ?_
  refine xa_zs hx hb hK hP hD hS 6 1 rfl rfl (kx := k) (rfl) (by omega) (by decide) (rfl) d_Mo_put_64 (fun H locs hP hD hS => ?_)
  have hP : va_P D cls [(m0, .inr (5, [.int th, .int (nI n), .ref oA, .ref aA, .ref bB, .ref cC, .int tl, .int (nI k), .ref gA, .ref zA, .ref bA, .ref sR, .ref sD, .ref rA, .ref eC, .ref eA, .ref pA, .ref dA, .ref kA, .ref acA, .int nx])), (oA, .inl (cI, 24, .inl Po)), (aA, .inl (cI, 24, .inl Pa)), (bB, .inl (cI, 24, .inl Pb)), (cC, .inl (cI, 24, .inl Pc)), (gA, .inl (cI, 1600, .inl (upd (upd (upd (upd G (4 * k) u1) (4 * k + 1) u2) (4 * k + 2) u3) (4 * k + 3) u4))), (zA, .inl (cZ, 400, .inl (upd O k 0))), (bA, .inl (cI, 25, .inl B)), (sR, .inl (cI, 8, .inl sr)), (sD, .inl (cI, 32, .inl sd)), (rA, .inl (cI, 16, .inl Rr)), (eC, .inl (cI, 128, .inl Cr)), (eA, .inl (cI, 2, .inl En)), (pA, .inl (cI, 2, .inl Pl)), (dA, .inl (cI, 2, .inl Dn)), (kA, .inl (cI, 2, .inl Kp)), (acA, .inl (cI, 240, .inl Ar))] H := hP
  have hD : va_D A [(m0, .inr (5, [.int th, .int (nI n), .ref oA, .ref aA, .ref bB, .ref cC, .int tl, .int (nI k), .ref gA, .ref zA, .ref bA, .ref sR, .ref sD, .ref rA, .ref eC, .ref eA, .ref pA, .ref dA, .ref kA, .ref acA, .int nx])), (oA, .inl (cI, 24, .inl Po)), (aA, .inl (cI, 24, .inl Pa)), (bB, .inl (cI, 24, .inl Pb)), (cC, .inl (cI, 24, .inl Pc)), (gA, .inl (cI, 1600, .inl (upd (upd (upd (upd G (4 * k) u1) (4 * k + 1) u2) (4 * k + 2) u3) (4 * k + 3) u4))), (zA, .inl (cZ, 400, .inl (upd O k 0))), (bA, .inl (cI, 25, .inl B)), (sR, .inl (cI, 8, .inl sr)), (sD, .inl (cI, 32, .inl sd)), (rA, .inl (cI, 16, .inl Rr)), (eC, .inl (cI, 128, .inl Cr)), (eA, .inl (cI, 2, .inl En)), (pA, .inl (cI, 2, .inl Pl)), (dA, .inl (cI, 2, .inl Dn)), (kA, .inl (cI, 2, .inl Kp)), (acA, .inl (cI, 240, .inl Ar))] := hD
  refine lv_aload_n hx hb d_Mo_put_65 rfl (lv_at hl 0 rfl) ?_
  refine lv_dup hx hb d_Mo_put_66 rfl ?_
  refine va_get (D := D) (ci := 5) (v := .int (nI k)) (C := R_Mo) (T := F_Mo) (N := 21) hx hb hg f_Mo hown hK.1 hP 0 rfl rfl 7 (by decide) (hg _ q570) (fun _ h9 => h9) rfl d_Mo_put_67 ?_
  refine lv_iconst (v := 1) hx hb d_Mo_put_70 (by decide) ?_
  refine lv_iadd hx hb d_Mo_put_71 ?_
  have eq9 : ((nI k) + 1 : Int32) = nI (k + 1) := nI_add k 1
  refine W.eq (g2 := F0 m 72 ls [.int (nI (k + 1)), .ref m0]) (by rw [eq9]) ?_
  refine va_put (D := D) (ci := 5) (v := .int (nI (k + 1))) (ty := .int) (C := R_Mo) (T := F_Mo) (N := 21) hx hb hg f_Mo t_Mo t_Mo_ok n_Mo hown hK.1 hP hD hS 0 rfl rfl 7 (by decide) (hg _ q570) (fun _ h9 => h9) rfl (by decide +kernel) rfl rfl (Nat.le_of_ble_eq_true rfl) d_Mo_put_72 (fun H locs hP hD hS => ?_)
  have hP : va_P D cls [(m0, .inr (5, [.int th, .int (nI n), .ref oA, .ref aA, .ref bB, .ref cC, .int tl, .int (nI (k + 1)), .ref gA, .ref zA, .ref bA, .ref sR, .ref sD, .ref rA, .ref eC, .ref eA, .ref pA, .ref dA, .ref kA, .ref acA, .int nx])), (oA, .inl (cI, 24, .inl Po)), (aA, .inl (cI, 24, .inl Pa)), (bB, .inl (cI, 24, .inl Pb)), (cC, .inl (cI, 24, .inl Pc)), (gA, .inl (cI, 1600, .inl (upd (upd (upd (upd G (4 * k) u1) (4 * k + 1) u2) (4 * k + 2) u3) (4 * k + 3) u4))), (zA, .inl (cZ, 400, .inl (upd O k 0))), (bA, .inl (cI, 25, .inl B)), (sR, .inl (cI, 8, .inl sr)), (sD, .inl (cI, 32, .inl sd)), (rA, .inl (cI, 16, .inl Rr)), (eC, .inl (cI, 128, .inl Cr)), (eA, .inl (cI, 2, .inl En)), (pA, .inl (cI, 2, .inl Pl)), (dA, .inl (cI, 2, .inl Dn)), (kA, .inl (cI, 2, .inl Kp)), (acA, .inl (cI, 240, .inl Ar))] H := hP
  have hD : va_D A [(m0, .inr (5, [.int th, .int (nI n), .ref oA, .ref aA, .ref bB, .ref cC, .int tl, .int (nI (k + 1)), .ref gA, .ref zA, .ref bA, .ref sR, .ref sD, .ref rA, .ref eC, .ref eA, .ref pA, .ref dA, .ref kA, .ref acA, .int nx])), (oA, .inl (cI, 24, .inl Po)), (aA, .inl (cI, 24, .inl Pa)), (bB, .inl (cI, 24, .inl Pb)), (cC, .inl (cI, 24, .inl Pc)), (gA, .inl (cI, 1600, .inl (upd (upd (upd (upd G (4 * k) u1) (4 * k + 1) u2) (4 * k + 2) u3) (4 * k + 3) u4))), (zA, .inl (cZ, 400, .inl (upd O k 0))), (bA, .inl (cI, 25, .inl B)), (sR, .inl (cI, 8, .inl sr)), (sD, .inl (cI, 32, .inl sd)), (rA, .inl (cI, 16, .inl Rr)), (eC, .inl (cI, 128, .inl Cr)), (eA, .inl (cI, 2, .inl En)), (pA, .inl (cI, 2, .inl Pl)), (dA, .inl (cI, 2, .inl Dn)), (kA, .inl (cI, 2, .inl Kp)), (acA, .inl (cI, 240, .inl Ar))] := hD
  have ew1 : upd (upd (upd (upd G (4 * k) u1) (4 * k + 1) u2) (4 * k + 2) u3) (4 * k + 3) u4 = tm_w4 G k u1 u2 u3 u4 := by first | rfl | (simp [tm_w4]; done) | (simp [tm_w4, Nat.add_assoc]; done)
  have hP : va_P D cls [(m0, .inr (5, [.int th, .int (nI n), .ref oA, .ref aA, .ref bB, .ref cC, .int tl, .int (nI (k + 1)), .ref gA, .ref zA, .ref bA, .ref sR, .ref sD, .ref rA, .ref eC, .ref eA, .ref pA, .ref dA, .ref kA, .ref acA, .int nx])), (oA, .inl (cI, 24, .inl Po)), (aA, .inl (cI, 24, .inl Pa)), (bB, .inl (cI, 24, .inl Pb)), (cC, .inl (cI, 24, .inl Pc)), (gA, .inl (cI, 1600, .inl (tm_w4 G k u1 u2 u3 u4))), (zA, .inl (cZ, 400, .inl (upd O k 0))), (bA, .inl (cI, 25, .inl B)), (sR, .inl (cI, 8, .inl sr)), (sD, .inl (cI, 32, .inl sd)), (rA, .inl (cI, 16, .inl Rr)), (eC, .inl (cI, 128, .inl Cr)), (eA, .inl (cI, 2, .inl En)), (pA, .inl (cI, 2, .inl Pl)), (dA, .inl (cI, 2, .inl Dn)), (kA, .inl (cI, 2, .inl Kp)), (acA, .inl (cI, 240, .inl Ar))] H := by rw [← ew1]; exact hP
  have hD : va_D A [(m0, .inr (5, [.int th, .int (nI n), .ref oA, .ref aA, .ref bB, .ref cC, .int tl, .int (nI (k + 1)), .ref gA, .ref zA, .ref bA, .ref sR, .ref sD, .ref rA, .ref eC, .ref eA, .ref pA, .ref dA, .ref kA, .ref acA, .int nx])), (oA, .inl (cI, 24, .inl Po)), (aA, .inl (cI, 24, .inl Pa)), (bB, .inl (cI, 24, .inl Pb)), (cC, .inl (cI, 24, .inl Pc)), (gA, .inl (cI, 1600, .inl (tm_w4 G k u1 u2 u3 u4))), (zA, .inl (cZ, 400, .inl (upd O k 0))), (bA, .inl (cI, 25, .inl B)), (sR, .inl (cI, 8, .inl sr)), (sD, .inl (cI, 32, .inl sd)), (rA, .inl (cI, 16, .inl Rr)), (eC, .inl (cI, 128, .inl Cr)), (eA, .inl (cI, 2, .inl En)), (pA, .inl (cI, 2, .inl Pl)), (dA, .inl (cI, 2, .inl Dn)), (kA, .inl (cI, 2, .inl Kp)), (acA, .inl (cI, 240, .inl Ar))] := by rw [← ew1]; exact hD
  exact W.vret hx hb hr (fun t9 ht9 hW9 => ⟨⟨(), rfl, trivial, by rw [ht9]; exact hP, hD⟩, hS.F ht9⟩) hS.2.2 d_Mo_put_75

set_option maxHeartbeats 4000000 in
set_option maxRecDepth 100000 in
theorem c_Mo_lead (l : Launch) (D : va_G) (cI cZ cJ : ClassId) (m0 oA aA bB cC gA zA bA sR sD rA eC eA pA dA kA acA : Nat) (Po Pa Pb Pc G O B sr sd Rr Cr En Pl Dn Kp Ar : Nat → Int32) (n k : Nat) (th tl nx : Int32) (u1 u2 u3 u4 : Int32) (hk : k + 1 ≤ 217) : xw_Met l y_Mo_lead b_Mo_lead 5 none { frames := 1, cells := 0, slots := 0, locals := 24 } [.ref m0, .int u1, .int u2, .int u3, .int u4] D cls (tyL cI cZ cJ) [(m0, .inr (5, [.int th, .int (nI n), .ref oA, .ref aA, .ref bB, .ref cC, .int tl, .int (nI k), .ref gA, .ref zA, .ref bA, .ref sR, .ref sD, .ref rA, .ref eC, .ref eA, .ref pA, .ref dA, .ref kA, .ref acA, .int nx])), (oA, .inl (cI, 24, .inl Po)), (aA, .inl (cI, 24, .inl Pa)), (bB, .inl (cI, 24, .inl Pb)), (cC, .inl (cI, 24, .inl Pc)), (gA, .inl (cI, 1600, .inl G)), (zA, .inl (cZ, 400, .inl O)), (bA, .inl (cI, 25, .inl B)), (sR, .inl (cI, 8, .inl sr)), (sD, .inl (cI, 32, .inl sd)), (rA, .inl (cI, 16, .inl Rr)), (eC, .inl (cI, 128, .inl Cr)), (eA, .inl (cI, 2, .inl En)), (pA, .inl (cI, 2, .inl Pl)), (dA, .inl (cI, 2, .inl Dn)), (kA, .inl (cI, 2, .inl Kp)), (acA, .inl (cI, 240, .inl Ar))] [(m0, .inr (5, [.int th, .int (nI n), .ref oA, .ref aA, .ref bB, .ref cC, .int tl, .int (nI (k + 1)), .ref gA, .ref zA, .ref bA, .ref sR, .ref sD, .ref rA, .ref eC, .ref eA, .ref pA, .ref dA, .ref kA, .ref acA, .int nx])), (oA, .inl (cI, 24, .inl Po)), (aA, .inl (cI, 24, .inl Pa)), (bB, .inl (cI, 24, .inl Pb)), (cC, .inl (cI, 24, .inl Pc)), (gA, .inl (cI, 1600, .inl (tm_w4 G k u1 u2 u3 u4))), (zA, .inl (cZ, 400, .inl (upd O k 1))), (bA, .inl (cI, 25, .inl B)), (sR, .inl (cI, 8, .inl sr)), (sD, .inl (cI, 32, .inl sd)), (rA, .inl (cI, 16, .inl Rr)), (eC, .inl (cI, 128, .inl Cr)), (eA, .inl (cI, 2, .inl En)), (pA, .inl (cI, 2, .inl Pl)), (dA, .inl (cI, 2, .inl Dn)), (kA, .inl (cI, 2, .inl Kp)), (acA, .inl (cI, 240, .inl Ar))] := by
  intro sz
  refine Met.ofW (cc := b_Mo_lead) (maxL := 5) (ret := none) (by decide) rfl ?_
  intro p e s m args below meth c s₁ B0 hml hv
  obtain ⟨rfl, hsz, hP, hK, hD0⟩ := hv
  have hx := B0.exec
  have hb := B0.bytes
  have hr := B0.returns
  have hlocks := B0.notSynchronized
  have hg : ∀ w ∈ gG, w.before _ s = true := fun w h => atoms_spec B0.pre w (List.mem_cons_of_mem _ h)
  have hown : s.vm.findClass R_Mo = some m.cls := findClass_of_methodNamed B0.named
  subst hsz
  have hD := hD0.self (sz := s.heap.size)
  generalize hAe : va_A [(m0, .inr (5, [.int th, .int (nI n), .ref oA, .ref aA, .ref bB, .ref cC, .int tl, .int (nI k), .ref gA, .ref zA, .ref bA, .ref sR, .ref sD, .ref rA, .ref eC, .ref eA, .ref pA, .ref dA, .ref kA, .ref acA, .int nx])), (oA, .inl (cI, 24, .inl Po)), (aA, .inl (cI, 24, .inl Pa)), (bB, .inl (cI, 24, .inl Pb)), (cC, .inl (cI, 24, .inl Pc)), (gA, .inl (cI, 1600, .inl G)), (zA, .inl (cZ, 400, .inl O)), (bA, .inl (cI, 25, .inl B)), (sR, .inl (cI, 8, .inl sr)), (sD, .inl (cI, 32, .inl sd)), (rA, .inl (cI, 16, .inl Rr)), (eC, .inl (cI, 128, .inl Cr)), (eA, .inl (cI, 2, .inl En)), (pA, .inl (cI, 2, .inl Pl)), (dA, .inl (cI, 2, .inl Dn)), (kA, .inl (cI, 2, .inl Kp)), (acA, .inl (cI, 240, .inl Ar))] s.heap.size = A at hD ⊢
  have hA : ∀ q : Nat, s.heap.size ≤ q → A q := fun q h => by rw [← hAe]; exact Or.inr h
  have hS : va_S A s.heap s.heap [] := va_S.rf
  have hP : va_P D cls [(m0, .inr (5, [.int th, .int (nI n), .ref oA, .ref aA, .ref bB, .ref cC, .int tl, .int (nI k), .ref gA, .ref zA, .ref bA, .ref sR, .ref sD, .ref rA, .ref eC, .ref eA, .ref pA, .ref dA, .ref kA, .ref acA, .int nx])), (oA, .inl (cI, 24, .inl Po)), (aA, .inl (cI, 24, .inl Pa)), (bB, .inl (cI, 24, .inl Pb)), (cC, .inl (cI, 24, .inl Pc)), (gA, .inl (cI, 1600, .inl G)), (zA, .inl (cZ, 400, .inl O)), (bA, .inl (cI, 25, .inl B)), (sR, .inl (cI, 8, .inl sr)), (sD, .inl (cI, 32, .inl sd)), (rA, .inl (cI, 16, .inl Rr)), (eC, .inl (cI, 128, .inl Cr)), (eA, .inl (cI, 2, .inl En)), (pA, .inl (cI, 2, .inl Pl)), (dA, .inl (cI, 2, .inl Dn)), (kA, .inl (cI, 2, .inl Kp)), (acA, .inl (cI, 240, .inl Ar))] s.heap := hP
  have hl := lv_entry ([.ref m0, .int u1, .int u2, .int u3, .int u4]) (n := 5) (Nat.le_of_ble_eq_true rfl)
  rw [lg_entry_eq]
  generalize (lg_sl ([.ref m0, .int u1, .int u2, .int u3, .int u4]) ++ List.replicate (5 - (lg_sl ([.ref m0, .int u1, .int u2, .int u3, .int u4])).length) Slot.unset).toArray = ls at hl ⊢
  have hl : lv_has ls 5 [(0, .ref m0), (1, .int u1), (2, .int u2), (3, .int u3), (4, .int u4)] := hl
  refine lv_aload_n hx hb d_Mo_lead_0 rfl (lv_at hl 0 rfl) ?_
  refine lv_iload_n hx hb d_Mo_lead_1 rfl (lv_at hl 1 rfl) ?_
  refine lv_iload_n hx hb d_Mo_lead_2 rfl (lv_at hl 2 rfl) ?_
  refine lv_iload_n hx hb d_Mo_lead_3 rfl (lv_at hl 3 rfl) ?_
  refine lv_iload hx hb d_Mo_lead_4 (lv_at hl 4 rfl) ?_
  refine xw_go (w2 := [(m0, .inr (5, [.int th, .int (nI n), .ref oA, .ref aA, .ref bB, .ref cC, .int tl, .int (nI (k + 1)), .ref gA, .ref zA, .ref bA, .ref sR, .ref sD, .ref rA, .ref eC, .ref eA, .ref pA, .ref dA, .ref kA, .ref acA, .int nx])), (oA, .inl (cI, 24, .inl Po)), (aA, .inl (cI, 24, .inl Pa)), (bB, .inl (cI, 24, .inl Pb)), (cC, .inl (cI, 24, .inl Pc)), (gA, .inl (cI, 1600, .inl (tm_w4 G k u1 u2 u3 u4))), (zA, .inl (cZ, 400, .inl (upd O k 0))), (bA, .inl (cI, 25, .inl B)), (sR, .inl (cI, 8, .inl sr)), (sD, .inl (cI, 32, .inl sd)), (rA, .inl (cI, 16, .inl Rr)), (eC, .inl (cI, 128, .inl Cr)), (eA, .inl (cI, 2, .inl En)), (pA, .inl (cI, 2, .inl Pl)), (dA, .inl (cI, 2, .inl Dn)), (kA, .inl (cI, 2, .inl Kp)), (acA, .inl (cI, 240, .inl Ar))]) (wr := []) (w1 := [(m0, .inr (5, [.int th, .int (nI n), .ref oA, .ref aA, .ref bB, .ref cC, .int tl, .int (nI (k + 1)), .ref gA, .ref zA, .ref bA, .ref sR, .ref sD, .ref rA, .ref eC, .ref eA, .ref pA, .ref dA, .ref kA, .ref acA, .int nx])), (oA, .inl (cI, 24, .inl Po)), (aA, .inl (cI, 24, .inl Pa)), (bB, .inl (cI, 24, .inl Pb)), (cC, .inl (cI, 24, .inl Pc)), (gA, .inl (cI, 1600, .inl (tm_w4 G k u1 u2 u3 u4))), (zA, .inl (cZ, 400, .inl (upd O k 0))), (bA, .inl (cI, 25, .inl B)), (sR, .inl (cI, 8, .inl sr)), (sD, .inl (cI, 32, .inl sd)), (rA, .inl (cI, 16, .inl Rr)), (eC, .inl (cI, 128, .inl Cr)), (eA, .inl (cI, 2, .inl En)), (pA, .inl (cI, 2, .inl Pl)), (dA, .inl (cI, 2, .inl Dn)), (kA, .inl (cI, 2, .inl Kp)), (acA, .inl (cI, 240, .inl Ar))]) (va_runV (As := [.int u1, .int u2, .int u3, .int u4]) (rest := []) (C := R_Mo) ⟨hx, hb, hml, hown, hg⟩ (c_Mo_put l D cI cZ cJ m0 oA aA bB cC gA zA bA sR sD rA eC eA pA dA kA acA Po Pa Pb Pc G O B sr sd Rr Cr En Pl Dn Kp Ar n k th tl nx u1 u2 u3 u4 (by omega) s.heap.size) ⟨xg_B hg m_Mo_put.1 m_Mo_put.2.2.1 m_Mo_put.2.2.2.1 m_Mo_put.2.2.2.2 q670 rfl rfl ⟨Nat.le_of_ble_eq_true rfl, Nat.le_of_ble_eq_true rfl⟩, hg _ m_Mo_put.2.1, hg _ sp_Mo_put⟩ ⟨xw_blind, (va_recv (q0 := 0) hK.1 hP rfl rfl), xw_pre hK hP hD [0, 1, 2, 3, 4, 5, 6, 7, 8, 9, 10, 11, 12, 13, 14, 15, 16] (by decide) rfl⟩ rfl rfl hl.1 rfl (lv_room (Nat.le_of_ble_eq_true rfl)) d_Mo_lead_6 ⟨Nat.zero_le _, Nat.zero_le _⟩) hP hD hS hA [0, 1, 2, 3, 4, 5, 6, 7, 8, 9, 10, 11, 12, 13, 14, 15, 16] [] [0, 1, 2, 3, 4, 5, 6, 7, 8, 9, 10, 11, 12, 13, 14, 15, 16] rfl rfl (by decide) (by decide) rfl (by decide) (fun H locs hP hD hS => ?_)
  refine lv_aload_n hx hb d_Mo_lead_9 rfl (lv_at hl 0 rfl) ?_
  refine va_get (D := D) (ci := 5) (v := .ref zA) (C := R_Mo) (T := F_Mo) (N := 21) hx hb hg f_Mo hown hK.1 hP 0 rfl rfl 9 (by decide) (hg _ q572) (fun _ h9 => h9) rfl d_Mo_lead_10 ?_
  refine lv_aload_n hx hb d_Mo_lead_13 rfl (lv_at hl 0 rfl) ?_
  refine va_get (D := D) (ci := 5) (v := .int (nI (k + 1))) (C := R_Mo) (T := F_Mo) (N := 21) hx hb hg f_Mo hown hK.1 hP 0 rfl rfl 7 (by decide) (hg _ q570) (fun _ h9 => h9) rfl d_Mo_lead_14 ?_
  refine lv_iconst (v := 1) hx hb d_Mo_lead_17 (by decide) ?_
  refine lv_isub hx hb d_Mo_lead_18 ?_
  have eq9 : ((nI (k + 1)) - 1 : Int32) = nI k := nI_pred k
  refine W.eq (g2 := F0 m 19 ls [.int (nI k), .ref zA]) (by rw [eq9]) ?_
  refine lv_iconst (v := 1) hx hb d_Mo_lead_19 (by decide) ?_
  refine xa_zs hx hb hK hP hD hS 6 1 rfl rfl (kx := k) (rfl) (by omega) (by decide) (rfl) d_Mo_lead_20 (fun H locs hP hD hS => ?_)
  have hP : va_P D cls [(m0, .inr (5, [.int th, .int (nI n), .ref oA, .ref aA, .ref bB, .ref cC, .int tl, .int (nI (k + 1)), .ref gA, .ref zA, .ref bA, .ref sR, .ref sD, .ref rA, .ref eC, .ref eA, .ref pA, .ref dA, .ref kA, .ref acA, .int nx])), (oA, .inl (cI, 24, .inl Po)), (aA, .inl (cI, 24, .inl Pa)), (bB, .inl (cI, 24, .inl Pb)), (cC, .inl (cI, 24, .inl Pc)), (gA, .inl (cI, 1600, .inl (tm_w4 G k u1 u2 u3 u4))), (zA, .inl (cZ, 400, .inl (upd (upd O k 0) k 1))), (bA, .inl (cI, 25, .inl B)), (sR, .inl (cI, 8, .inl sr)), (sD, .inl (cI, 32, .inl sd)), (rA, .inl (cI, 16, .inl Rr)), (eC, .inl (cI, 128, .inl Cr)), (eA, .inl (cI, 2, .inl En)), (pA, .inl (cI, 2, .inl Pl)), (dA, .inl (cI, 2, .inl Dn)), (kA, .inl (cI, 2, .inl Kp)), (acA, .inl (cI, 240, .inl Ar))] H := hP
  have hD : va_D A [(m0, .inr (5, [.int th, .int (nI n), .ref oA, .ref aA, .ref bB, .ref cC, .int tl, .int (nI (k + 1)), .ref gA, .ref zA, .ref bA, .ref sR, .ref sD, .ref rA, .ref eC, .ref eA, .ref pA, .ref dA, .ref kA, .ref acA, .int nx])), (oA, .inl (cI, 24, .inl Po)), (aA, .inl (cI, 24, .inl Pa)), (bB, .inl (cI, 24, .inl Pb)), (cC, .inl (cI, 24, .inl Pc)), (gA, .inl (cI, 1600, .inl (tm_w4 G k u1 u2 u3 u4))), (zA, .inl (cZ, 400, .inl (upd (upd O k 0) k 1))), (bA, .inl (cI, 25, .inl B)), (sR, .inl (cI, 8, .inl sr)), (sD, .inl (cI, 32, .inl sd)), (rA, .inl (cI, 16, .inl Rr)), (eC, .inl (cI, 128, .inl Cr)), (eA, .inl (cI, 2, .inl En)), (pA, .inl (cI, 2, .inl Pl)), (dA, .inl (cI, 2, .inl Dn)), (kA, .inl (cI, 2, .inl Kp)), (acA, .inl (cI, 240, .inl Ar))] := hD
  have ew1 : upd (upd O k 0) k 1 = upd O k 1 := by first | rfl | (simp [xn_uu]; done) | (simp [xn_uu, Nat.add_assoc]; done)
  have hP : va_P D cls [(m0, .inr (5, [.int th, .int (nI n), .ref oA, .ref aA, .ref bB, .ref cC, .int tl, .int (nI (k + 1)), .ref gA, .ref zA, .ref bA, .ref sR, .ref sD, .ref rA, .ref eC, .ref eA, .ref pA, .ref dA, .ref kA, .ref acA, .int nx])), (oA, .inl (cI, 24, .inl Po)), (aA, .inl (cI, 24, .inl Pa)), (bB, .inl (cI, 24, .inl Pb)), (cC, .inl (cI, 24, .inl Pc)), (gA, .inl (cI, 1600, .inl (tm_w4 G k u1 u2 u3 u4))), (zA, .inl (cZ, 400, .inl (upd O k 1))), (bA, .inl (cI, 25, .inl B)), (sR, .inl (cI, 8, .inl sr)), (sD, .inl (cI, 32, .inl sd)), (rA, .inl (cI, 16, .inl Rr)), (eC, .inl (cI, 128, .inl Cr)), (eA, .inl (cI, 2, .inl En)), (pA, .inl (cI, 2, .inl Pl)), (dA, .inl (cI, 2, .inl Dn)), (kA, .inl (cI, 2, .inl Kp)), (acA, .inl (cI, 240, .inl Ar))] H := by rw [← ew1]; exact hP
  have hD : va_D A [(m0, .inr (5, [.int th, .int (nI n), .ref oA, .ref aA, .ref bB, .ref cC, .int tl, .int (nI (k + 1)), .ref gA, .ref zA, .ref bA, .ref sR, .ref sD, .ref rA, .ref eC, .ref eA, .ref pA, .ref dA, .ref kA, .ref acA, .int nx])), (oA, .inl (cI, 24, .inl Po)), (aA, .inl (cI, 24, .inl Pa)), (bB, .inl (cI, 24, .inl Pb)), (cC, .inl (cI, 24, .inl Pc)), (gA, .inl (cI, 1600, .inl (tm_w4 G k u1 u2 u3 u4))), (zA, .inl (cZ, 400, .inl (upd O k 1))), (bA, .inl (cI, 25, .inl B)), (sR, .inl (cI, 8, .inl sr)), (sD, .inl (cI, 32, .inl sd)), (rA, .inl (cI, 16, .inl Rr)), (eC, .inl (cI, 128, .inl Cr)), (eA, .inl (cI, 2, .inl En)), (pA, .inl (cI, 2, .inl Pl)), (dA, .inl (cI, 2, .inl Dn)), (kA, .inl (cI, 2, .inl Kp)), (acA, .inl (cI, 240, .inl Ar))] := by rw [← ew1]; exact hD
  exact W.vret hx hb hr (fun t9 ht9 hW9 => ⟨⟨(), rfl, trivial, by rw [ht9]; exact hP, hD⟩, hS.F ht9⟩) hS.2.2 d_Mo_lead_21

set_option maxHeartbeats 4000000 in
set_option maxRecDepth 100000 in
theorem c_Mo_into (l : Launch) (D : va_G) (cI cZ cJ : ClassId) (m0 oA aA bB cC gA zA bA sR sD rA eC eA pA dA kA acA : Nat) (Po Pa Pb Pc G O B sr sd Rr Cr En Pl Dn Kp Ar : Nat → Int32) (n k : Nat) (th tl nx : Int32) (an : Nat) (r u : Int32) (hk : k + 1 ≤ 217) : xi_Met l y_Mo_into b_Mo_into 3 (some .int) { frames := 1, cells := 0, slots := 0, locals := 24 } [.ref m0, .int r, .int u] D cls (tyL cI cZ cJ) [(m0, .inr (5, [.int th, .int (nI n), .ref oA, .ref aA, .ref bB, .ref cC, .int tl, .int (nI k), .ref gA, .ref zA, .ref bA, .ref sR, .ref sD, .ref rA, .ref eC, .ref eA, .ref pA, .ref dA, .ref kA, .ref acA, .int nx])), (oA, .inl (cI, 24, .inl Po)), (aA, .inl (cI, 24, .inl Pa)), (bB, .inl (cI, 24, .inl Pb)), (cC, .inl (cI, 24, .inl Pc)), (gA, .inl (cI, 1600, .inl G)), (zA, .inl (cZ, 400, .inl O)), (bA, .inl (cI, 25, .inl B)), (sR, .inl (cI, 8, .inl sr)), (sD, .inl (cI, 32, .inl sd)), (rA, .inl (cI, 16, .inl Rr)), (eC, .inl (cI, 128, .inl Cr)), (eA, .inl (cI, 2, .inl En)), (pA, .inl (cI, 2, .inl Pl)), (dA, .inl (cI, 2, .inl Dn)), (kA, .inl (cI, 2, .inl Kp)), (acA, .inl (cI, 240, .inl Ar))] [(m0, .inr (5, [.int th, .int (nI n), .ref oA, .ref aA, .ref bB, .ref cC, .int tl, .int (nI (k + (tm_rd an u r).length)), .ref gA, .ref zA, .ref bA, .ref sR, .ref sD, .ref rA, .ref eC, .ref eA, .ref pA, .ref dA, .ref kA, .ref acA, .int nx])), (oA, .inl (cI, 24, .inl Po)), (aA, .inl (cI, 24, .inl Pa)), (bB, .inl (cI, 24, .inl Pb)), (cC, .inl (cI, 24, .inl Pc)), (gA, .inl (cI, 1600, .inl (tm_pa tm_rw G k (tm_rd an u r)))), (zA, .inl (cZ, 400, .inl (tm_po O k (tm_rd an u r)))), (bA, .inl (cI, 25, .inl B)), (sR, .inl (cI, 8, .inl sr)), (sD, .inl (cI, 32, .inl sd)), (rA, .inl (cI, 16, .inl Rr)), (eC, .inl (cI, 128, .inl Cr)), (eA, .inl (cI, 2, .inl En)), (pA, .inl (cI, 2, .inl Pl)), (dA, .inl (cI, 2, .inl Dn)), (kA, .inl (cI, 2, .inl Kp)), (acA, .inl (cI, 240, .inl Ar))] (tm_rg u r) := by
  intro sz
  refine Met.ofW (cc := b_Mo_into) (maxL := 3) (ret := (some .int)) (by decide) rfl ?_
  intro p e s m args below meth c s₁ B0 hml hv
  obtain ⟨rfl, hsz, hP, hK, hD0⟩ := hv
  have hx := B0.exec
  have hb := B0.bytes
  have hr := B0.returns
  have hlocks := B0.notSynchronized
  have hg : ∀ w ∈ gG, w.before _ s = true := fun w h => atoms_spec B0.pre w (List.mem_cons_of_mem _ h)
  have hown : s.vm.findClass R_Mo = some m.cls := findClass_of_methodNamed B0.named
  subst hsz
  have hD := hD0.self (sz := s.heap.size)
  generalize hAe : va_A [(m0, .inr (5, [.int th, .int (nI n), .ref oA, .ref aA, .ref bB, .ref cC, .int tl, .int (nI k), .ref gA, .ref zA, .ref bA, .ref sR, .ref sD, .ref rA, .ref eC, .ref eA, .ref pA, .ref dA, .ref kA, .ref acA, .int nx])), (oA, .inl (cI, 24, .inl Po)), (aA, .inl (cI, 24, .inl Pa)), (bB, .inl (cI, 24, .inl Pb)), (cC, .inl (cI, 24, .inl Pc)), (gA, .inl (cI, 1600, .inl G)), (zA, .inl (cZ, 400, .inl O)), (bA, .inl (cI, 25, .inl B)), (sR, .inl (cI, 8, .inl sr)), (sD, .inl (cI, 32, .inl sd)), (rA, .inl (cI, 16, .inl Rr)), (eC, .inl (cI, 128, .inl Cr)), (eA, .inl (cI, 2, .inl En)), (pA, .inl (cI, 2, .inl Pl)), (dA, .inl (cI, 2, .inl Dn)), (kA, .inl (cI, 2, .inl Kp)), (acA, .inl (cI, 240, .inl Ar))] s.heap.size = A at hD ⊢
  have hA : ∀ q : Nat, s.heap.size ≤ q → A q := fun q h => by rw [← hAe]; exact Or.inr h
  have hS : va_S A s.heap s.heap [] := va_S.rf
  have hP : va_P D cls [(m0, .inr (5, [.int th, .int (nI n), .ref oA, .ref aA, .ref bB, .ref cC, .int tl, .int (nI k), .ref gA, .ref zA, .ref bA, .ref sR, .ref sD, .ref rA, .ref eC, .ref eA, .ref pA, .ref dA, .ref kA, .ref acA, .int nx])), (oA, .inl (cI, 24, .inl Po)), (aA, .inl (cI, 24, .inl Pa)), (bB, .inl (cI, 24, .inl Pb)), (cC, .inl (cI, 24, .inl Pc)), (gA, .inl (cI, 1600, .inl G)), (zA, .inl (cZ, 400, .inl O)), (bA, .inl (cI, 25, .inl B)), (sR, .inl (cI, 8, .inl sr)), (sD, .inl (cI, 32, .inl sd)), (rA, .inl (cI, 16, .inl Rr)), (eC, .inl (cI, 128, .inl Cr)), (eA, .inl (cI, 2, .inl En)), (pA, .inl (cI, 2, .inl Pl)), (dA, .inl (cI, 2, .inl Dn)), (kA, .inl (cI, 2, .inl Kp)), (acA, .inl (cI, 240, .inl Ar))] s.heap := hP
  have hl := lv_entry ([.ref m0, .int r, .int u]) (n := 3) (Nat.le_of_ble_eq_true rfl)
  rw [lg_entry_eq]
  generalize (lg_sl ([.ref m0, .int r, .int u]) ++ List.replicate (3 - (lg_sl ([.ref m0, .int r, .int u])).length) Slot.unset).toArray = ls at hl ⊢
  have hl : lv_has ls 3 [(0, .ref m0), (1, .int r), (2, .int u)] := hl
  refine lv_iload_n hx hb d_Mo_into_0 rfl (lv_at hl 1 rfl) ?_
  refine lv_iconst (v := 4) hx hb d_Mo_into_1 (by decide) ?_
  refine lv_icmp_ge (tgt := 7) hx hb d_Mo_into_2 rfl (fun h100 => ?_) (fun h100 => ?_)
  · refine lv_aload_n hx hb d_Mo_into_7 rfl (lv_at hl 0 rfl) ?_
    refine lv_bipush (v := 7) hx hb d_Mo_into_8 (by decide) ?_
    refine lv_iload_n hx hb d_Mo_into_10 rfl (lv_at hl 2 rfl) ?_
    refine lv_iconst (v := 0) hx hb d_Mo_into_11 (by decide) ?_
    refine lv_bipush (v := 32) hx hb d_Mo_into_12 (by decide) ?_
    refine lv_iload_n hx hb d_Mo_into_14 rfl (lv_at hl 1 rfl) ?_
    refine lv_iadd hx hb d_Mo_into_15 ?_
    refine xw_go (w2 := [(m0, .inr (5, [.int th, .int (nI n), .ref oA, .ref aA, .ref bB, .ref cC, .int tl, .int (nI (k + 1)), .ref gA, .ref zA, .ref bA, .ref sR, .ref sD, .ref rA, .ref eC, .ref eA, .ref pA, .ref dA, .ref kA, .ref acA, .int nx])), (oA, .inl (cI, 24, .inl Po)), (aA, .inl (cI, 24, .inl Pa)), (bB, .inl (cI, 24, .inl Pb)), (cC, .inl (cI, 24, .inl Pc)), (gA, .inl (cI, 1600, .inl (tm_w4 G k 7 u 0 (32 + r)))), (zA, .inl (cZ, 400, .inl (upd O k 0))), (bA, .inl (cI, 25, .inl B)), (sR, .inl (cI, 8, .inl sr)), (sD, .inl (cI, 32, .inl sd)), (rA, .inl (cI, 16, .inl Rr)), (eC, .inl (cI, 128, .inl Cr)), (eA, .inl (cI, 2, .inl En)), (pA, .inl (cI, 2, .inl Pl)), (dA, .inl (cI, 2, .inl Dn)), (kA, .inl (cI, 2, .inl Kp)), (acA, .inl (cI, 240, .inl Ar))]) (wr := []) (w1 := [(m0, .inr (5, [.int th, .int (nI n), .ref oA, .ref aA, .ref bB, .ref cC, .int tl, .int (nI (k + 1)), .ref gA, .ref zA, .ref bA, .ref sR, .ref sD, .ref rA, .ref eC, .ref eA, .ref pA, .ref dA, .ref kA, .ref acA, .int nx])), (oA, .inl (cI, 24, .inl Po)), (aA, .inl (cI, 24, .inl Pa)), (bB, .inl (cI, 24, .inl Pb)), (cC, .inl (cI, 24, .inl Pc)), (gA, .inl (cI, 1600, .inl (tm_w4 G k 7 u 0 (32 + r)))), (zA, .inl (cZ, 400, .inl (upd O k 0))), (bA, .inl (cI, 25, .inl B)), (sR, .inl (cI, 8, .inl sr)), (sD, .inl (cI, 32, .inl sd)), (rA, .inl (cI, 16, .inl Rr)), (eC, .inl (cI, 128, .inl Cr)), (eA, .inl (cI, 2, .inl En)), (pA, .inl (cI, 2, .inl Pl)), (dA, .inl (cI, 2, .inl Dn)), (kA, .inl (cI, 2, .inl Kp)), (acA, .inl (cI, 240, .inl Ar))]) (va_runV (As := [.int 7, .int u, .int 0, .int (32 + r)]) (rest := []) (C := R_Mo) ⟨hx, hb, hml, hown, hg⟩ (c_Mo_put l D cI cZ cJ m0 oA aA bB cC gA zA bA sR sD rA eC eA pA dA kA acA Po Pa Pb Pc G O B sr sd Rr Cr En Pl Dn Kp Ar n k th tl nx 7 u 0 (32 + r) (by omega) s.heap.size) ⟨xg_B hg m_Mo_put.1 m_Mo_put.2.2.1 m_Mo_put.2.2.2.1 m_Mo_put.2.2.2.2 q670 rfl rfl ⟨Nat.le_of_ble_eq_true rfl, Nat.le_of_ble_eq_true rfl⟩, hg _ m_Mo_put.2.1, hg _ sp_Mo_put⟩ ⟨xw_blind, (va_recv (q0 := 0) hK.1 hP rfl rfl), xw_pre hK hP hD [0, 1, 2, 3, 4, 5, 6, 7, 8, 9, 10, 11, 12, 13, 14, 15, 16] (by decide) rfl⟩ rfl rfl hl.1 rfl (lv_room (Nat.le_of_ble_eq_true rfl)) d_Mo_into_16 ⟨Nat.zero_le _, Nat.zero_le _⟩) hP hD hS hA [0, 1, 2, 3, 4, 5, 6, 7, 8, 9, 10, 11, 12, 13, 14, 15, 16] [] [0, 1, 2, 3, 4, 5, 6, 7, 8, 9, 10, 11, 12, 13, 14, 15, 16] rfl rfl (by decide) (by decide) rfl (by decide) (fun H locs hP hD hS => ?_)
    refine lv_iload_n hx hb d_Mo_into_19 rfl (lv_at hl 2 rfl) ?_
    have ew1 : nI (k + 1) = nI (k + (tm_rd an u r).length) := congrArg nI (by first | (simp [tm_rd, tm_rg, tm_pa, tm_pa_app, tm_po, tm_po_app, tm_rw, h100]; done) | (simp [tm_rd, tm_rg, tm_pa, tm_pa_app, tm_po, tm_po_app, tm_rw, h100]; omega) | omega)
    have ew2 : tm_w4 G k 7 u 0 (32 + r) = tm_pa tm_rw G k (tm_rd an u r) := by first | rfl | (simp [tm_rd, tm_rg, tm_pa, tm_pa_app, tm_po, tm_po_app, tm_rw, h100]; done) | (simp [tm_rd, tm_rg, tm_pa, tm_pa_app, tm_po, tm_po_app, tm_rw, h100, Nat.add_assoc]; done)
    have ew3 : upd O k 0 = tm_po O k (tm_rd an u r) := by first | rfl | (simp [tm_rd, tm_rg, tm_pa, tm_pa_app, tm_po, tm_po_app, tm_rw, h100]; done) | (simp [tm_rd, tm_rg, tm_pa, tm_pa_app, tm_po, tm_po_app, tm_rw, h100, Nat.add_assoc]; done)
    have hP : va_P D cls [(m0, .inr (5, [.int th, .int (nI n), .ref oA, .ref aA, .ref bB, .ref cC, .int tl, .int (nI (k + (tm_rd an u r).length)), .ref gA, .ref zA, .ref bA, .ref sR, .ref sD, .ref rA, .ref eC, .ref eA, .ref pA, .ref dA, .ref kA, .ref acA, .int nx])), (oA, .inl (cI, 24, .inl Po)), (aA, .inl (cI, 24, .inl Pa)), (bB, .inl (cI, 24, .inl Pb)), (cC, .inl (cI, 24, .inl Pc)), (gA, .inl (cI, 1600, .inl (tm_pa tm_rw G k (tm_rd an u r)))), (zA, .inl (cZ, 400, .inl (tm_po O k (tm_rd an u r)))), (bA, .inl (cI, 25, .inl B)), (sR, .inl (cI, 8, .inl sr)), (sD, .inl (cI, 32, .inl sd)), (rA, .inl (cI, 16, .inl Rr)), (eC, .inl (cI, 128, .inl Cr)), (eA, .inl (cI, 2, .inl En)), (pA, .inl (cI, 2, .inl Pl)), (dA, .inl (cI, 2, .inl Dn)), (kA, .inl (cI, 2, .inl Kp)), (acA, .inl (cI, 240, .inl Ar))] H := by rw [← ew1, ← ew2, ← ew3]; exact hP
    have hD : va_D A [(m0, .inr (5, [.int th, .int (nI n), .ref oA, .ref aA, .ref bB, .ref cC, .int tl, .int (nI (k + (tm_rd an u r).length)), .ref gA, .ref zA, .ref bA, .ref sR, .ref sD, .ref rA, .ref eC, .ref eA, .ref pA, .ref dA, .ref kA, .ref acA, .int nx])), (oA, .inl (cI, 24, .inl Po)), (aA, .inl (cI, 24, .inl Pa)), (bB, .inl (cI, 24, .inl Pb)), (cC, .inl (cI, 24, .inl Pc)), (gA, .inl (cI, 1600, .inl (tm_pa tm_rw G k (tm_rd an u r)))), (zA, .inl (cZ, 400, .inl (tm_po O k (tm_rd an u r)))), (bA, .inl (cI, 25, .inl B)), (sR, .inl (cI, 8, .inl sr)), (sD, .inl (cI, 32, .inl sd)), (rA, .inl (cI, 16, .inl Rr)), (eC, .inl (cI, 128, .inl Cr)), (eA, .inl (cI, 2, .inl En)), (pA, .inl (cI, 2, .inl Pl)), (dA, .inl (cI, 2, .inl Dn)), (kA, .inl (cI, 2, .inl Kp)), (acA, .inl (cI, 240, .inl Ar))] := by rw [← ew1, ← ew2, ← ew3]; exact hD
    exact W.iret (v := u) hx hb hr (fun t9 ht9 hW9 => ⟨⟨u, (), rfl, by simp [tm_rd, tm_rg, tm_pa, tm_pa_app, tm_po, tm_po_app, tm_rw, h100], by rw [ht9]; exact hP, hD⟩, hS.F ht9⟩) hS.2.2 d_Mo_into_20
  · refine lv_iload_n hx hb d_Mo_into_5 rfl (lv_at hl 1 rfl) ?_
    have ew1 : nI k = nI (k + (tm_rd an u r).length) := congrArg nI (by first | (simp [tm_rd, tm_rg, tm_pa, tm_pa_app, tm_po, tm_po_app, tm_rw, h100]; done) | (simp [tm_rd, tm_rg, tm_pa, tm_pa_app, tm_po, tm_po_app, tm_rw, h100]; omega) | omega)
    have ew2 : G = tm_pa tm_rw G k (tm_rd an u r) := by first | rfl | (simp [tm_rd, tm_rg, tm_pa, tm_pa_app, tm_po, tm_po_app, tm_rw, h100]; done) | (simp [tm_rd, tm_rg, tm_pa, tm_pa_app, tm_po, tm_po_app, tm_rw, h100, Nat.add_assoc]; done)
    have ew3 : O = tm_po O k (tm_rd an u r) := by first | rfl | (simp [tm_rd, tm_rg, tm_pa, tm_pa_app, tm_po, tm_po_app, tm_rw, h100]; done) | (simp [tm_rd, tm_rg, tm_pa, tm_pa_app, tm_po, tm_po_app, tm_rw, h100, Nat.add_assoc]; done)
    have hP : va_P D cls [(m0, .inr (5, [.int th, .int (nI n), .ref oA, .ref aA, .ref bB, .ref cC, .int tl, .int (nI (k + (tm_rd an u r).length)), .ref gA, .ref zA, .ref bA, .ref sR, .ref sD, .ref rA, .ref eC, .ref eA, .ref pA, .ref dA, .ref kA, .ref acA, .int nx])), (oA, .inl (cI, 24, .inl Po)), (aA, .inl (cI, 24, .inl Pa)), (bB, .inl (cI, 24, .inl Pb)), (cC, .inl (cI, 24, .inl Pc)), (gA, .inl (cI, 1600, .inl (tm_pa tm_rw G k (tm_rd an u r)))), (zA, .inl (cZ, 400, .inl (tm_po O k (tm_rd an u r)))), (bA, .inl (cI, 25, .inl B)), (sR, .inl (cI, 8, .inl sr)), (sD, .inl (cI, 32, .inl sd)), (rA, .inl (cI, 16, .inl Rr)), (eC, .inl (cI, 128, .inl Cr)), (eA, .inl (cI, 2, .inl En)), (pA, .inl (cI, 2, .inl Pl)), (dA, .inl (cI, 2, .inl Dn)), (kA, .inl (cI, 2, .inl Kp)), (acA, .inl (cI, 240, .inl Ar))] s.heap := by rw [← ew1, ← ew2, ← ew3]; exact hP
    have hD : va_D A [(m0, .inr (5, [.int th, .int (nI n), .ref oA, .ref aA, .ref bB, .ref cC, .int tl, .int (nI (k + (tm_rd an u r).length)), .ref gA, .ref zA, .ref bA, .ref sR, .ref sD, .ref rA, .ref eC, .ref eA, .ref pA, .ref dA, .ref kA, .ref acA, .int nx])), (oA, .inl (cI, 24, .inl Po)), (aA, .inl (cI, 24, .inl Pa)), (bB, .inl (cI, 24, .inl Pb)), (cC, .inl (cI, 24, .inl Pc)), (gA, .inl (cI, 1600, .inl (tm_pa tm_rw G k (tm_rd an u r)))), (zA, .inl (cZ, 400, .inl (tm_po O k (tm_rd an u r)))), (bA, .inl (cI, 25, .inl B)), (sR, .inl (cI, 8, .inl sr)), (sD, .inl (cI, 32, .inl sd)), (rA, .inl (cI, 16, .inl Rr)), (eC, .inl (cI, 128, .inl Cr)), (eA, .inl (cI, 2, .inl En)), (pA, .inl (cI, 2, .inl Pl)), (dA, .inl (cI, 2, .inl Dn)), (kA, .inl (cI, 2, .inl Kp)), (acA, .inl (cI, 240, .inl Ar))] := by rw [← ew1, ← ew2, ← ew3]; exact hD
    exact W.iret (v := r) hx hb hr (fun t9 ht9 hW9 => ⟨⟨r, (), rfl, by simp [tm_rd, tm_rg, tm_pa, tm_pa_app, tm_po, tm_po_app, tm_rw, h100], by rw [ht9]; exact hP, hD⟩, hS.F ht9⟩) hS.2.2 d_Mo_into_6

set_option maxHeartbeats 4000000 in
set_option maxRecDepth 100000 in
theorem c_Mo_writes (l : Launch) (D : va_G) (cI cZ cJ : ClassId) (m0 oA aA bB cC gA zA bA sR sD rA eC eA pA dA kA acA : Nat) (Po Pa Pb Pc G O B sr sd Rr Cr En Pl Dn Kp Ar : Nat → Int32) (n k : Nat) (th tl nx : Int32) (an : Nat) (u r v z : Int32) (hk : k + 2 ≤ 217) : xw_Met l y_Mo_writes b_Mo_writes 5 none { frames := 1, cells := 0, slots := 0, locals := 24 } [.ref m0, .int u, .int r, .int v, .int z] D cls (tyL cI cZ cJ) [(m0, .inr (5, [.int th, .int (nI n), .ref oA, .ref aA, .ref bB, .ref cC, .int tl, .int (nI k), .ref gA, .ref zA, .ref bA, .ref sR, .ref sD, .ref rA, .ref eC, .ref eA, .ref pA, .ref dA, .ref kA, .ref acA, .int nx])), (oA, .inl (cI, 24, .inl Po)), (aA, .inl (cI, 24, .inl Pa)), (bB, .inl (cI, 24, .inl Pb)), (cC, .inl (cI, 24, .inl Pc)), (gA, .inl (cI, 1600, .inl G)), (zA, .inl (cZ, 400, .inl O)), (bA, .inl (cI, 25, .inl B)), (sR, .inl (cI, 8, .inl sr)), (sD, .inl (cI, 32, .inl sd)), (rA, .inl (cI, 16, .inl Rr)), (eC, .inl (cI, 128, .inl Cr)), (eA, .inl (cI, 2, .inl En)), (pA, .inl (cI, 2, .inl Pl)), (dA, .inl (cI, 2, .inl Dn)), (kA, .inl (cI, 2, .inl Kp)), (acA, .inl (cI, 240, .inl Ar))] [(m0, .inr (5, [.int th, .int (nI n), .ref oA, .ref aA, .ref bB, .ref cC, .int tl, .int (nI (k + (tm_wt an u r v z).length)), .ref gA, .ref zA, .ref bA, .ref sR, .ref sD, .ref rA, .ref eC, .ref eA, .ref pA, .ref dA, .ref kA, .ref acA, .int nx])), (oA, .inl (cI, 24, .inl Po)), (aA, .inl (cI, 24, .inl Pa)), (bB, .inl (cI, 24, .inl Pb)), (cC, .inl (cI, 24, .inl Pc)), (gA, .inl (cI, 1600, .inl (tm_pa tm_rw G k (tm_wt an u r v z)))), (zA, .inl (cZ, 400, .inl (tm_po O k (tm_wt an u r v z)))), (bA, .inl (cI, 25, .inl B)), (sR, .inl (cI, 8, .inl sr)), (sD, .inl (cI, 32, .inl sd)), (rA, .inl (cI, 16, .inl Rr)), (eC, .inl (cI, 128, .inl Cr)), (eA, .inl (cI, 2, .inl En)), (pA, .inl (cI, 2, .inl Pl)), (dA, .inl (cI, 2, .inl Dn)), (kA, .inl (cI, 2, .inl Kp)), (acA, .inl (cI, 240, .inl Ar))] := by
  intro sz
  refine Met.ofW (cc := b_Mo_writes) (maxL := 5) (ret := none) (by decide) rfl ?_
  intro p e s m args below meth c s₁ B0 hml hv
  obtain ⟨rfl, hsz, hP, hK, hD0⟩ := hv
  have hx := B0.exec
  have hb := B0.bytes
  have hr := B0.returns
  have hlocks := B0.notSynchronized
  have hg : ∀ w ∈ gG, w.before _ s = true := fun w h => atoms_spec B0.pre w (List.mem_cons_of_mem _ h)
  have hown : s.vm.findClass R_Mo = some m.cls := findClass_of_methodNamed B0.named
  subst hsz
  have hD := hD0.self (sz := s.heap.size)
  generalize hAe : va_A [(m0, .inr (5, [.int th, .int (nI n), .ref oA, .ref aA, .ref bB, .ref cC, .int tl, .int (nI k), .ref gA, .ref zA, .ref bA, .ref sR, .ref sD, .ref rA, .ref eC, .ref eA, .ref pA, .ref dA, .ref kA, .ref acA, .int nx])), (oA, .inl (cI, 24, .inl Po)), (aA, .inl (cI, 24, .inl Pa)), (bB, .inl (cI, 24, .inl Pb)), (cC, .inl (cI, 24, .inl Pc)), (gA, .inl (cI, 1600, .inl G)), (zA, .inl (cZ, 400, .inl O)), (bA, .inl (cI, 25, .inl B)), (sR, .inl (cI, 8, .inl sr)), (sD, .inl (cI, 32, .inl sd)), (rA, .inl (cI, 16, .inl Rr)), (eC, .inl (cI, 128, .inl Cr)), (eA, .inl (cI, 2, .inl En)), (pA, .inl (cI, 2, .inl Pl)), (dA, .inl (cI, 2, .inl Dn)), (kA, .inl (cI, 2, .inl Kp)), (acA, .inl (cI, 240, .inl Ar))] s.heap.size = A at hD ⊢
  have hA : ∀ q : Nat, s.heap.size ≤ q → A q := fun q h => by rw [← hAe]; exact Or.inr h
  have hS : va_S A s.heap s.heap [] := va_S.rf
  have hP : va_P D cls [(m0, .inr (5, [.int th, .int (nI n), .ref oA, .ref aA, .ref bB, .ref cC, .int tl, .int (nI k), .ref gA, .ref zA, .ref bA, .ref sR, .ref sD, .ref rA, .ref eC, .ref eA, .ref pA, .ref dA, .ref kA, .ref acA, .int nx])), (oA, .inl (cI, 24, .inl Po)), (aA, .inl (cI, 24, .inl Pa)), (bB, .inl (cI, 24, .inl Pb)), (cC, .inl (cI, 24, .inl Pc)), (gA, .inl (cI, 1600, .inl G)), (zA, .inl (cZ, 400, .inl O)), (bA, .inl (cI, 25, .inl B)), (sR, .inl (cI, 8, .inl sr)), (sD, .inl (cI, 32, .inl sd)), (rA, .inl (cI, 16, .inl Rr)), (eC, .inl (cI, 128, .inl Cr)), (eA, .inl (cI, 2, .inl En)), (pA, .inl (cI, 2, .inl Pl)), (dA, .inl (cI, 2, .inl Dn)), (kA, .inl (cI, 2, .inl Kp)), (acA, .inl (cI, 240, .inl Ar))] s.heap := hP
  have hl := lv_entry ([.ref m0, .int u, .int r, .int v, .int z]) (n := 5) (Nat.le_of_ble_eq_true rfl)
  rw [lg_entry_eq]
  generalize (lg_sl ([.ref m0, .int u, .int r, .int v, .int z]) ++ List.replicate (5 - (lg_sl ([.ref m0, .int u, .int r, .int v, .int z])).length) Slot.unset).toArray = ls at hl ⊢
  have hl : lv_has ls 5 [(0, .ref m0), (1, .int u), (2, .int r), (3, .int v), (4, .int z)] := hl
  refine lv_aload_n hx hb d_Mo_writes_0 rfl (lv_at hl 0 rfl) ?_
  refine lv_iload_n hx hb d_Mo_writes_1 rfl (lv_at hl 1 rfl) ?_
  refine lv_iload_n hx hb d_Mo_writes_2 rfl (lv_at hl 2 rfl) ?_
  refine lv_iconst (v := 1) hx hb d_Mo_writes_3 (by decide) ?_
  refine lv_iconst (v := 3) hx hb d_Mo_writes_4 (by decide) ?_
  refine xr_S (As := [.int r, .int 1, .int 3]) (rest := [.int u, .ref m0]) ⟨hx, hb, hml, hown, hg⟩ (c_Mo_in l D cI cZ cJ r 1 3) m_Mo_in q636 ⟨rfl, rfl⟩ ⟨Nat.le_of_ble_eq_true rfl, Nat.le_of_ble_eq_true rfl⟩ hK hP [] rfl rfl hl.1 rfl (Nat.le_of_ble_eq_true rfl) d_Mo_writes_5 ⟨Nat.zero_le _, Nat.zero_le _⟩ ?_
  refine lv_if_eq (tgt := 15) hx hb d_Mo_writes_8 rfl (fun h1 => ?_) (fun h1 => ?_)
  · have h1 := xn_w13t h1
    refine lv_iconst (v := 4) hx hb d_Mo_writes_15 (by decide) ?_
    refine lv_iload_n hx hb d_Mo_writes_16 rfl (lv_at hl 3 rfl) ?_
    refine lv_iload hx hb d_Mo_writes_17 (lv_at hl 4 rfl) ?_
    refine xw_go (w2 := [(m0, .inr (5, [.int th, .int (nI n), .ref oA, .ref aA, .ref bB, .ref cC, .int tl, .int (nI (k + 1)), .ref gA, .ref zA, .ref bA, .ref sR, .ref sD, .ref rA, .ref eC, .ref eA, .ref pA, .ref dA, .ref kA, .ref acA, .int nx])), (oA, .inl (cI, 24, .inl Po)), (aA, .inl (cI, 24, .inl Pa)), (bB, .inl (cI, 24, .inl Pb)), (cC, .inl (cI, 24, .inl Pc)), (gA, .inl (cI, 1600, .inl (tm_w4 G k u 4 v z))), (zA, .inl (cZ, 400, .inl (upd O k 0))), (bA, .inl (cI, 25, .inl B)), (sR, .inl (cI, 8, .inl sr)), (sD, .inl (cI, 32, .inl sd)), (rA, .inl (cI, 16, .inl Rr)), (eC, .inl (cI, 128, .inl Cr)), (eA, .inl (cI, 2, .inl En)), (pA, .inl (cI, 2, .inl Pl)), (dA, .inl (cI, 2, .inl Dn)), (kA, .inl (cI, 2, .inl Kp)), (acA, .inl (cI, 240, .inl Ar))]) (wr := []) (w1 := [(m0, .inr (5, [.int th, .int (nI n), .ref oA, .ref aA, .ref bB, .ref cC, .int tl, .int (nI (k + 1)), .ref gA, .ref zA, .ref bA, .ref sR, .ref sD, .ref rA, .ref eC, .ref eA, .ref pA, .ref dA, .ref kA, .ref acA, .int nx])), (oA, .inl (cI, 24, .inl Po)), (aA, .inl (cI, 24, .inl Pa)), (bB, .inl (cI, 24, .inl Pb)), (cC, .inl (cI, 24, .inl Pc)), (gA, .inl (cI, 1600, .inl (tm_w4 G k u 4 v z))), (zA, .inl (cZ, 400, .inl (upd O k 0))), (bA, .inl (cI, 25, .inl B)), (sR, .inl (cI, 8, .inl sr)), (sD, .inl (cI, 32, .inl sd)), (rA, .inl (cI, 16, .inl Rr)), (eC, .inl (cI, 128, .inl Cr)), (eA, .inl (cI, 2, .inl En)), (pA, .inl (cI, 2, .inl Pl)), (dA, .inl (cI, 2, .inl Dn)), (kA, .inl (cI, 2, .inl Kp)), (acA, .inl (cI, 240, .inl Ar))]) (va_runV (As := [.int u, .int 4, .int v, .int z]) (rest := []) (C := R_Mo) ⟨hx, hb, hml, hown, hg⟩ (c_Mo_put l D cI cZ cJ m0 oA aA bB cC gA zA bA sR sD rA eC eA pA dA kA acA Po Pa Pb Pc G O B sr sd Rr Cr En Pl Dn Kp Ar n k th tl nx u 4 v z (by omega) s.heap.size) ⟨xg_B hg m_Mo_put.1 m_Mo_put.2.2.1 m_Mo_put.2.2.2.1 m_Mo_put.2.2.2.2 q670 rfl rfl ⟨Nat.le_of_ble_eq_true rfl, Nat.le_of_ble_eq_true rfl⟩, hg _ m_Mo_put.2.1, hg _ sp_Mo_put⟩ ⟨xw_blind, (va_recv (q0 := 0) hK.1 hP rfl rfl), xw_pre hK hP hD [0, 1, 2, 3, 4, 5, 6, 7, 8, 9, 10, 11, 12, 13, 14, 15, 16] (by decide) rfl⟩ rfl rfl hl.1 rfl (lv_room (Nat.le_of_ble_eq_true rfl)) d_Mo_writes_19 ⟨Nat.zero_le _, Nat.zero_le _⟩) hP hD hS hA [0, 1, 2, 3, 4, 5, 6, 7, 8, 9, 10, 11, 12, 13, 14, 15, 16] [] [0, 1, 2, 3, 4, 5, 6, 7, 8, 9, 10, 11, 12, 13, 14, 15, 16] rfl rfl (by decide) (by decide) rfl (by decide) (fun H locs hP hD hS => ?_)
    refine lv_iload_n hx hb d_Mo_writes_22 rfl (lv_at hl 2 rfl) ?_
    refine lv_iconst (v := 3) hx hb d_Mo_writes_23 (by decide) ?_
    refine lv_icmp_le (tgt := 39) hx hb d_Mo_writes_24 rfl (fun h2 => ?_) (fun h2 => ?_)
    · have h2 := xn_lt4.mp h2
      have ew1 : nI (k + 1) = nI (k + (tm_wt an u r v z).length) := congrArg nI (by first | (simp [tm_wt, tm_pa, tm_pa_app, tm_po, tm_po_app, tm_rw, h1, h2]; done) | (simp [tm_wt, tm_pa, tm_pa_app, tm_po, tm_po_app, tm_rw, h1, h2]; omega) | omega)
      have ew2 : tm_w4 G k u 4 v z = tm_pa tm_rw G k (tm_wt an u r v z) := by first | rfl | (simp [tm_wt, tm_pa, tm_pa_app, tm_po, tm_po_app, tm_rw, h1, h2]; done) | (simp [tm_wt, tm_pa, tm_pa_app, tm_po, tm_po_app, tm_rw, h1, h2, Nat.add_assoc]; done)
      have ew3 : upd O k 0 = tm_po O k (tm_wt an u r v z) := by first | rfl | (simp [tm_wt, tm_pa, tm_pa_app, tm_po, tm_po_app, tm_rw, h1, h2]; done) | (simp [tm_wt, tm_pa, tm_pa_app, tm_po, tm_po_app, tm_rw, h1, h2, Nat.add_assoc]; done)
      have hP : va_P D cls [(m0, .inr (5, [.int th, .int (nI n), .ref oA, .ref aA, .ref bB, .ref cC, .int tl, .int (nI (k + (tm_wt an u r v z).length)), .ref gA, .ref zA, .ref bA, .ref sR, .ref sD, .ref rA, .ref eC, .ref eA, .ref pA, .ref dA, .ref kA, .ref acA, .int nx])), (oA, .inl (cI, 24, .inl Po)), (aA, .inl (cI, 24, .inl Pa)), (bB, .inl (cI, 24, .inl Pb)), (cC, .inl (cI, 24, .inl Pc)), (gA, .inl (cI, 1600, .inl (tm_pa tm_rw G k (tm_wt an u r v z)))), (zA, .inl (cZ, 400, .inl (tm_po O k (tm_wt an u r v z)))), (bA, .inl (cI, 25, .inl B)), (sR, .inl (cI, 8, .inl sr)), (sD, .inl (cI, 32, .inl sd)), (rA, .inl (cI, 16, .inl Rr)), (eC, .inl (cI, 128, .inl Cr)), (eA, .inl (cI, 2, .inl En)), (pA, .inl (cI, 2, .inl Pl)), (dA, .inl (cI, 2, .inl Dn)), (kA, .inl (cI, 2, .inl Kp)), (acA, .inl (cI, 240, .inl Ar))] H := by rw [← ew1, ← ew2, ← ew3]; exact hP
      have hD : va_D A [(m0, .inr (5, [.int th, .int (nI n), .ref oA, .ref aA, .ref bB, .ref cC, .int tl, .int (nI (k + (tm_wt an u r v z).length)), .ref gA, .ref zA, .ref bA, .ref sR, .ref sD, .ref rA, .ref eC, .ref eA, .ref pA, .ref dA, .ref kA, .ref acA, .int nx])), (oA, .inl (cI, 24, .inl Po)), (aA, .inl (cI, 24, .inl Pa)), (bB, .inl (cI, 24, .inl Pb)), (cC, .inl (cI, 24, .inl Pc)), (gA, .inl (cI, 1600, .inl (tm_pa tm_rw G k (tm_wt an u r v z)))), (zA, .inl (cZ, 400, .inl (tm_po O k (tm_wt an u r v z)))), (bA, .inl (cI, 25, .inl B)), (sR, .inl (cI, 8, .inl sr)), (sD, .inl (cI, 32, .inl sd)), (rA, .inl (cI, 16, .inl Rr)), (eC, .inl (cI, 128, .inl Cr)), (eA, .inl (cI, 2, .inl En)), (pA, .inl (cI, 2, .inl Pl)), (dA, .inl (cI, 2, .inl Dn)), (kA, .inl (cI, 2, .inl Kp)), (acA, .inl (cI, 240, .inl Ar))] := by rw [← ew1, ← ew2, ← ew3]; exact hD
      exact W.vret hx hb hr (fun t9 ht9 hW9 => ⟨⟨(), rfl, trivial, by rw [ht9]; exact hP, hD⟩, hS.F ht9⟩) hS.2.2 d_Mo_writes_39
    · have h2 := mt xn_lt4.mpr h2
      refine lv_aload_n hx hb d_Mo_writes_27 rfl (lv_at hl 0 rfl) ?_
      refine lv_bipush (v := 8) hx hb d_Mo_writes_28 (by decide) ?_
      refine lv_iconst (v := 4) hx hb d_Mo_writes_30 (by decide) ?_
      refine lv_iconst (v := 0) hx hb d_Mo_writes_31 (by decide) ?_
      refine lv_bipush (v := 32) hx hb d_Mo_writes_32 (by decide) ?_
      refine lv_iload_n hx hb d_Mo_writes_34 rfl (lv_at hl 2 rfl) ?_
      refine lv_iadd hx hb d_Mo_writes_35 ?_
      refine xw_go (w2 := [(m0, .inr (5, [.int th, .int (nI n), .ref oA, .ref aA, .ref bB, .ref cC, .int tl, .int (nI ((k + 1) + 1)), .ref gA, .ref zA, .ref bA, .ref sR, .ref sD, .ref rA, .ref eC, .ref eA, .ref pA, .ref dA, .ref kA, .ref acA, .int nx])), (oA, .inl (cI, 24, .inl Po)), (aA, .inl (cI, 24, .inl Pa)), (bB, .inl (cI, 24, .inl Pb)), (cC, .inl (cI, 24, .inl Pc)), (gA, .inl (cI, 1600, .inl (tm_w4 (tm_w4 G k u 4 v z) (k + 1) 8 4 0 (32 + r)))), (zA, .inl (cZ, 400, .inl (upd (upd O k 0) (k + 1) 0))), (bA, .inl (cI, 25, .inl B)), (sR, .inl (cI, 8, .inl sr)), (sD, .inl (cI, 32, .inl sd)), (rA, .inl (cI, 16, .inl Rr)), (eC, .inl (cI, 128, .inl Cr)), (eA, .inl (cI, 2, .inl En)), (pA, .inl (cI, 2, .inl Pl)), (dA, .inl (cI, 2, .inl Dn)), (kA, .inl (cI, 2, .inl Kp)), (acA, .inl (cI, 240, .inl Ar))]) (wr := []) (w1 := [(m0, .inr (5, [.int th, .int (nI n), .ref oA, .ref aA, .ref bB, .ref cC, .int tl, .int (nI ((k + 1) + 1)), .ref gA, .ref zA, .ref bA, .ref sR, .ref sD, .ref rA, .ref eC, .ref eA, .ref pA, .ref dA, .ref kA, .ref acA, .int nx])), (oA, .inl (cI, 24, .inl Po)), (aA, .inl (cI, 24, .inl Pa)), (bB, .inl (cI, 24, .inl Pb)), (cC, .inl (cI, 24, .inl Pc)), (gA, .inl (cI, 1600, .inl (tm_w4 (tm_w4 G k u 4 v z) (k + 1) 8 4 0 (32 + r)))), (zA, .inl (cZ, 400, .inl (upd (upd O k 0) (k + 1) 0))), (bA, .inl (cI, 25, .inl B)), (sR, .inl (cI, 8, .inl sr)), (sD, .inl (cI, 32, .inl sd)), (rA, .inl (cI, 16, .inl Rr)), (eC, .inl (cI, 128, .inl Cr)), (eA, .inl (cI, 2, .inl En)), (pA, .inl (cI, 2, .inl Pl)), (dA, .inl (cI, 2, .inl Dn)), (kA, .inl (cI, 2, .inl Kp)), (acA, .inl (cI, 240, .inl Ar))]) (va_runV (As := [.int 8, .int 4, .int 0, .int (32 + r)]) (rest := []) (C := R_Mo) ⟨hx, hb, hml, hown, hg⟩ (c_Mo_put l D cI cZ cJ m0 oA aA bB cC gA zA bA sR sD rA eC eA pA dA kA acA Po Pa Pb Pc (tm_w4 G k u 4 v z) (upd O k 0) B sr sd Rr Cr En Pl Dn Kp Ar n (k + 1) th tl nx 8 4 0 (32 + r) (by omega) H.size) ⟨xg_B hg m_Mo_put.1 m_Mo_put.2.2.1 m_Mo_put.2.2.2.1 m_Mo_put.2.2.2.2 q670 rfl rfl ⟨Nat.le_of_ble_eq_true rfl, Nat.le_of_ble_eq_true rfl⟩, hg _ m_Mo_put.2.1, hg _ sp_Mo_put⟩ ⟨xw_blind, (va_recv (q0 := 0) hK.1 hP rfl rfl), xw_pre hK hP hD [0, 1, 2, 3, 4, 5, 6, 7, 8, 9, 10, 11, 12, 13, 14, 15, 16] (by decide) rfl⟩ rfl rfl hl.1 rfl (lv_room (Nat.le_of_ble_eq_true rfl)) d_Mo_writes_36 ⟨Nat.zero_le _, Nat.zero_le _⟩) hP hD hS hA [0, 1, 2, 3, 4, 5, 6, 7, 8, 9, 10, 11, 12, 13, 14, 15, 16] [] [0, 1, 2, 3, 4, 5, 6, 7, 8, 9, 10, 11, 12, 13, 14, 15, 16] rfl rfl (by decide) (by decide) rfl (by decide) (fun H locs hP hD hS => ?_)
      have ew1 : nI ((k + 1) + 1) = nI (k + (tm_wt an u r v z).length) := congrArg nI (by first | (simp [tm_wt, tm_pa, tm_pa_app, tm_po, tm_po_app, tm_rw, h1, h2]; done) | (simp [tm_wt, tm_pa, tm_pa_app, tm_po, tm_po_app, tm_rw, h1, h2]; omega) | omega)
      have ew2 : tm_w4 (tm_w4 G k u 4 v z) (k + 1) 8 4 0 (32 + r) = tm_pa tm_rw G k (tm_wt an u r v z) := by first | rfl | (simp [tm_wt, tm_pa, tm_pa_app, tm_po, tm_po_app, tm_rw, h1, h2]; done) | (simp [tm_wt, tm_pa, tm_pa_app, tm_po, tm_po_app, tm_rw, h1, h2, Nat.add_assoc]; done)
      have ew3 : upd (upd O k 0) (k + 1) 0 = tm_po O k (tm_wt an u r v z) := by first | rfl | (simp [tm_wt, tm_pa, tm_pa_app, tm_po, tm_po_app, tm_rw, h1, h2]; done) | (simp [tm_wt, tm_pa, tm_pa_app, tm_po, tm_po_app, tm_rw, h1, h2, Nat.add_assoc]; done)
      have hP : va_P D cls [(m0, .inr (5, [.int th, .int (nI n), .ref oA, .ref aA, .ref bB, .ref cC, .int tl, .int (nI (k + (tm_wt an u r v z).length)), .ref gA, .ref zA, .ref bA, .ref sR, .ref sD, .ref rA, .ref eC, .ref eA, .ref pA, .ref dA, .ref kA, .ref acA, .int nx])), (oA, .inl (cI, 24, .inl Po)), (aA, .inl (cI, 24, .inl Pa)), (bB, .inl (cI, 24, .inl Pb)), (cC, .inl (cI, 24, .inl Pc)), (gA, .inl (cI, 1600, .inl (tm_pa tm_rw G k (tm_wt an u r v z)))), (zA, .inl (cZ, 400, .inl (tm_po O k (tm_wt an u r v z)))), (bA, .inl (cI, 25, .inl B)), (sR, .inl (cI, 8, .inl sr)), (sD, .inl (cI, 32, .inl sd)), (rA, .inl (cI, 16, .inl Rr)), (eC, .inl (cI, 128, .inl Cr)), (eA, .inl (cI, 2, .inl En)), (pA, .inl (cI, 2, .inl Pl)), (dA, .inl (cI, 2, .inl Dn)), (kA, .inl (cI, 2, .inl Kp)), (acA, .inl (cI, 240, .inl Ar))] H := by rw [← ew1, ← ew2, ← ew3]; exact hP
      have hD : va_D A [(m0, .inr (5, [.int th, .int (nI n), .ref oA, .ref aA, .ref bB, .ref cC, .int tl, .int (nI (k + (tm_wt an u r v z).length)), .ref gA, .ref zA, .ref bA, .ref sR, .ref sD, .ref rA, .ref eC, .ref eA, .ref pA, .ref dA, .ref kA, .ref acA, .int nx])), (oA, .inl (cI, 24, .inl Po)), (aA, .inl (cI, 24, .inl Pa)), (bB, .inl (cI, 24, .inl Pb)), (cC, .inl (cI, 24, .inl Pc)), (gA, .inl (cI, 1600, .inl (tm_pa tm_rw G k (tm_wt an u r v z)))), (zA, .inl (cZ, 400, .inl (tm_po O k (tm_wt an u r v z)))), (bA, .inl (cI, 25, .inl B)), (sR, .inl (cI, 8, .inl sr)), (sD, .inl (cI, 32, .inl sd)), (rA, .inl (cI, 16, .inl Rr)), (eC, .inl (cI, 128, .inl Cr)), (eA, .inl (cI, 2, .inl En)), (pA, .inl (cI, 2, .inl Pl)), (dA, .inl (cI, 2, .inl Dn)), (kA, .inl (cI, 2, .inl Kp)), (acA, .inl (cI, 240, .inl Ar))] := by rw [← ew1, ← ew2, ← ew3]; exact hD
      exact W.vret hx hb hr (fun t9 ht9 hW9 => ⟨⟨(), rfl, trivial, by rw [ht9]; exact hP, hD⟩, hS.F ht9⟩) hS.2.2 d_Mo_writes_39
  · have h1 := xn_w13f h1
    refine lv_iload_n hx hb d_Mo_writes_11 rfl (lv_at hl 2 rfl) ?_
    refine lv_goto (tgt := 16) hx hb d_Mo_writes_12 rfl ?_
    refine lv_iload_n hx hb d_Mo_writes_16 rfl (lv_at hl 3 rfl) ?_
    refine lv_iload hx hb d_Mo_writes_17 (lv_at hl 4 rfl) ?_
    refine xw_go (w2 := [(m0, .inr (5, [.int th, .int (nI n), .ref oA, .ref aA, .ref bB, .ref cC, .int tl, .int (nI (k + 1)), .ref gA, .ref zA, .ref bA, .ref sR, .ref sD, .ref rA, .ref eC, .ref eA, .ref pA, .ref dA, .ref kA, .ref acA, .int nx])), (oA, .inl (cI, 24, .inl Po)), (aA, .inl (cI, 24, .inl Pa)), (bB, .inl (cI, 24, .inl Pb)), (cC, .inl (cI, 24, .inl Pc)), (gA, .inl (cI, 1600, .inl (tm_w4 G k u r v z))), (zA, .inl (cZ, 400, .inl (upd O k 0))), (bA, .inl (cI, 25, .inl B)), (sR, .inl (cI, 8, .inl sr)), (sD, .inl (cI, 32, .inl sd)), (rA, .inl (cI, 16, .inl Rr)), (eC, .inl (cI, 128, .inl Cr)), (eA, .inl (cI, 2, .inl En)), (pA, .inl (cI, 2, .inl Pl)), (dA, .inl (cI, 2, .inl Dn)), (kA, .inl (cI, 2, .inl Kp)), (acA, .inl (cI, 240, .inl Ar))]) (wr := []) (w1 := [(m0, .inr (5, [.int th, .int (nI n), .ref oA, .ref aA, .ref bB, .ref cC, .int tl, .int (nI (k + 1)), .ref gA, .ref zA, .ref bA, .ref sR, .ref sD, .ref rA, .ref eC, .ref eA, .ref pA, .ref dA, .ref kA, .ref acA, .int nx])), (oA, .inl (cI, 24, .inl Po)), (aA, .inl (cI, 24, .inl Pa)), (bB, .inl (cI, 24, .inl Pb)), (cC, .inl (cI, 24, .inl Pc)), (gA, .inl (cI, 1600, .inl (tm_w4 G k u r v z))), (zA, .inl (cZ, 400, .inl (upd O k 0))), (bA, .inl (cI, 25, .inl B)), (sR, .inl (cI, 8, .inl sr)), (sD, .inl (cI, 32, .inl sd)), (rA, .inl (cI, 16, .inl Rr)), (eC, .inl (cI, 128, .inl Cr)), (eA, .inl (cI, 2, .inl En)), (pA, .inl (cI, 2, .inl Pl)), (dA, .inl (cI, 2, .inl Dn)), (kA, .inl (cI, 2, .inl Kp)), (acA, .inl (cI, 240, .inl Ar))]) (va_runV (As := [.int u, .int r, .int v, .int z]) (rest := []) (C := R_Mo) ⟨hx, hb, hml, hown, hg⟩ (c_Mo_put l D cI cZ cJ m0 oA aA bB cC gA zA bA sR sD rA eC eA pA dA kA acA Po Pa Pb Pc G O B sr sd Rr Cr En Pl Dn Kp Ar n k th tl nx u r v z (by omega) s.heap.size) ⟨xg_B hg m_Mo_put.1 m_Mo_put.2.2.1 m_Mo_put.2.2.2.1 m_Mo_put.2.2.2.2 q670 rfl rfl ⟨Nat.le_of_ble_eq_true rfl, Nat.le_of_ble_eq_true rfl⟩, hg _ m_Mo_put.2.1, hg _ sp_Mo_put⟩ ⟨xw_blind, (va_recv (q0 := 0) hK.1 hP rfl rfl), xw_pre hK hP hD [0, 1, 2, 3, 4, 5, 6, 7, 8, 9, 10, 11, 12, 13, 14, 15, 16] (by decide) rfl⟩ rfl rfl hl.1 rfl (lv_room (Nat.le_of_ble_eq_true rfl)) d_Mo_writes_19 ⟨Nat.zero_le _, Nat.zero_le _⟩) hP hD hS hA [0, 1, 2, 3, 4, 5, 6, 7, 8, 9, 10, 11, 12, 13, 14, 15, 16] [] [0, 1, 2, 3, 4, 5, 6, 7, 8, 9, 10, 11, 12, 13, 14, 15, 16] rfl rfl (by decide) (by decide) rfl (by decide) (fun H locs hP hD hS => ?_)
    refine lv_iload_n hx hb d_Mo_writes_22 rfl (lv_at hl 2 rfl) ?_
    refine lv_iconst (v := 3) hx hb d_Mo_writes_23 (by decide) ?_
    refine lv_icmp_le (tgt := 39) hx hb d_Mo_writes_24 rfl (fun h2 => ?_) (fun h2 => ?_)
    · have h2 := xn_lt4.mp h2
      have ew1 : nI (k + 1) = nI (k + (tm_wt an u r v z).length) := congrArg nI (by first | (simp [tm_wt, tm_pa, tm_pa_app, tm_po, tm_po_app, tm_rw, h1, h2]; done) | (simp [tm_wt, tm_pa, tm_pa_app, tm_po, tm_po_app, tm_rw, h1, h2]; omega) | omega)
      have ew2 : tm_w4 G k u r v z = tm_pa tm_rw G k (tm_wt an u r v z) := by first | rfl | (simp [tm_wt, tm_pa, tm_pa_app, tm_po, tm_po_app, tm_rw, h1, h2]; done) | (simp [tm_wt, tm_pa, tm_pa_app, tm_po, tm_po_app, tm_rw, h1, h2, Nat.add_assoc]; done)
      have ew3 : upd O k 0 = tm_po O k (tm_wt an u r v z) := by first | rfl | (simp [tm_wt, tm_pa, tm_pa_app, tm_po, tm_po_app, tm_rw, h1, h2]; done) | (simp [tm_wt, tm_pa, tm_pa_app, tm_po, tm_po_app, tm_rw, h1, h2, Nat.add_assoc]; done)
      have hP : va_P D cls [(m0, .inr (5, [.int th, .int (nI n), .ref oA, .ref aA, .ref bB, .ref cC, .int tl, .int (nI (k + (tm_wt an u r v z).length)), .ref gA, .ref zA, .ref bA, .ref sR, .ref sD, .ref rA, .ref eC, .ref eA, .ref pA, .ref dA, .ref kA, .ref acA, .int nx])), (oA, .inl (cI, 24, .inl Po)), (aA, .inl (cI, 24, .inl Pa)), (bB, .inl (cI, 24, .inl Pb)), (cC, .inl (cI, 24, .inl Pc)), (gA, .inl (cI, 1600, .inl (tm_pa tm_rw G k (tm_wt an u r v z)))), (zA, .inl (cZ, 400, .inl (tm_po O k (tm_wt an u r v z)))), (bA, .inl (cI, 25, .inl B)), (sR, .inl (cI, 8, .inl sr)), (sD, .inl (cI, 32, .inl sd)), (rA, .inl (cI, 16, .inl Rr)), (eC, .inl (cI, 128, .inl Cr)), (eA, .inl (cI, 2, .inl En)), (pA, .inl (cI, 2, .inl Pl)), (dA, .inl (cI, 2, .inl Dn)), (kA, .inl (cI, 2, .inl Kp)), (acA, .inl (cI, 240, .inl Ar))] H := by rw [← ew1, ← ew2, ← ew3]; exact hP
      have hD : va_D A [(m0, .inr (5, [.int th, .int (nI n), .ref oA, .ref aA, .ref bB, .ref cC, .int tl, .int (nI (k + (tm_wt an u r v z).length)), .ref gA, .ref zA, .ref bA, .ref sR, .ref sD, .ref rA, .ref eC, .ref eA, .ref pA, .ref dA, .ref kA, .ref acA, .int nx])), (oA, .inl (cI, 24, .inl Po)), (aA, .inl (cI, 24, .inl Pa)), (bB, .inl (cI, 24, .inl Pb)), (cC, .inl (cI, 24, .inl Pc)), (gA, .inl (cI, 1600, .inl (tm_pa tm_rw G k (tm_wt an u r v z)))), (zA, .inl (cZ, 400, .inl (tm_po O k (tm_wt an u r v z)))), (bA, .inl (cI, 25, .inl B)), (sR, .inl (cI, 8, .inl sr)), (sD, .inl (cI, 32, .inl sd)), (rA, .inl (cI, 16, .inl Rr)), (eC, .inl (cI, 128, .inl Cr)), (eA, .inl (cI, 2, .inl En)), (pA, .inl (cI, 2, .inl Pl)), (dA, .inl (cI, 2, .inl Dn)), (kA, .inl (cI, 2, .inl Kp)), (acA, .inl (cI, 240, .inl Ar))] := by rw [← ew1, ← ew2, ← ew3]; exact hD
      exact W.vret hx hb hr (fun t9 ht9 hW9 => ⟨⟨(), rfl, trivial, by rw [ht9]; exact hP, hD⟩, hS.F ht9⟩) hS.2.2 d_Mo_writes_39
    · have h2 := mt xn_lt4.mpr h2
      refine lv_aload_n hx hb d_Mo_writes_27 rfl (lv_at hl 0 rfl) ?_
      refine lv_bipush (v := 8) hx hb d_Mo_writes_28 (by decide) ?_
      refine lv_iconst (v := 4) hx hb d_Mo_writes_30 (by decide) ?_
      refine lv_iconst (v := 0) hx hb d_Mo_writes_31 (by decide) ?_
      refine lv_bipush (v := 32) hx hb d_Mo_writes_32 (by decide) ?_
      refine lv_iload_n hx hb d_Mo_writes_34 rfl (lv_at hl 2 rfl) ?_
      refine lv_iadd hx hb d_Mo_writes_35 ?_
      refine xw_go (w2 := [(m0, .inr (5, [.int th, .int (nI n), .ref oA, .ref aA, .ref bB, .ref cC, .int tl, .int (nI ((k + 1) + 1)), .ref gA, .ref zA, .ref bA, .ref sR, .ref sD, .ref rA, .ref eC, .ref eA, .ref pA, .ref dA, .ref kA, .ref acA, .int nx])), (oA, .inl (cI, 24, .inl Po)), (aA, .inl (cI, 24, .inl Pa)), (bB, .inl (cI, 24, .inl Pb)), (cC, .inl (cI, 24, .inl Pc)), (gA, .inl (cI, 1600, .inl (tm_w4 (tm_w4 G k u r v z) (k + 1) 8 4 0 (32 + r)))), (zA, .inl (cZ, 400, .inl (upd (upd O k 0) (k + 1) 0))), (bA, .inl (cI, 25, .inl B)), (sR, .inl (cI, 8, .inl sr)), (sD, .inl (cI, 32, .inl sd)), (rA, .inl (cI, 16, .inl Rr)), (eC, .inl (cI, 128, .inl Cr)), (eA, .inl (cI, 2, .inl En)), (pA, .inl (cI, 2, .inl Pl)), (dA, .inl (cI, 2, .inl Dn)), (kA, .inl (cI, 2, .inl Kp)), (acA, .inl (cI, 240, .inl Ar))]) (wr := []) (w1 := [(m0, .inr (5, [.int th, .int (nI n), .ref oA, .ref aA, .ref bB, .ref cC, .int tl, .int (nI ((k + 1) + 1)), .ref gA, .ref zA, .ref bA, .ref sR, .ref sD, .ref rA, .ref eC, .ref eA, .ref pA, .ref dA, .ref kA, .ref acA, .int nx])), (oA, .inl (cI, 24, .inl Po)), (aA, .inl (cI, 24, .inl Pa)), (bB, .inl (cI, 24, .inl Pb)), (cC, .inl (cI, 24, .inl Pc)), (gA, .inl (cI, 1600, .inl (tm_w4 (tm_w4 G k u r v z) (k + 1) 8 4 0 (32 + r)))), (zA, .inl (cZ, 400, .inl (upd (upd O k 0) (k + 1) 0))), (bA, .inl (cI, 25, .inl B)), (sR, .inl (cI, 8, .inl sr)), (sD, .inl (cI, 32, .inl sd)), (rA, .inl (cI, 16, .inl Rr)), (eC, .inl (cI, 128, .inl Cr)), (eA, .inl (cI, 2, .inl En)), (pA, .inl (cI, 2, .inl Pl)), (dA, .inl (cI, 2, .inl Dn)), (kA, .inl (cI, 2, .inl Kp)), (acA, .inl (cI, 240, .inl Ar))]) (va_runV (As := [.int 8, .int 4, .int 0, .int (32 + r)]) (rest := []) (C := R_Mo) ⟨hx, hb, hml, hown, hg⟩ (c_Mo_put l D cI cZ cJ m0 oA aA bB cC gA zA bA sR sD rA eC eA pA dA kA acA Po Pa Pb Pc (tm_w4 G k u r v z) (upd O k 0) B sr sd Rr Cr En Pl Dn Kp Ar n (k + 1) th tl nx 8 4 0 (32 + r) (by omega) H.size) ⟨xg_B hg m_Mo_put.1 m_Mo_put.2.2.1 m_Mo_put.2.2.2.1 m_Mo_put.2.2.2.2 q670 rfl rfl ⟨Nat.le_of_ble_eq_true rfl, Nat.le_of_ble_eq_true rfl⟩, hg _ m_Mo_put.2.1, hg _ sp_Mo_put⟩ ⟨xw_blind, (va_recv (q0 := 0) hK.1 hP rfl rfl), xw_pre hK hP hD [0, 1, 2, 3, 4, 5, 6, 7, 8, 9, 10, 11, 12, 13, 14, 15, 16] (by decide) rfl⟩ rfl rfl hl.1 rfl (lv_room (Nat.le_of_ble_eq_true rfl)) d_Mo_writes_36 ⟨Nat.zero_le _, Nat.zero_le _⟩) hP hD hS hA [0, 1, 2, 3, 4, 5, 6, 7, 8, 9, 10, 11, 12, 13, 14, 15, 16] [] [0, 1, 2, 3, 4, 5, 6, 7, 8, 9, 10, 11, 12, 13, 14, 15, 16] rfl rfl (by decide) (by decide) rfl (by decide) (fun H locs hP hD hS => ?_)
      have ew1 : nI ((k + 1) + 1) = nI (k + (tm_wt an u r v z).length) := congrArg nI (by first | (simp [tm_wt, tm_pa, tm_pa_app, tm_po, tm_po_app, tm_rw, h1, h2]; done) | (simp [tm_wt, tm_pa, tm_pa_app, tm_po, tm_po_app, tm_rw, h1, h2]; omega) | omega)
      have ew2 : tm_w4 (tm_w4 G k u r v z) (k + 1) 8 4 0 (32 + r) = tm_pa tm_rw G k (tm_wt an u r v z) := by first | rfl | (simp [tm_wt, tm_pa, tm_pa_app, tm_po, tm_po_app, tm_rw, h1, h2]; done) | (simp [tm_wt, tm_pa, tm_pa_app, tm_po, tm_po_app, tm_rw, h1, h2, Nat.add_assoc]; done)
      have ew3 : upd (upd O k 0) (k + 1) 0 = tm_po O k (tm_wt an u r v z) := by first | rfl | (simp [tm_wt, tm_pa, tm_pa_app, tm_po, tm_po_app, tm_rw, h1, h2]; done) | (simp [tm_wt, tm_pa, tm_pa_app, tm_po, tm_po_app, tm_rw, h1, h2, Nat.add_assoc]; done)
      have hP : va_P D cls [(m0, .inr (5, [.int th, .int (nI n), .ref oA, .ref aA, .ref bB, .ref cC, .int tl, .int (nI (k + (tm_wt an u r v z).length)), .ref gA, .ref zA, .ref bA, .ref sR, .ref sD, .ref rA, .ref eC, .ref eA, .ref pA, .ref dA, .ref kA, .ref acA, .int nx])), (oA, .inl (cI, 24, .inl Po)), (aA, .inl (cI, 24, .inl Pa)), (bB, .inl (cI, 24, .inl Pb)), (cC, .inl (cI, 24, .inl Pc)), (gA, .inl (cI, 1600, .inl (tm_pa tm_rw G k (tm_wt an u r v z)))), (zA, .inl (cZ, 400, .inl (tm_po O k (tm_wt an u r v z)))), (bA, .inl (cI, 25, .inl B)), (sR, .inl (cI, 8, .inl sr)), (sD, .inl (cI, 32, .inl sd)), (rA, .inl (cI, 16, .inl Rr)), (eC, .inl (cI, 128, .inl Cr)), (eA, .inl (cI, 2, .inl En)), (pA, .inl (cI, 2, .inl Pl)), (dA, .inl (cI, 2, .inl Dn)), (kA, .inl (cI, 2, .inl Kp)), (acA, .inl (cI, 240, .inl Ar))] H := by rw [← ew1, ← ew2, ← ew3]; exact hP
      have hD : va_D A [(m0, .inr (5, [.int th, .int (nI n), .ref oA, .ref aA, .ref bB, .ref cC, .int tl, .int (nI (k + (tm_wt an u r v z).length)), .ref gA, .ref zA, .ref bA, .ref sR, .ref sD, .ref rA, .ref eC, .ref eA, .ref pA, .ref dA, .ref kA, .ref acA, .int nx])), (oA, .inl (cI, 24, .inl Po)), (aA, .inl (cI, 24, .inl Pa)), (bB, .inl (cI, 24, .inl Pb)), (cC, .inl (cI, 24, .inl Pc)), (gA, .inl (cI, 1600, .inl (tm_pa tm_rw G k (tm_wt an u r v z)))), (zA, .inl (cZ, 400, .inl (tm_po O k (tm_wt an u r v z)))), (bA, .inl (cI, 25, .inl B)), (sR, .inl (cI, 8, .inl sr)), (sD, .inl (cI, 32, .inl sd)), (rA, .inl (cI, 16, .inl Rr)), (eC, .inl (cI, 128, .inl Cr)), (eA, .inl (cI, 2, .inl En)), (pA, .inl (cI, 2, .inl Pl)), (dA, .inl (cI, 2, .inl Dn)), (kA, .inl (cI, 2, .inl Kp)), (acA, .inl (cI, 240, .inl Ar))] := by rw [← ew1, ← ew2, ← ew3]; exact hD
      exact W.vret hx hb hr (fun t9 ht9 hW9 => ⟨⟨(), rfl, trivial, by rw [ht9]; exact hP, hD⟩, hS.F ht9⟩) hS.2.2 d_Mo_writes_39
