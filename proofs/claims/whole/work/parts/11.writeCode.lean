/-! TRANSLATION: writeCode (printed by wip/whole/gen/c11.py) -/
set_option maxHeartbeats 4000000 in
set_option maxRecDepth 100000 in
theorem c_Tr_writeCode (l : Launch) (D : va_G) (cI cZ cJ : ClassId) (t pL pF cL cF bA : Nat) (P F B : Nat → Int32) (n k : Nat) (hn : n ≤ 24) (hin : tm_in P n) (hok : tm_ok P n) : xw_Met l y_Tr_writeCode b_Tr_writeCode 3 none { frames := 5, cells := 0, slots := 0, locals := 121 } [.ref t] D cls (tyL cI cZ cJ) [(t, .inr (2, [.ref pL, .ref cL, .ref bA])), (pL, .inr (1, [.ref pF, .int (nI n)])), (pF, .inl (cI, 96, .inl P)), (cL, .inr (1, [.ref cF, .int (nI k)])), (cF, .inl (cI, 868, .inl F)), (bA, .inl (cI, 25, .inl B))] [(t, .inr (2, [.ref pL, .ref cL, .ref bA])), (pL, .inr (1, [.ref pF, .int (nI n)])), (pF, .inl (cI, 96, .inl P)), (cL, .inr (1, [.ref cF, .int (nI (tm_of P n n + 1))])), (cF, .inl (cI, 868, .inl (tm_p1 P n (tm_bg P n B (n + 1)) (tm_p1 P n B F)))), (bA, .inl (cI, 25, .inl (tm_bg P n (tm_bg P n B (n + 1)) (n + 1))))] := by
  intro sz
  refine Met.ofW (cc := b_Tr_writeCode) (maxL := 3) (ret := none) (by decide) rfl ?_
  intro p e s m args below meth c s₁ B0 hml hv
  obtain ⟨rfl, hsz, hP, hK, hD0⟩ := hv
  have hx := B0.exec
  have hb := B0.bytes
  have hr := B0.returns
  have hlocks := B0.notSynchronized
  have hg : ∀ w ∈ gG, w.before _ s = true := fun w h => atoms_spec B0.pre w (List.mem_cons_of_mem _ h)
  have hown : s.vm.findClass R_Tr = some m.cls := findClass_of_methodNamed B0.named
  subst hsz
  have hD := hD0.self (sz := s.heap.size)
  generalize hAe : va_A [(t, .inr (2, [.ref pL, .ref cL, .ref bA])), (pL, .inr (1, [.ref pF, .int (nI n)])), (pF, .inl (cI, 96, .inl P)), (cL, .inr (1, [.ref cF, .int (nI k)])), (cF, .inl (cI, 868, .inl F)), (bA, .inl (cI, 25, .inl B))] s.heap.size = A at hD ⊢
  have hA : ∀ q : Nat, s.heap.size ≤ q → A q := fun q h => by rw [← hAe]; exact Or.inr h
  have hS : va_S A s.heap s.heap [] := va_S.rf
  have hP : va_P D cls [(t, .inr (2, [.ref pL, .ref cL, .ref bA])), (pL, .inr (1, [.ref pF, .int (nI n)])), (pF, .inl (cI, 96, .inl P)), (cL, .inr (1, [.ref cF, .int (nI k)])), (cF, .inl (cI, 868, .inl F)), (bA, .inl (cI, 25, .inl B))] s.heap := hP
  have hl := lv_entry ([.ref t]) (n := 3) (Nat.le_of_ble_eq_true rfl)
  rw [lg_entry_eq]
  generalize (lg_sl ([.ref t]) ++ List.replicate (3 - (lg_sl ([.ref t])).length) Slot.unset).toArray = ls at hl ⊢
  have hl : lv_has ls 3 [(0, .ref t)] := hl
  have hfs := tm_fits hn hok
  refine lv_iconst (v := 0) hx hb d_Tr_writeCode_0 (by decide) ?_
  refine lv_istore_n hx hb d_Tr_writeCode_1 rfl hl (by decide) rfl (fun ls hl => ?_)
  have hl : lv_has ls 3 [(1, .int 0), (0, .ref t)] := hl
  have inner : ∀ (Bq Fq : Nat → Int32) (tt g j : Nat) (H : Heap) (locs : List Loc) (ls : Array Slot), j + g = n → lv_has ls 3 [(2, .int (nI j)), (1, .int (nI tt)), (0, .ref t)] → va_P D cls [(t, .inr (2, [.ref pL, .ref cL, .ref bA])), (pL, .inr (1, [.ref pF, .int (nI n)])), (pF, .inl (cI, 96, .inl P)), (cL, .inr (1, [.ref cF, .int (nI (tm_of P n j))])), (cF, .inl (cI, 868, .inl (tm_ps P n Bq Fq j))), (bA, .inl (cI, 25, .inl (tm_bg P n Bq j)))] H → va_D A [(t, .inr (2, [.ref pL, .ref cL, .ref bA])), (pL, .inr (1, [.ref pF, .int (nI n)])), (pF, .inl (cI, 96, .inl P)), (cL, .inr (1, [.ref cF, .int (nI (tm_of P n j))])), (cF, .inl (cI, 868, .inl (tm_ps P n Bq Fq j))), (bA, .inl (cI, 25, .inl (tm_bg P n Bq j)))] → va_S A s.heap H locs →
      (∀ (H : Heap) (locs : List Loc) (ls : Array Slot), lv_has ls 3 [(2, .int (nI n)), (1, .int (nI tt)), (0, .ref t)] → va_P D cls [(t, .inr (2, [.ref pL, .ref cL, .ref bA])), (pL, .inr (1, [.ref pF, .int (nI n)])), (pF, .inl (cI, 96, .inl P)), (cL, .inr (1, [.ref cF, .int (nI (tm_of P n n))])), (cF, .inl (cI, 868, .inl (tm_ps P n Bq Fq n))), (bA, .inl (cI, 25, .inl (tm_bg P n Bq n)))] H → va_D A [(t, .inr (2, [.ref pL, .ref cL, .ref bA])), (pL, .inr (1, [.ref pF, .int (nI n)])), (pF, .inl (cI, 96, .inl P)), (cL, .inr (1, [.ref cF, .int (nI (tm_of P n n))])), (cF, .inl (cI, 868, .inl (tm_ps P n Bq Fq n))), (bA, .inl (cI, 25, .inl (tm_bg P n Bq n)))] → va_S A s.heap H locs → W p l e (headSpec (Cond.code y_Tr_writeCode b_Tr_writeCode 3 none :: gG) { frames := 5, cells := 0, slots := 0, locals := 121 }).room s m ([.ref t] : List Value).toArray below meth c H locs 0 0 (MQ below (va_Qv (fun _ : Unit => True) (fun _ t9 => xw_B D cls [(t, .inr (2, [.ref pL, .ref cL, .ref bA])), (pL, .inr (1, [.ref pF, .int (nI n)])), (pF, .inl (cI, 96, .inl P)), (cL, .inr (1, [.ref cF, .int (nI (tm_of P n n + 1))])), (cF, .inl (cI, 868, .inl (tm_p1 P n (tm_bg P n B (n + 1)) (tm_p1 P n B F)))), (bA, .inl (cI, 25, .inl (tm_bg P n (tm_bg P n B (n + 1)) (n + 1))))] A t9) A) ([.ref t] : List Value).toArray s 0 0 A) (F0 m 51 ls [])) → W p l e (headSpec (Cond.code y_Tr_writeCode b_Tr_writeCode 3 none :: gG) { frames := 5, cells := 0, slots := 0, locals := 121 }).room s m ([.ref t] : List Value).toArray below meth c H locs 0 0 (MQ below (va_Qv (fun _ : Unit => True) (fun _ t9 => xw_B D cls [(t, .inr (2, [.ref pL, .ref cL, .ref bA])), (pL, .inr (1, [.ref pF, .int (nI n)])), (pF, .inl (cI, 96, .inl P)), (cL, .inr (1, [.ref cF, .int (nI (tm_of P n n + 1))])), (cF, .inl (cI, 868, .inl (tm_p1 P n (tm_bg P n B (n + 1)) (tm_p1 P n B F)))), (bA, .inl (cI, 25, .inl (tm_bg P n (tm_bg P n B (n + 1)) (n + 1))))] A t9) A) ([.ref t] : List Value).toArray s 0 0 A) (F0 m 16 ls []) := by
    intro Bq Fq tt g
    induction g with
    | zero =>
      intro j H locs ls hj hl hP hD hS hexit
      have ej : j = n := by omega
      subst ej
      refine lv_iload_n hx hb d_Tr_writeCode_16 rfl (lv_at hl 0 rfl) ?_
      refine lv_aload_n hx hb d_Tr_writeCode_17 rfl (lv_at hl 2 rfl) ?_
      refine va_get (D := D) (ci := 2) (v := .ref pL) (C := R_Tr) (T := F_Tr) (N := 3) hx hb hg f_Tr hown hK.1 hP 0 rfl rfl 0 (by decide) (hg _ q50) (fun _ h9 => h9) rfl d_Tr_writeCode_18 ?_
      refine va_get (D := D) (ci := 1) (v := .int (nI j)) (C := R_Li) (T := F_Li) (N := 2) hx hb hg f_Li hown hK.1 hP 1 rfl rfl 1 (by decide) (hg _ q33) (fun _ h9 => h9) rfl d_Tr_writeCode_21 ?_
      refine lv_icmp_ge (tgt := 51) hx hb d_Tr_writeCode_24 rfl (fun _ => ?_) (fun hz9 => absurd (nI_le (by omega) (by omega)) hz9)
      exact hexit H locs ls hl hP hD hS
    | succ g ih =>
      intro j H locs ls hj hl hP hD hS hexit
      refine lv_iload_n hx hb d_Tr_writeCode_16 rfl (lv_at hl 0 rfl) ?_
      refine lv_aload_n hx hb d_Tr_writeCode_17 rfl (lv_at hl 2 rfl) ?_
      refine va_get (D := D) (ci := 2) (v := .ref pL) (C := R_Tr) (T := F_Tr) (N := 3) hx hb hg f_Tr hown hK.1 hP 0 rfl rfl 0 (by decide) (hg _ q50) (fun _ h9 => h9) rfl d_Tr_writeCode_18 ?_
      refine va_get (D := D) (ci := 1) (v := .int (nI n)) (C := R_Li) (T := F_Li) (N := 2) hx hb hg f_Li hown hK.1 hP 1 rfl rfl 1 (by decide) (hg _ q33) (fun _ h9 => h9) rfl d_Tr_writeCode_21 ?_
      refine lv_icmp_ge (tgt := 51) hx hb d_Tr_writeCode_24 rfl (fun hz9 => absurd hz9 (nI_ge (by omega) (by omega))) (fun _ => ?_)
      refine lv_aload_n hx hb d_Tr_writeCode_27 rfl (lv_at hl 2 rfl) ?_
      refine va_get (D := D) (ci := 2) (v := .ref bA) (C := R_Tr) (T := F_Tr) (N := 3) hx hb hg f_Tr hown hK.1 hP 0 rfl rfl 2 (by decide) (hg _ q55) (fun _ h9 => h9) rfl d_Tr_writeCode_28 ?_
      refine lv_iload_n hx hb d_Tr_writeCode_31 rfl (lv_at hl 0 rfl) ?_
      refine lv_aload_n hx hb d_Tr_writeCode_32 rfl (lv_at hl 2 rfl) ?_
      refine va_get (D := D) (ci := 2) (v := .ref cL) (C := R_Tr) (T := F_Tr) (N := 3) hx hb hg f_Tr hown hK.1 hP 0 rfl rfl 1 (by decide) (hg _ q53) (fun _ h9 => h9) rfl d_Tr_writeCode_33 ?_
      refine va_get (D := D) (ci := 1) (v := .int (nI (tm_of P n j))) (C := R_Li) (T := F_Li) (N := 2) hx hb hg f_Li hown hK.1 hP 3 rfl rfl 1 (by decide) (hg _ q33) (fun _ h9 => h9) rfl d_Tr_writeCode_36 ?_
      refine xa_st hx hb hK hP hD hS 5 0 rfl rfl (kx := j) (rfl) (by omega) (by decide) d_Tr_writeCode_39 (fun H locs hP hD hS => ?_)
      have hP : va_P D cls [(t, .inr (2, [.ref pL, .ref cL, .ref bA])), (pL, .inr (1, [.ref pF, .int (nI n)])), (pF, .inl (cI, 96, .inl P)), (cL, .inr (1, [.ref cF, .int (nI (tm_of P n j))])), (cF, .inl (cI, 868, .inl (tm_ps P n Bq Fq j))), (bA, .inl (cI, 25, .inl (upd (tm_bg P n Bq j) j (nI (tm_of P n j)))))] H := hP
      have hD : va_D A [(t, .inr (2, [.ref pL, .ref cL, .ref bA])), (pL, .inr (1, [.ref pF, .int (nI n)])), (pF, .inl (cI, 96, .inl P)), (cL, .inr (1, [.ref cF, .int (nI (tm_of P n j))])), (cF, .inl (cI, 868, .inl (tm_ps P n Bq Fq j))), (bA, .inl (cI, 25, .inl (upd (tm_bg P n Bq j) j (nI (tm_of P n j)))))] := hD
      refine lv_aload_n hx hb d_Tr_writeCode_40 rfl (lv_at hl 2 rfl) ?_
      refine lv_iload_n hx hb d_Tr_writeCode_41 rfl (lv_at hl 0 rfl) ?_
      refine xw_go (w2 := [(t, .inr (2, [.ref pL, .ref cL, .ref bA])), (pL, .inr (1, [.ref pF, .int (nI n)])), (pF, .inl (cI, 96, .inl P)), (cL, .inr (1, [.ref cF, .int (nI ((tm_of P n j) + (tm_pl P n j).length))])), (cF, .inl (cI, 868, .inl (tm_pa (tm_rs (upd (tm_bg P n Bq j) j (nI (tm_of P n j)))) (tm_ps P n Bq Fq j) (tm_of P n j) (tm_pl P n j)))), (bA, .inl (cI, 25, .inl (upd (tm_bg P n Bq j) j (nI (tm_of P n j)))))]) (wr := []) (w1 := [(t, .inr (2, [.ref pL, .ref cL, .ref bA])), (pL, .inr (1, [.ref pF, .int (nI n)])), (pF, .inl (cI, 96, .inl P)), (cL, .inr (1, [.ref cF, .int (nI ((tm_of P n j) + (tm_pl P n j).length))])), (cF, .inl (cI, 868, .inl (tm_pa (tm_rs (upd (tm_bg P n Bq j) j (nI (tm_of P n j)))) (tm_ps P n Bq Fq j) (tm_of P n j) (tm_pl P n j)))), (bA, .inl (cI, 25, .inl (upd (tm_bg P n Bq j) j (nI (tm_of P n j)))))]) (va_runV (As := [.int (nI j)]) (rest := []) (C := R_Tr) ⟨hx, hb, hml, hown, hg⟩ (c_Tr_writePlace l D cI cZ cJ t pL pF cL cF bA P (tm_ps P n Bq Fq j) (upd (tm_bg P n Bq j) j (nI (tm_of P n j))) n (tm_of P n j) j (by omega) (by omega) (tm_gp_of hn hin hok (by omega)) H.size) ⟨xg_B hg m_Tr_writePlace.1 m_Tr_writePlace.2.2.1 m_Tr_writePlace.2.2.2.1 m_Tr_writePlace.2.2.2.2 q208 rfl rfl ⟨Nat.le_of_ble_eq_true rfl, Nat.le_of_ble_eq_true rfl⟩, hg _ m_Tr_writePlace.2.1, hg _ sp_Tr_writePlace⟩ ⟨xw_blind, (va_recv (q0 := 0) hK.1 hP rfl rfl), xw_pre hK hP hD [0, 1, 2, 3, 4, 5] (by decide) rfl⟩ rfl rfl hl.1 rfl (lv_room (Nat.le_of_ble_eq_true rfl)) d_Tr_writeCode_42 ⟨Nat.zero_le _, Nat.zero_le _⟩) hP hD hS hA [0, 1, 2, 3, 4, 5] [] [0, 1, 2, 3, 4, 5] rfl rfl (by decide) (by decide) rfl (by decide) (fun H locs hP hD hS => ?_)
      refine lv_iinc (k := 0) (v := nI (j + 1)) hx hb d_Tr_writeCode_45 hl rfl (xn_inc j 1 (by decide)) (by decide) rfl (fun ls hl => ?_)
      have hl : lv_has ls 3 [(2, .int (nI (j + 1))), (1, .int (nI tt)), (0, .ref t)] := hl
      refine lv_goto (tgt := 16) hx hb d_Tr_writeCode_48 rfl ?_
      have hP : va_P D cls [(t, .inr (2, [.ref pL, .ref cL, .ref bA])), (pL, .inr (1, [.ref pF, .int (nI n)])), (pF, .inl (cI, 96, .inl P)), (cL, .inr (1, [.ref cF, .int (nI ((tm_of P n j) + (tm_pl P n j).length))])), (cF, .inl (cI, 868, .inl (tm_pa (tm_rs (upd (tm_bg P n Bq j) j (nI (tm_of P n j)))) (tm_ps P n Bq Fq j) (tm_of P n j) (tm_pl P n j)))), (bA, .inl (cI, 25, .inl (upd (tm_bg P n Bq j) j (nI (tm_of P n j)))))] H := hP
      have hD : va_D A [(t, .inr (2, [.ref pL, .ref cL, .ref bA])), (pL, .inr (1, [.ref pF, .int (nI n)])), (pF, .inl (cI, 96, .inl P)), (cL, .inr (1, [.ref cF, .int (nI ((tm_of P n j) + (tm_pl P n j).length))])), (cF, .inl (cI, 868, .inl (tm_pa (tm_rs (upd (tm_bg P n Bq j) j (nI (tm_of P n j)))) (tm_ps P n Bq Fq j) (tm_of P n j) (tm_pl P n j)))), (bA, .inl (cI, 25, .inl (upd (tm_bg P n Bq j) j (nI (tm_of P n j)))))] := hD
      rw [tm_of_s] at hP hD
      exact ih (j + 1) H locs ls (by omega) (lv_sub hl [0, 1, 2] rfl) hP hD hS hexit
  refine lv_iload_n hx hb d_Tr_writeCode_2 rfl (lv_at hl 0 rfl) ?_
  refine lv_iconst (v := 2) hx hb d_Tr_writeCode_3 (by decide) ?_
  refine lv_icmp_ge (tgt := 87) hx hb d_Tr_writeCode_4 rfl (fun hz9 => absurd hz9 (by decide)) (fun _ => ?_)
  refine lv_aload_n hx hb d_Tr_writeCode_7 rfl (lv_at hl 1 rfl) ?_
  refine va_get (D := D) (ci := 2) (v := .ref cL) (C := R_Tr) (T := F_Tr) (N := 3) hx hb hg f_Tr hown hK.1 hP 0 rfl rfl 1 (by decide) (hg _ q53) (fun _ h9 => h9) rfl d_Tr_writeCode_8 ?_
  refine xw_go (w2 := [(t, .inr (2, [.ref pL, .ref cL, .ref bA])), (pL, .inr (1, [.ref pF, .int (nI n)])), (pF, .inl (cI, 96, .inl P)), (cL, .inr (1, [.ref cF, .int 0])), (cF, .inl (cI, 868, .inl F)), (bA, .inl (cI, 25, .inl B))]) (wr := [(t, .inr (2, [.ref pL, .ref cL, .ref bA])), (pL, .inr (1, [.ref pF, .int (nI n)])), (pF, .inl (cI, 96, .inl P)), (bA, .inl (cI, 25, .inl B))]) (w1 := [(cL, .inr (1, [.ref cF, .int 0])), (cF, .inl (cI, 868, .inl F))]) (va_runV (As := []) (rest := []) (C := R_Li) ⟨hx, hb, hml, hown, hg⟩ (c_Li_drop l D cI cZ cJ cL cF 868 F (nI k) s.heap.size) ⟨xg_B hg m_Li_drop.1 m_Li_drop.2.2.1 m_Li_drop.2.2.2.1 m_Li_drop.2.2.2.2 q207 rfl rfl ⟨Nat.le_of_ble_eq_true rfl, Nat.le_of_ble_eq_true rfl⟩, hg _ m_Li_drop.2.1, hg _ q165⟩ ⟨xw_blind, (va_recv (q0 := 3) hK.1 hP rfl rfl), xw_pre hK hP hD [3, 4] (by decide) rfl⟩ rfl rfl hl.1 rfl (lv_room (Nat.le_of_ble_eq_true rfl)) d_Tr_writeCode_11 ⟨Nat.zero_le _, Nat.zero_le _⟩) hP hD hS hA [3, 4] [0, 1, 2, 5] [0, 1, 2, 4, 5, 3] rfl rfl (by decide) (by decide) rfl (by decide) (fun H locs hP hD hS => ?_)
  refine lv_iconst (v := 0) hx hb d_Tr_writeCode_14 (by decide) ?_
  refine lv_istore_n hx hb d_Tr_writeCode_15 rfl hl (by decide) rfl (fun ls hl => ?_)
  have hl : lv_has ls 3 [(2, .int 0), (1, .int 0), (0, .ref t)] := hl
  refine inner B F 0 n 0 H locs ls (by omega) (lv_sub hl [0, 1, 2] rfl) hP hD hS (fun H locs ls hl hP hD hS => ?_)
  have hl : lv_has ls 3 [(2, .int (nI n)), (1, .int (nI 0)), (0, .ref t)] := hl
  refine lv_aload_n hx hb d_Tr_writeCode_51 rfl (lv_at hl 2 rfl) ?_
  refine va_get (D := D) (ci := 2) (v := .ref bA) (C := R_Tr) (T := F_Tr) (N := 3) hx hb hg f_Tr hown hK.1 hP 0 rfl rfl 2 (by decide) (hg _ q55) (fun _ h9 => h9) rfl d_Tr_writeCode_52 ?_
  refine lv_aload_n hx hb d_Tr_writeCode_55 rfl (lv_at hl 2 rfl) ?_
  refine va_get (D := D) (ci := 2) (v := .ref pL) (C := R_Tr) (T := F_Tr) (N := 3) hx hb hg f_Tr hown hK.1 hP 0 rfl rfl 0 (by decide) (hg _ q50) (fun _ h9 => h9) rfl d_Tr_writeCode_56 ?_
  refine va_get (D := D) (ci := 1) (v := .int (nI n)) (C := R_Li) (T := F_Li) (N := 2) hx hb hg f_Li hown hK.1 hP 1 rfl rfl 1 (by decide) (hg _ q33) (fun _ h9 => h9) rfl d_Tr_writeCode_59 ?_
  refine lv_aload_n hx hb d_Tr_writeCode_62 rfl (lv_at hl 2 rfl) ?_
  refine va_get (D := D) (ci := 2) (v := .ref cL) (C := R_Tr) (T := F_Tr) (N := 3) hx hb hg f_Tr hown hK.1 hP 0 rfl rfl 1 (by decide) (hg _ q53) (fun _ h9 => h9) rfl d_Tr_writeCode_63 ?_
  refine va_get (D := D) (ci := 1) (v := .int (nI (tm_of P n n))) (C := R_Li) (T := F_Li) (N := 2) hx hb hg f_Li hown hK.1 hP 3 rfl rfl 1 (by decide) (hg _ q33) (fun _ h9 => h9) rfl d_Tr_writeCode_66 ?_
  refine xa_st hx hb hK hP hD hS 5 0 rfl rfl (kx := n) (rfl) (by omega) (by decide) d_Tr_writeCode_69 (fun H locs hP hD hS => ?_)
  have hP : va_P D cls [(t, .inr (2, [.ref pL, .ref cL, .ref bA])), (pL, .inr (1, [.ref pF, .int (nI n)])), (pF, .inl (cI, 96, .inl P)), (cL, .inr (1, [.ref cF, .int (nI (tm_of P n n))])), (cF, .inl (cI, 868, .inl (tm_ps P n B F n))), (bA, .inl (cI, 25, .inl (upd (tm_bg P n B n) n (nI (tm_of P n n)))))] H := hP
  have hD : va_D A [(t, .inr (2, [.ref pL, .ref cL, .ref bA])), (pL, .inr (1, [.ref pF, .int (nI n)])), (pF, .inl (cI, 96, .inl P)), (cL, .inr (1, [.ref cF, .int (nI (tm_of P n n))])), (cF, .inl (cI, 868, .inl (tm_ps P n B F n))), (bA, .inl (cI, 25, .inl (upd (tm_bg P n B n) n (nI (tm_of P n n)))))] := hD
  refine lv_aload_n hx hb d_Tr_writeCode_70 rfl (lv_at hl 2 rfl) ?_
  refine va_get (D := D) (ci := 2) (v := .ref cL) (C := R_Tr) (T := F_Tr) (N := 3) hx hb hg f_Tr hown hK.1 hP 0 rfl rfl 1 (by decide) (hg _ q53) (fun _ h9 => h9) rfl d_Tr_writeCode_71 ?_
  refine lv_iconst (v := 0) hx hb d_Tr_writeCode_74 (by decide) ?_
  refine lv_iconst (v := 0) hx hb d_Tr_writeCode_75 (by decide) ?_
  refine lv_iconst (v := 0) hx hb d_Tr_writeCode_76 (by decide) ?_
  refine lv_iconst (v := 1) hx hb d_Tr_writeCode_77 (by decide) ?_
  refine xw_go (w2 := [(t, .inr (2, [.ref pL, .ref cL, .ref bA])), (pL, .inr (1, [.ref pF, .int (nI n)])), (pF, .inl (cI, 96, .inl P)), (cL, .inr (1, [.ref cF, .int (nI ((tm_of P n n) + 1))])), (cF, .inl (cI, 868, .inl (tm_w4 (tm_ps P n B F n) (tm_of P n n) 0 0 0 1))), (bA, .inl (cI, 25, .inl (upd (tm_bg P n B n) n (nI (tm_of P n n)))))]) (wr := [(t, .inr (2, [.ref pL, .ref cL, .ref bA])), (pL, .inr (1, [.ref pF, .int (nI n)])), (pF, .inl (cI, 96, .inl P)), (bA, .inl (cI, 25, .inl (upd (tm_bg P n B n) n (nI (tm_of P n n)))))]) (w1 := [(cL, .inr (1, [.ref cF, .int (nI ((tm_of P n n) + 1))])), (cF, .inl (cI, 868, .inl (tm_w4 (tm_ps P n B F n) (tm_of P n n) 0 0 0 1)))]) (va_runV (As := [.int 0, .int 0, .int 0, .int 1]) (rest := []) (C := R_Li) ⟨hx, hb, hml, hown, hg⟩ (c_Li_append l D cI cZ cJ cL cF 868 (tm_ps P n B F n) (tm_of P n n) 0 0 0 1 (by omega) (by omega) H.size) ⟨xg_B hg m_Li_append.1 m_Li_append.2.2.1 m_Li_append.2.2.2.1 m_Li_append.2.2.2.2 q212 rfl rfl ⟨Nat.le_of_ble_eq_true rfl, Nat.le_of_ble_eq_true rfl⟩, hg _ m_Li_append.2.1, hg _ q214⟩ ⟨xw_blind, (va_recv (q0 := 3) hK.1 hP rfl rfl), xw_pre hK hP hD [3, 4] (by decide) rfl⟩ rfl rfl hl.1 rfl (lv_room (Nat.le_of_ble_eq_true rfl)) d_Tr_writeCode_78 ⟨Nat.zero_le _, Nat.zero_le _⟩) hP hD hS hA [3, 4] [0, 1, 2, 5] [0, 1, 2, 4, 5, 3] rfl rfl (by decide) (by decide) rfl (by decide) (fun H locs hP hD hS => ?_)
  refine lv_iinc (k := 1) (v := 1) hx hb d_Tr_writeCode_81 hl rfl (rfl) (by decide) rfl (fun ls hl => ?_)
  have hl : lv_has ls 3 [(1, .int 1), (2, .int (nI n)), (0, .ref t)] := hl
  refine lv_goto (tgt := 2) hx hb d_Tr_writeCode_84 rfl ?_
  refine lv_iload_n hx hb d_Tr_writeCode_2 rfl (lv_at hl 0 rfl) ?_
  refine lv_iconst (v := 2) hx hb d_Tr_writeCode_3 (by decide) ?_
  refine lv_icmp_ge (tgt := 87) hx hb d_Tr_writeCode_4 rfl (fun hz9 => absurd hz9 (by decide)) (fun _ => ?_)
  refine lv_aload_n hx hb d_Tr_writeCode_7 rfl (lv_at hl 2 rfl) ?_
  refine va_get (D := D) (ci := 2) (v := .ref cL) (C := R_Tr) (T := F_Tr) (N := 3) hx hb hg f_Tr hown hK.1 hP 0 rfl rfl 1 (by decide) (hg _ q53) (fun _ h9 => h9) rfl d_Tr_writeCode_8 ?_
  refine xw_go (w2 := [(t, .inr (2, [.ref pL, .ref cL, .ref bA])), (pL, .inr (1, [.ref pF, .int (nI n)])), (pF, .inl (cI, 96, .inl P)), (cL, .inr (1, [.ref cF, .int 0])), (cF, .inl (cI, 868, .inl (tm_w4 (tm_ps P n B F n) (tm_of P n n) 0 0 0 1))), (bA, .inl (cI, 25, .inl (upd (tm_bg P n B n) n (nI (tm_of P n n)))))]) (wr := [(t, .inr (2, [.ref pL, .ref cL, .ref bA])), (pL, .inr (1, [.ref pF, .int (nI n)])), (pF, .inl (cI, 96, .inl P)), (bA, .inl (cI, 25, .inl (upd (tm_bg P n B n) n (nI (tm_of P n n)))))]) (w1 := [(cL, .inr (1, [.ref cF, .int 0])), (cF, .inl (cI, 868, .inl (tm_w4 (tm_ps P n B F n) (tm_of P n n) 0 0 0 1)))]) (va_runV (As := []) (rest := []) (C := R_Li) ⟨hx, hb, hml, hown, hg⟩ (c_Li_drop l D cI cZ cJ cL cF 868 (tm_w4 (tm_ps P n B F n) (tm_of P n n) 0 0 0 1) (nI ((tm_of P n n) + 1)) H.size) ⟨xg_B hg m_Li_drop.1 m_Li_drop.2.2.1 m_Li_drop.2.2.2.1 m_Li_drop.2.2.2.2 q207 rfl rfl ⟨Nat.le_of_ble_eq_true rfl, Nat.le_of_ble_eq_true rfl⟩, hg _ m_Li_drop.2.1, hg _ q165⟩ ⟨xw_blind, (va_recv (q0 := 3) hK.1 hP rfl rfl), xw_pre hK hP hD [3, 4] (by decide) rfl⟩ rfl rfl hl.1 rfl (lv_room (Nat.le_of_ble_eq_true rfl)) d_Tr_writeCode_11 ⟨Nat.zero_le _, Nat.zero_le _⟩) hP hD hS hA [3, 4] [0, 1, 2, 5] [0, 1, 2, 4, 5, 3] rfl rfl (by decide) (by decide) rfl (by decide) (fun H locs hP hD hS => ?_)
  refine lv_iconst (v := 0) hx hb d_Tr_writeCode_14 (by decide) ?_
  refine lv_istore_n hx hb d_Tr_writeCode_15 rfl hl (by decide) rfl (fun ls hl => ?_)
  have hl : lv_has ls 3 [(2, .int 0), (1, .int 1), (0, .ref t)] := hl
  refine inner (tm_bg P n B (n + 1)) (tm_p1 P n B F) 1 n 0 H locs ls (by omega) (lv_sub hl [0, 1, 2] rfl) hP hD hS (fun H locs ls hl hP hD hS => ?_)
  have hl : lv_has ls 3 [(2, .int (nI n)), (1, .int (nI 1)), (0, .ref t)] := hl
  refine lv_aload_n hx hb d_Tr_writeCode_51 rfl (lv_at hl 2 rfl) ?_
  refine va_get (D := D) (ci := 2) (v := .ref bA) (C := R_Tr) (T := F_Tr) (N := 3) hx hb hg f_Tr hown hK.1 hP 0 rfl rfl 2 (by decide) (hg _ q55) (fun _ h9 => h9) rfl d_Tr_writeCode_52 ?_
  refine lv_aload_n hx hb d_Tr_writeCode_55 rfl (lv_at hl 2 rfl) ?_
  refine va_get (D := D) (ci := 2) (v := .ref pL) (C := R_Tr) (T := F_Tr) (N := 3) hx hb hg f_Tr hown hK.1 hP 0 rfl rfl 0 (by decide) (hg _ q50) (fun _ h9 => h9) rfl d_Tr_writeCode_56 ?_
  refine va_get (D := D) (ci := 1) (v := .int (nI n)) (C := R_Li) (T := F_Li) (N := 2) hx hb hg f_Li hown hK.1 hP 1 rfl rfl 1 (by decide) (hg _ q33) (fun _ h9 => h9) rfl d_Tr_writeCode_59 ?_
  refine lv_aload_n hx hb d_Tr_writeCode_62 rfl (lv_at hl 2 rfl) ?_
  refine va_get (D := D) (ci := 2) (v := .ref cL) (C := R_Tr) (T := F_Tr) (N := 3) hx hb hg f_Tr hown hK.1 hP 0 rfl rfl 1 (by decide) (hg _ q53) (fun _ h9 => h9) rfl d_Tr_writeCode_63 ?_
  refine va_get (D := D) (ci := 1) (v := .int (nI (tm_of P n n))) (C := R_Li) (T := F_Li) (N := 2) hx hb hg f_Li hown hK.1 hP 3 rfl rfl 1 (by decide) (hg _ q33) (fun _ h9 => h9) rfl d_Tr_writeCode_66 ?_
  refine xa_st hx hb hK hP hD hS 5 0 rfl rfl (kx := n) (rfl) (by omega) (by decide) d_Tr_writeCode_69 (fun H locs hP hD hS => ?_)
  have hP : va_P D cls [(t, .inr (2, [.ref pL, .ref cL, .ref bA])), (pL, .inr (1, [.ref pF, .int (nI n)])), (pF, .inl (cI, 96, .inl P)), (cL, .inr (1, [.ref cF, .int (nI (tm_of P n n))])), (cF, .inl (cI, 868, .inl (tm_ps P n (tm_bg P n B (n + 1)) (tm_p1 P n B F) n))), (bA, .inl (cI, 25, .inl (upd (tm_bg P n (tm_bg P n B (n + 1)) n) n (nI (tm_of P n n)))))] H := hP
  have hD : va_D A [(t, .inr (2, [.ref pL, .ref cL, .ref bA])), (pL, .inr (1, [.ref pF, .int (nI n)])), (pF, .inl (cI, 96, .inl P)), (cL, .inr (1, [.ref cF, .int (nI (tm_of P n n))])), (cF, .inl (cI, 868, .inl (tm_ps P n (tm_bg P n B (n + 1)) (tm_p1 P n B F) n))), (bA, .inl (cI, 25, .inl (upd (tm_bg P n (tm_bg P n B (n + 1)) n) n (nI (tm_of P n n)))))] := hD
  refine lv_aload_n hx hb d_Tr_writeCode_70 rfl (lv_at hl 2 rfl) ?_
  refine va_get (D := D) (ci := 2) (v := .ref cL) (C := R_Tr) (T := F_Tr) (N := 3) hx hb hg f_Tr hown hK.1 hP 0 rfl rfl 1 (by decide) (hg _ q53) (fun _ h9 => h9) rfl d_Tr_writeCode_71 ?_
  refine lv_iconst (v := 0) hx hb d_Tr_writeCode_74 (by decide) ?_
  refine lv_iconst (v := 0) hx hb d_Tr_writeCode_75 (by decide) ?_
  refine lv_iconst (v := 0) hx hb d_Tr_writeCode_76 (by decide) ?_
  refine lv_iconst (v := 1) hx hb d_Tr_writeCode_77 (by decide) ?_
  refine xw_go (w2 := [(t, .inr (2, [.ref pL, .ref cL, .ref bA])), (pL, .inr (1, [.ref pF, .int (nI n)])), (pF, .inl (cI, 96, .inl P)), (cL, .inr (1, [.ref cF, .int (nI ((tm_of P n n) + 1))])), (cF, .inl (cI, 868, .inl (tm_w4 (tm_ps P n (tm_bg P n B (n + 1)) (tm_p1 P n B F) n) (tm_of P n n) 0 0 0 1))), (bA, .inl (cI, 25, .inl (upd (tm_bg P n (tm_bg P n B (n + 1)) n) n (nI (tm_of P n n)))))]) (wr := [(t, .inr (2, [.ref pL, .ref cL, .ref bA])), (pL, .inr (1, [.ref pF, .int (nI n)])), (pF, .inl (cI, 96, .inl P)), (bA, .inl (cI, 25, .inl (upd (tm_bg P n (tm_bg P n B (n + 1)) n) n (nI (tm_of P n n)))))]) (w1 := [(cL, .inr (1, [.ref cF, .int (nI ((tm_of P n n) + 1))])), (cF, .inl (cI, 868, .inl (tm_w4 (tm_ps P n (tm_bg P n B (n + 1)) (tm_p1 P n B F) n) (tm_of P n n) 0 0 0 1)))]) (va_runV (As := [.int 0, .int 0, .int 0, .int 1]) (rest := []) (C := R_Li) ⟨hx, hb, hml, hown, hg⟩ (c_Li_append l D cI cZ cJ cL cF 868 (tm_ps P n (tm_bg P n B (n + 1)) (tm_p1 P n B F) n) (tm_of P n n) 0 0 0 1 (by omega) (by omega) H.size) ⟨xg_B hg m_Li_append.1 m_Li_append.2.2.1 m_Li_append.2.2.2.1 m_Li_append.2.2.2.2 q212 rfl rfl ⟨Nat.le_of_ble_eq_true rfl, Nat.le_of_ble_eq_true rfl⟩, hg _ m_Li_append.2.1, hg _ q214⟩ ⟨xw_blind, (va_recv (q0 := 3) hK.1 hP rfl rfl), xw_pre hK hP hD [3, 4] (by decide) rfl⟩ rfl rfl hl.1 rfl (lv_room (Nat.le_of_ble_eq_true rfl)) d_Tr_writeCode_78 ⟨Nat.zero_le _, Nat.zero_le _⟩) hP hD hS hA [3, 4] [0, 1, 2, 5] [0, 1, 2, 4, 5, 3] rfl rfl (by decide) (by decide) rfl (by decide) (fun H locs hP hD hS => ?_)
  refine lv_iinc (k := 1) (v := 2) hx hb d_Tr_writeCode_81 hl rfl (rfl) (by decide) rfl (fun ls hl => ?_)
  have hl : lv_has ls 3 [(1, .int 2), (2, .int (nI n)), (0, .ref t)] := hl
  refine lv_goto (tgt := 2) hx hb d_Tr_writeCode_84 rfl ?_
  refine lv_iload_n hx hb d_Tr_writeCode_2 rfl (lv_at hl 0 rfl) ?_
  refine lv_iconst (v := 2) hx hb d_Tr_writeCode_3 (by decide) ?_
  refine lv_icmp_ge (tgt := 87) hx hb d_Tr_writeCode_4 rfl (fun _ => ?_) (fun hz9 => absurd (by decide) hz9)
  have ew1 : nI ((tm_of P n n) + 1) = nI (tm_of P n n + 1) := congrArg nI (by first | (simp []; done) | (simp []; omega) | omega)
  have ew2 : tm_w4 (tm_ps P n (tm_bg P n B (n + 1)) (tm_p1 P n B F) n) (tm_of P n n) 0 0 0 1 = tm_p1 P n (tm_bg P n B (n + 1)) (tm_p1 P n B F) := by first | rfl | simp []
  have ew3 : upd (tm_bg P n (tm_bg P n B (n + 1)) n) n (nI (tm_of P n n)) = tm_bg P n (tm_bg P n B (n + 1)) (n + 1) := by first | rfl | simp []
  have hP : va_P D cls [(t, .inr (2, [.ref pL, .ref cL, .ref bA])), (pL, .inr (1, [.ref pF, .int (nI n)])), (pF, .inl (cI, 96, .inl P)), (cL, .inr (1, [.ref cF, .int (nI (tm_of P n n + 1))])), (cF, .inl (cI, 868, .inl (tm_p1 P n (tm_bg P n B (n + 1)) (tm_p1 P n B F)))), (bA, .inl (cI, 25, .inl (tm_bg P n (tm_bg P n B (n + 1)) (n + 1))))] H := by rw [← ew1, ← ew2, ← ew3]; exact hP
  have hD : va_D A [(t, .inr (2, [.ref pL, .ref cL, .ref bA])), (pL, .inr (1, [.ref pF, .int (nI n)])), (pF, .inl (cI, 96, .inl P)), (cL, .inr (1, [.ref cF, .int (nI (tm_of P n n + 1))])), (cF, .inl (cI, 868, .inl (tm_p1 P n (tm_bg P n B (n + 1)) (tm_p1 P n B F)))), (bA, .inl (cI, 25, .inl (tm_bg P n (tm_bg P n B (n + 1)) (n + 1))))] := by rw [← ew1, ← ew2, ← ew3]; exact hD
  exact W.vret hx hb hr (fun t9 ht9 hW9 => ⟨⟨(), rfl, trivial, by rw [ht9]; exact hP, hD⟩, hS.F ht9⟩) hS.2.2 d_Tr_writeCode_87
