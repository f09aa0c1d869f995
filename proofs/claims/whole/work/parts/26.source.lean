/-! THE REFERENCE: a turn of the source (printed by wip/whole/gen/c26.py) -/
set_option maxHeartbeats 4000000 in
set_option maxRecDepth 100000 in
theorem c_Mo_source (l : Launch) (D : va_G) (cI cZ cJ : ClassId) (m0 oA aA bB cC gA zA bA sR sD rA eC eA pA dA kA acA : Nat) (Po Pa Pb Pc G O B sr sd R0 R1 C0 C1 A0 A1 : Nat → Int32) (n k k0 k1 : Nat) (th tl nx e0 e1 h0 h1 d0 d1 : Int32) (P : Nat → Int32) (q v a b : Nat) (hPo : ∀ i, Po i = P (4 * i)) (hPa : ∀ i, Pa i = P (4 * i + 1)) (hPb : ∀ i, Pb i = P (4 * i + 2)) (hPc : ∀ i, Pc i = P (4 * i + 3)) (hn : n ≤ 24) (hq : q < n) (hv : P (4 * q) = nI v) (hv15 : v ≤ 15) (ha : P (4 * q + 1) = nI a) (ha8 : a < 8) (hbb : P (4 * q + 2) = nI b) (hb8 : b < 8) (hcs : tm_sh (P (4 * q + 3))) (hR0 : R0 0 = 0) (hsh : ∀ i, i < 8 → tm_sh (R0 i)) (hkp : k0 ≤ 40) : xw_Met l y_Mo_source b_Mo_source 7 none { frames := 2, cells := 0, slots := 0, locals := 48 } [.ref m0] D cls (tyL cI cZ cJ) [(m0, .inr (5, [.int th, .int (nI n), .ref oA, .ref aA, .ref bB, .ref cC, .int tl, .int (nI k), .ref gA, .ref zA, .ref bA, .ref sR, .ref sD, .ref rA, .ref eC, .ref eA, .ref pA, .ref dA, .ref kA, .ref acA, .int nx])), (oA, .inl (cI, 24, .inl Po)), (aA, .inl (cI, 24, .inl Pa)), (bB, .inl (cI, 24, .inl Pb)), (cC, .inl (cI, 24, .inl Pc)), (gA, .inl (cI, 1600, .inl G)), (zA, .inl (cZ, 400, .inl O)), (bA, .inl (cI, 25, .inl B)), (sR, .inl (cI, 8, .inl sr)), (sD, .inl (cI, 32, .inl sd)), (rA, .inl (cI, 16, .inl (tm_jn 8 R0 R1))), (eC, .inl (cI, 128, .inl (tm_jn 64 C0 C1))), (eA, .inl (cI, 2, .inl (tm_tw e0 e1))), (pA, .inl (cI, 2, .inl (tm_tw (nI q) h1))), (dA, .inl (cI, 2, .inl (tm_tw d0 d1))), (kA, .inl (cI, 2, .inl (tm_tw (nI k0) (nI k1)))), (acA, .inl (cI, 240, .inl (tm_jn 120 A0 A1)))] [(m0, .inr (5, [.int th, .int (nI n), .ref oA, .ref aA, .ref bB, .ref cC, .int tl, .int (nI k), .ref gA, .ref zA, .ref bA, .ref sR, .ref sD, .ref rA, .ref eC, .ref eA, .ref pA, .ref dA, .ref kA, .ref acA, .int ((tm_ss P q (R0, C0, A0, k0, nI q, d0, e0, nx)).2.2.2.2.2.2.2)])), (oA, .inl (cI, 24, .inl Po)), (aA, .inl (cI, 24, .inl Pa)), (bB, .inl (cI, 24, .inl Pb)), (cC, .inl (cI, 24, .inl Pc)), (gA, .inl (cI, 1600, .inl G)), (zA, .inl (cZ, 400, .inl O)), (bA, .inl (cI, 25, .inl B)), (sR, .inl (cI, 8, .inl sr)), (sD, .inl (cI, 32, .inl sd)), (rA, .inl (cI, 16, .inl (tm_jn 8 ((tm_ss P q (R0, C0, A0, k0, nI q, d0, e0, nx)).1) R1))), (eC, .inl (cI, 128, .inl (tm_jn 64 ((tm_ss P q (R0, C0, A0, k0, nI q, d0, e0, nx)).2.1) C1))), (eA, .inl (cI, 2, .inl (tm_tw ((tm_ss P q (R0, C0, A0, k0, nI q, d0, e0, nx)).2.2.2.2.2.2.1) e1))), (pA, .inl (cI, 2, .inl (tm_tw ((tm_ss P q (R0, C0, A0, k0, nI q, d0, e0, nx)).2.2.2.2.1) h1))), (dA, .inl (cI, 2, .inl (tm_tw ((tm_ss P q (R0, C0, A0, k0, nI q, d0, e0, nx)).2.2.2.2.2.1) d1))), (kA, .inl (cI, 2, .inl (tm_tw (nI (tm_ss P q (R0, C0, A0, k0, nI q, d0, e0, nx)).2.2.2.1) (nI k1)))), (acA, .inl (cI, 240, .inl (tm_jn 120 ((tm_ss P q (R0, C0, A0, k0, nI q, d0, e0, nx)).2.2.1) A1)))] := by
  intro sz
  refine Met.ofW (cc := b_Mo_source) (maxL := 7) (ret := none) (by decide) rfl ?_
  intro p e s m args below meth c s₁ B0 hml hv
  obtain ⟨rfl, hsz, hP, hK, hD0⟩ := hv
  have hx := B0.exec
  have hb := B0.bytes
  have hr := B0.returns
  have hlocks := B0.notSynchronized
  have hg : ∀ w ∈ gG, w.before _ s = true := fun w h => atoms_spec B0.pre w (List.mem_cons_of_mem _ h)
  have hown : s.vm.findClass R_Mo = some m.cls := findClass_of_methodNamed B0.named
  subst hsz
  have hD := hD0.self (sz := s.heap.size)
  generalize hAe : va_A [(m0, .inr (5, [.int th, .int (nI n), .ref oA, .ref aA, .ref bB, .ref cC, .int tl, .int (nI k), .ref gA, .ref zA, .ref bA, .ref sR, .ref sD, .ref rA, .ref eC, .ref eA, .ref pA, .ref dA, .ref kA, .ref acA, .int nx])), (oA, .inl (cI, 24, .inl Po)), (aA, .inl (cI, 24, .inl Pa)), (bB, .inl (cI, 24, .inl Pb)), (cC, .inl (cI, 24, .inl Pc)), (gA, .inl (cI, 1600, .inl G)), (zA, .inl (cZ, 400, .inl O)), (bA, .inl (cI, 25, .inl B)), (sR, .inl (cI, 8, .inl sr)), (sD, .inl (cI, 32, .inl sd)), (rA, .inl (cI, 16, .inl (tm_jn 8 R0 R1))), (eC, .inl (cI, 128, .inl (tm_jn 64 C0 C1))), (eA, .inl (cI, 2, .inl (tm_tw e0 e1))), (pA, .inl (cI, 2, .inl (tm_tw (nI q) h1))), (dA, .inl (cI, 2, .inl (tm_tw d0 d1))), (kA, .inl (cI, 2, .inl (tm_tw (nI k0) (nI k1)))), (acA, .inl (cI, 240, .inl (tm_jn 120 A0 A1)))] s.heap.size = A at hD ⊢
  have hA : ∀ q : Nat, s.heap.size ≤ q → A q := fun q h => by rw [← hAe]; exact Or.inr h
  have hS : va_S A s.heap s.heap [] := va_S.rf
  have hP : va_P D cls [(m0, .inr (5, [.int th, .int (nI n), .ref oA, .ref aA, .ref bB, .ref cC, .int tl, .int (nI k), .ref gA, .ref zA, .ref bA, .ref sR, .ref sD, .ref rA, .ref eC, .ref eA, .ref pA, .ref dA, .ref kA, .ref acA, .int nx])), (oA, .inl (cI, 24, .inl Po)), (aA, .inl (cI, 24, .inl Pa)), (bB, .inl (cI, 24, .inl Pb)), (cC, .inl (cI, 24, .inl Pc)), (gA, .inl (cI, 1600, .inl G)), (zA, .inl (cZ, 400, .inl O)), (bA, .inl (cI, 25, .inl B)), (sR, .inl (cI, 8, .inl sr)), (sD, .inl (cI, 32, .inl sd)), (rA, .inl (cI, 16, .inl (tm_jn 8 R0 R1))), (eC, .inl (cI, 128, .inl (tm_jn 64 C0 C1))), (eA, .inl (cI, 2, .inl (tm_tw e0 e1))), (pA, .inl (cI, 2, .inl (tm_tw (nI q) h1))), (dA, .inl (cI, 2, .inl (tm_tw d0 d1))), (kA, .inl (cI, 2, .inl (tm_tw (nI k0) (nI k1)))), (acA, .inl (cI, 240, .inl (tm_jn 120 A0 A1)))] s.heap := hP
  have hl := lv_entry ([.ref m0]) (n := 7) (Nat.le_of_ble_eq_true rfl)
  rw [lg_entry_eq]
  generalize (lg_sl ([.ref m0]) ++ List.replicate (7 - (lg_sl ([.ref m0])).length) Slot.unset).toArray = ls at hl ⊢
  have hl : lv_has ls 7 [(0, .ref m0)] := hl
  have hc_a : (nI a).toNatClampNeg = a := nI_clamp (by omega)
  have hc_b : (nI b).toNatClampNeg = b := nI_clamp (by omega)
  obtain ⟨w, hw8, hw7⟩ := tm_and7 (P (4 * q + 3))
  have hc_w : (nI w).toNatClampNeg = w := nI_clamp (by omega)
  have h77 : nI 7 = (7 : Int32) := rfl
  rcases (show 14 ≤ v ∨ v = 0 ∨ (1 ≤ v ∧ v ≤ 4) ∨ v = 5 ∨ v = 6 ∨ v = 7 ∨ v = 8 ∨ v = 9 ∨ v = 10 ∨ v = 11 ∨ v = 12 ∨ v = 13 by omega) with hcase | hcase | hcase | hcase | hcase | hcase | hcase | hcase | hcase | hcase | hcase | hcase
  · have f13 : 13 < nI v := nI_lt (a := 13) (b := v) (by omega) (by omega)
    refine lv_aload_n hx hb d_Mo_source_0 rfl (lv_at hl 0 rfl) ?_
    refine va_get (D := D) (ci := 5) (v := .ref pA) (C := R_Mo) (T := F_Mo) (N := 21) hx hb hg f_Mo hown hK.1 hP 0 rfl rfl 16 (by decide) (hg _ q579) (fun _ h9 => h9) rfl d_Mo_source_1 ?_
    refine lv_iconst (v := 0) hx hb d_Mo_source_4 (by decide) ?_
    refine xa_ld hx hb hK hP 13 0 rfl rfl (kx := 0) (rfl) (by decide) (by decide) d_Mo_source_5 ?_
    have eq9 : ((tm_tw (nI q) h1) 0 : Int32) = nI q := rfl
    refine W.eq (g2 := F0 m 6 ls [.int (nI q)]) (by rw [eq9]) ?_
    refine lv_istore_n hx hb d_Mo_source_6 rfl hl (by decide) rfl (fun ls hl => ?_)
    have hl : lv_has ls 7 [(1, .int (nI q)), (0, .ref m0)] := hl
    refine lv_iload_n hx hb d_Mo_source_7 rfl (lv_at hl 0 rfl) ?_
    refine lv_iconst (v := 0) hx hb d_Mo_source_8 (by decide) ?_
    refine lv_aload_n hx hb d_Mo_source_9 rfl (lv_at hl 1 rfl) ?_
    refine va_get (D := D) (ci := 5) (v := .int (nI n)) (C := R_Mo) (T := F_Mo) (N := 21) hx hb hg f_Mo hown hK.1 hP 0 rfl rfl 1 (by decide) (hg _ q564) (fun _ h9 => h9) rfl d_Mo_source_10 ?_
    refine lv_iconst (v := 1) hx hb d_Mo_source_13 (by decide) ?_
    refine lv_isub hx hb d_Mo_source_14 ?_
    have eq9 : ((nI n) - 1 : Int32) = nI (n - 1) := pk_sub (a := n) (b := 1) (by omega)
    refine W.eq (g2 := F0 m 15 ls [.int (nI (n - 1)), .int 0, .int (nI q)]) (by rw [eq9]) ?_
    refine xr_S (As := [.int (nI q), .int 0, .int (nI (n - 1))]) (rest := []) ⟨hx, hb, hml, hown, hg⟩ (c_Mo_in l D cI cZ cJ (nI q) 0 (nI (n - 1))) m_Mo_in q636 ⟨rfl, rfl⟩ ⟨Nat.le_of_ble_eq_true rfl, Nat.le_of_ble_eq_true rfl⟩ hK hP [] rfl rfl hl.1 rfl (Nat.le_of_ble_eq_true rfl) d_Mo_source_15 ⟨Nat.zero_le _, Nat.zero_le _⟩ ?_
    refine lv_if_eq (tgt := 30) hx hb d_Mo_source_18 rfl (fun hz9 => absurd hz9 (tm_wi_y (nI_le (a := 0) (b := q) (by omega) (by omega)) (nI_le (a := q) (b := n - 1) (by omega) (by omega)))) (fun _ => ?_)
    refine lv_aload_n hx hb d_Mo_source_21 rfl (lv_at hl 1 rfl) ?_
    refine va_get (D := D) (ci := 5) (v := .ref oA) (C := R_Mo) (T := F_Mo) (N := 21) hx hb hg f_Mo hown hK.1 hP 0 rfl rfl 2 (by decide) (hg _ q565) (fun _ h9 => h9) rfl d_Mo_source_22 ?_
    refine lv_iload_n hx hb d_Mo_source_25 rfl (lv_at hl 0 rfl) ?_
    refine xa_ld hx hb hK hP 1 0 rfl rfl (kx := q) (rfl) (by omega) (by decide) d_Mo_source_26 ?_
    have eq9 : (Po q : Int32) = P (4 * q) := hPo q
    refine W.eq (g2 := F0 m 27 ls [.int (P (4 * q))]) (by rw [eq9]) ?_
    refine lv_goto (tgt := 32) hx hb d_Mo_source_27 rfl ?_
    have eq9 : (P (4 * q) : Int32) = nI v := hv
    refine W.eq (g2 := F0 m 32 ls [.int (nI v)]) (by rw [eq9]) ?_
    refine lv_istore_n hx hb d_Mo_source_32 rfl hl (by decide) rfl (fun ls hl => ?_)
    have hl : lv_has ls 7 [(2, .int (nI v)), (1, .int (nI q)), (0, .ref m0)] := hl
    refine lv_iload_n hx hb d_Mo_source_33 rfl (lv_at hl 0 rfl) ?_
    refine lv_bipush (v := 13) hx hb d_Mo_source_34 (by decide) ?_
    refine lv_icmp_le (tgt := 43) hx hb d_Mo_source_36 rfl (fun hz9 => absurd hz9 (nI_ge (a := 13) (b := v) (by omega) (by omega))) (fun _ => ?_)
    refine lv_iconst (v := 0) hx hb d_Mo_source_39 (by decide) ?_
    refine lv_goto (tgt := 54) hx hb d_Mo_source_40 rfl ?_
    refine lv_istore_n hx hb d_Mo_source_54 rfl hl (by decide) rfl (fun ls hl => ?_)
    have hl : lv_has ls 7 [(3, .int 0), (2, .int (nI v)), (1, .int (nI q)), (0, .ref m0)] := hl
    refine lv_iload_n hx hb d_Mo_source_55 rfl (lv_at hl 1 rfl) ?_
    refine lv_bipush (v := 13) hx hb d_Mo_source_56 (by decide) ?_
    refine lv_icmp_le (tgt := 65) hx hb d_Mo_source_58 rfl (fun hz9 => absurd hz9 (nI_ge (a := 13) (b := v) (by omega) (by omega))) (fun _ => ?_)
    refine lv_iconst (v := 0) hx hb d_Mo_source_61 (by decide) ?_
    refine lv_goto (tgt := 76) hx hb d_Mo_source_62 rfl ?_
    refine lv_istore hx hb d_Mo_source_76 hl (by decide) rfl (fun ls hl => ?_)
    have hl : lv_has ls 7 [(4, .int 0), (3, .int 0), (2, .int (nI v)), (1, .int (nI q)), (0, .ref m0)] := hl
    refine lv_iload_n hx hb d_Mo_source_78 rfl (lv_at hl 2 rfl) ?_
    refine lv_bipush (v := 13) hx hb d_Mo_source_79 (by decide) ?_
    refine lv_icmp_le (tgt := 88) hx hb d_Mo_source_81 rfl (fun hz9 => absurd hz9 (nI_ge (a := 13) (b := v) (by omega) (by omega))) (fun _ => ?_)
    refine lv_iconst (v := 0) hx hb d_Mo_source_84 (by decide) ?_
    refine lv_goto (tgt := 100) hx hb d_Mo_source_85 rfl ?_
    refine lv_istore hx hb d_Mo_source_100 hl (by decide) rfl (fun ls hl => ?_)
    have hl : lv_has ls 7 [(5, .int 0), (4, .int 0), (3, .int 0), (2, .int (nI v)), (1, .int (nI q)), (0, .ref m0)] := hl
    refine lv_iload_n hx hb d_Mo_source_102 rfl (lv_at hl 3 rfl) ?_
    refine lv_bipush (v := 13) hx hb d_Mo_source_103 (by decide) ?_
    refine lv_icmp_gt (tgt := 131) hx hb d_Mo_source_105 rfl (fun _ => ?_) (fun hz9 => absurd (f13) hz9)
    refine lv_aload_n hx hb d_Mo_source_131 rfl (lv_at hl 5 rfl) ?_
    refine va_get (D := D) (ci := 5) (v := .ref eA) (C := R_Mo) (T := F_Mo) (N := 21) hx hb hg f_Mo hown hK.1 hP 0 rfl rfl 15 (by decide) (hg _ q578) (fun _ h9 => h9) rfl d_Mo_source_132 ?_
    refine lv_iconst (v := 0) hx hb d_Mo_source_135 (by decide) ?_
    refine lv_iconst (v := 2) hx hb d_Mo_source_136 (by decide) ?_
    refine xa_st hx hb hK hP hD hS 12 0 rfl rfl (kx := 0) (rfl) (by decide) (by decide) d_Mo_source_137 (fun H locs hP hD hS => ?_)
    have hP : va_P D cls [(m0, .inr (5, [.int th, .int (nI n), .ref oA, .ref aA, .ref bB, .ref cC, .int tl, .int (nI k), .ref gA, .ref zA, .ref bA, .ref sR, .ref sD, .ref rA, .ref eC, .ref eA, .ref pA, .ref dA, .ref kA, .ref acA, .int nx])), (oA, .inl (cI, 24, .inl Po)), (aA, .inl (cI, 24, .inl Pa)), (bB, .inl (cI, 24, .inl Pb)), (cC, .inl (cI, 24, .inl Pc)), (gA, .inl (cI, 1600, .inl G)), (zA, .inl (cZ, 400, .inl O)), (bA, .inl (cI, 25, .inl B)), (sR, .inl (cI, 8, .inl sr)), (sD, .inl (cI, 32, .inl sd)), (rA, .inl (cI, 16, .inl (tm_jn 8 R0 R1))), (eC, .inl (cI, 128, .inl (tm_jn 64 C0 C1))), (eA, .inl (cI, 2, .inl (upd (tm_tw e0 e1) 0 2))), (pA, .inl (cI, 2, .inl (tm_tw (nI q) h1))), (dA, .inl (cI, 2, .inl (tm_tw d0 d1))), (kA, .inl (cI, 2, .inl (tm_tw (nI k0) (nI k1)))), (acA, .inl (cI, 240, .inl (tm_jn 120 A0 A1)))] H := hP
    have hD : va_D A [(m0, .inr (5, [.int th, .int (nI n), .ref oA, .ref aA, .ref bB, .ref cC, .int tl, .int (nI k), .ref gA, .ref zA, .ref bA, .ref sR, .ref sD, .ref rA, .ref eC, .ref eA, .ref pA, .ref dA, .ref kA, .ref acA, .int nx])), (oA, .inl (cI, 24, .inl Po)), (aA, .inl (cI, 24, .inl Pa)), (bB, .inl (cI, 24, .inl Pb)), (cC, .inl (cI, 24, .inl Pc)), (gA, .inl (cI, 1600, .inl G)), (zA, .inl (cZ, 400, .inl O)), (bA, .inl (cI, 25, .inl B)), (sR, .inl (cI, 8, .inl sr)), (sD, .inl (cI, 32, .inl sd)), (rA, .inl (cI, 16, .inl (tm_jn 8 R0 R1))), (eC, .inl (cI, 128, .inl (tm_jn 64 C0 C1))), (eA, .inl (cI, 2, .inl (upd (tm_tw e0 e1) 0 2))), (pA, .inl (cI, 2, .inl (tm_tw (nI q) h1))), (dA, .inl (cI, 2, .inl (tm_tw d0 d1))), (kA, .inl (cI, 2, .inl (tm_tw (nI k0) (nI k1)))), (acA, .inl (cI, 240, .inl (tm_jn 120 A0 A1)))] := hD
    rw [tm_tw_0] at hP hD
    have hP : va_P D cls [(m0, .inr (5, [.int th, .int (nI n), .ref oA, .ref aA, .ref bB, .ref cC, .int tl, .int (nI k), .ref gA, .ref zA, .ref bA, .ref sR, .ref sD, .ref rA, .ref eC, .ref eA, .ref pA, .ref dA, .ref kA, .ref acA, .int nx])), (oA, .inl (cI, 24, .inl Po)), (aA, .inl (cI, 24, .inl Pa)), (bB, .inl (cI, 24, .inl Pb)), (cC, .inl (cI, 24, .inl Pc)), (gA, .inl (cI, 1600, .inl G)), (zA, .inl (cZ, 400, .inl O)), (bA, .inl (cI, 25, .inl B)), (sR, .inl (cI, 8, .inl sr)), (sD, .inl (cI, 32, .inl sd)), (rA, .inl (cI, 16, .inl (tm_jn 8 R0 R1))), (eC, .inl (cI, 128, .inl (tm_jn 64 C0 C1))), (eA, .inl (cI, 2, .inl (tm_tw 2 e1))), (pA, .inl (cI, 2, .inl (tm_tw (nI q) h1))), (dA, .inl (cI, 2, .inl (tm_tw d0 d1))), (kA, .inl (cI, 2, .inl (tm_tw (nI k0) (nI k1)))), (acA, .inl (cI, 240, .inl (tm_jn 120 A0 A1)))] H := hP
    have hD : va_D A [(m0, .inr (5, [.int th, .int (nI n), .ref oA, .ref aA, .ref bB, .ref cC, .int tl, .int (nI k), .ref gA, .ref zA, .ref bA, .ref sR, .ref sD, .ref rA, .ref eC, .ref eA, .ref pA, .ref dA, .ref kA, .ref acA, .int nx])), (oA, .inl (cI, 24, .inl Po)), (aA, .inl (cI, 24, .inl Pa)), (bB, .inl (cI, 24, .inl Pb)), (cC, .inl (cI, 24, .inl Pc)), (gA, .inl (cI, 1600, .inl G)), (zA, .inl (cZ, 400, .inl O)), (bA, .inl (cI, 25, .inl B)), (sR, .inl (cI, 8, .inl sr)), (sD, .inl (cI, 32, .inl sd)), (rA, .inl (cI, 16, .inl (tm_jn 8 R0 R1))), (eC, .inl (cI, 128, .inl (tm_jn 64 C0 C1))), (eA, .inl (cI, 2, .inl (tm_tw 2 e1))), (pA, .inl (cI, 2, .inl (tm_tw (nI q) h1))), (dA, .inl (cI, 2, .inl (tm_tw d0 d1))), (kA, .inl (cI, 2, .inl (tm_tw (nI k0) (nI k1)))), (acA, .inl (cI, 240, .inl (tm_jn 120 A0 A1)))] := hD
    have ew1 : nx = (tm_ss P q (R0, C0, A0, k0, nI q, d0, e0, nx)).2.2.2.2.2.2.2 := by first | rfl | (simp [tm_ss, hv, f13]; done) | (simp [tm_ss, hv, f13, Nat.add_assoc]; done)
    have ew2_0 : R0 = ((tm_ss P q (R0, C0, A0, k0, nI q, d0, e0, nx)).1) := by first | rfl | (simp [tm_ss, hv, f13]; done)
    have ew2 : tm_jn 8 R0 R1 = tm_jn 8 ((tm_ss P q (R0, C0, A0, k0, nI q, d0, e0, nx)).1) R1 := congr (congrArg (tm_jn 8) ew2_0) rfl
    have ew3_0 : C0 = ((tm_ss P q (R0, C0, A0, k0, nI q, d0, e0, nx)).2.1) := by first | rfl | (simp [tm_ss, hv, f13]; done)
    have ew3 : tm_jn 64 C0 C1 = tm_jn 64 ((tm_ss P q (R0, C0, A0, k0, nI q, d0, e0, nx)).2.1) C1 := congr (congrArg (tm_jn 64) ew3_0) rfl
    have ew4_0 : 2 = ((tm_ss P q (R0, C0, A0, k0, nI q, d0, e0, nx)).2.2.2.2.2.2.1) := by first | rfl | (simp [tm_ss, hv, f13]; done)
    have ew4 : tm_tw 2 e1 = tm_tw ((tm_ss P q (R0, C0, A0, k0, nI q, d0, e0, nx)).2.2.2.2.2.2.1) e1 := congr (congrArg (tm_tw) ew4_0) rfl
    have ew5_0 : (nI q) = ((tm_ss P q (R0, C0, A0, k0, nI q, d0, e0, nx)).2.2.2.2.1) := by first | rfl | (simp [tm_ss, hv, f13]; done)
    have ew5 : tm_tw (nI q) h1 = tm_tw ((tm_ss P q (R0, C0, A0, k0, nI q, d0, e0, nx)).2.2.2.2.1) h1 := congr (congrArg (tm_tw) ew5_0) rfl
    have ew6_0 : d0 = ((tm_ss P q (R0, C0, A0, k0, nI q, d0, e0, nx)).2.2.2.2.2.1) := by first | rfl | (simp [tm_ss, hv, f13]; done)
    have ew6 : tm_tw d0 d1 = tm_tw ((tm_ss P q (R0, C0, A0, k0, nI q, d0, e0, nx)).2.2.2.2.2.1) d1 := congr (congrArg (tm_tw) ew6_0) rfl
    have ew7_0 : (nI k0) = (nI (tm_ss P q (R0, C0, A0, k0, nI q, d0, e0, nx)).2.2.2.1) := congrArg nI (by first | (simp [tm_ss, hv, f13]; done) | (simp [tm_ss, hv, f13]; omega) | omega)
    have ew7 : tm_tw (nI k0) (nI k1) = tm_tw (nI (tm_ss P q (R0, C0, A0, k0, nI q, d0, e0, nx)).2.2.2.1) (nI k1) := congr (congrArg (tm_tw) ew7_0) rfl
    have ew8_0 : A0 = ((tm_ss P q (R0, C0, A0, k0, nI q, d0, e0, nx)).2.2.1) := by first | rfl | (simp [tm_ss, hv, f13]; done)
    have ew8 : tm_jn 120 A0 A1 = tm_jn 120 ((tm_ss P q (R0, C0, A0, k0, nI q, d0, e0, nx)).2.2.1) A1 := congr (congrArg (tm_jn 120) ew8_0) rfl
    have hP : va_P D cls [(m0, .inr (5, [.int th, .int (nI n), .ref oA, .ref aA, .ref bB, .ref cC, .int tl, .int (nI k), .ref gA, .ref zA, .ref bA, .ref sR, .ref sD, .ref rA, .ref eC, .ref eA, .ref pA, .ref dA, .ref kA, .ref acA, .int ((tm_ss P q (R0, C0, A0, k0, nI q, d0, e0, nx)).2.2.2.2.2.2.2)])), (oA, .inl (cI, 24, .inl Po)), (aA, .inl (cI, 24, .inl Pa)), (bB, .inl (cI, 24, .inl Pb)), (cC, .inl (cI, 24, .inl Pc)), (gA, .inl (cI, 1600, .inl G)), (zA, .inl (cZ, 400, .inl O)), (bA, .inl (cI, 25, .inl B)), (sR, .inl (cI, 8, .inl sr)), (sD, .inl (cI, 32, .inl sd)), (rA, .inl (cI, 16, .inl (tm_jn 8 ((tm_ss P q (R0, C0, A0, k0, nI q, d0, e0, nx)).1) R1))), (eC, .inl (cI, 128, .inl (tm_jn 64 ((tm_ss P q (R0, C0, A0, k0, nI q, d0, e0, nx)).2.1) C1))), (eA, .inl (cI, 2, .inl (tm_tw ((tm_ss P q (R0, C0, A0, k0, nI q, d0, e0, nx)).2.2.2.2.2.2.1) e1))), (pA, .inl (cI, 2, .inl (tm_tw ((tm_ss P q (R0, C0, A0, k0, nI q, d0, e0, nx)).2.2.2.2.1) h1))), (dA, .inl (cI, 2, .inl (tm_tw ((tm_ss P q (R0, C0, A0, k0, nI q, d0, e0, nx)).2.2.2.2.2.1) d1))), (kA, .inl (cI, 2, .inl (tm_tw (nI (tm_ss P q (R0, C0, A0, k0, nI q, d0, e0, nx)).2.2.2.1) (nI k1)))), (acA, .inl (cI, 240, .inl (tm_jn 120 ((tm_ss P q (R0, C0, A0, k0, nI q, d0, e0, nx)).2.2.1) A1)))] H := by rw [← ew1, ← ew2, ← ew3, ← ew4, ← ew5, ← ew6, ← ew7, ← ew8]; exact hP
    have hD : va_D A [(m0, .inr (5, [.int th, .int (nI n), .ref oA, .ref aA, .ref bB, .ref cC, .int tl, .int (nI k), .ref gA, .ref zA, .ref bA, .ref sR, .ref sD, .ref rA, .ref eC, .ref eA, .ref pA, .ref dA, .ref kA, .ref acA, .int ((tm_ss P q (R0, C0, A0, k0, nI q, d0, e0, nx)).2.2.2.2.2.2.2)])), (oA, .inl (cI, 24, .inl Po)), (aA, .inl (cI, 24, .inl Pa)), (bB, .inl (cI, 24, .inl Pb)), (cC, .inl (cI, 24, .inl Pc)), (gA, .inl (cI, 1600, .inl G)), (zA, .inl (cZ, 400, .inl O)), (bA, .inl (cI, 25, .inl B)), (sR, .inl (cI, 8, .inl sr)), (sD, .inl (cI, 32, .inl sd)), (rA, .inl (cI, 16, .inl (tm_jn 8 ((tm_ss P q (R0, C0, A0, k0, nI q, d0, e0, nx)).1) R1))), (eC, .inl (cI, 128, .inl (tm_jn 64 ((tm_ss P q (R0, C0, A0, k0, nI q, d0, e0, nx)).2.1) C1))), (eA, .inl (cI, 2, .inl (tm_tw ((tm_ss P q (R0, C0, A0, k0, nI q, d0, e0, nx)).2.2.2.2.2.2.1) e1))), (pA, .inl (cI, 2, .inl (tm_tw ((tm_ss P q (R0, C0, A0, k0, nI q, d0, e0, nx)).2.2.2.2.1) h1))), (dA, .inl (cI, 2, .inl (tm_tw ((tm_ss P q (R0, C0, A0, k0, nI q, d0, e0, nx)).2.2.2.2.2.1) d1))), (kA, .inl (cI, 2, .inl (tm_tw (nI (tm_ss P q (R0, C0, A0, k0, nI q, d0, e0, nx)).2.2.2.1) (nI k1)))), (acA, .inl (cI, 240, .inl (tm_jn 120 ((tm_ss P q (R0, C0, A0, k0, nI q, d0, e0, nx)).2.2.1) A1)))] := by rw [← ew1, ← ew2, ← ew3, ← ew4, ← ew5, ← ew6, ← ew7, ← ew8]; exact hD
    exact W.vret hx hb hr (fun t9 ht9 hW9 => ⟨⟨(), rfl, trivial, by rw [ht9]; exact hP, hD⟩, hS.F ht9⟩) hS.2.2 d_Mo_source_138
  · have f13 : ¬ 13 < nI v := nI_nlt (a := 13) (b := v) (by omega) (by decide)
    have ee0 : nI v = 0 := by rw [hcase]; rfl
    have ee5 : ¬ nI v = 5 := xn_ne (w := 5) (by omega) (by decide) (by omega)
    have ee6 : ¬ nI v = 6 := xn_ne (w := 6) (by omega) (by decide) (by omega)
    have ee7 : ¬ nI v = 7 := xn_ne (w := 7) (by omega) (by decide) (by omega)
    have ee8 : ¬ nI v = 8 := xn_ne (w := 8) (by omega) (by decide) (by omega)
    have ee9 : ¬ nI v = 9 := xn_ne (w := 9) (by omega) (by decide) (by omega)
    have ee10 : ¬ nI v = 10 := xn_ne (w := 10) (by omega) (by decide) (by omega)
    have ee11 : ¬ nI v = 11 := xn_ne (w := 11) (by omega) (by decide) (by omega)
    have ee12 : ¬ nI v = 12 := xn_ne (w := 12) (by omega) (by decide) (by omega)
    have ee13 : ¬ nI v = 13 := xn_ne (w := 13) (by omega) (by decide) (by omega)
    have f7 : nI v < 7 := nI_lt (a := v) (b := 7) (by omega) (by decide)
    have f9 : nI v < 9 := nI_lt (a := v) (b := 9) (by omega) (by decide)
    have f4 : ¬ 4 < nI v := nI_nlt (a := 4) (b := v) (by omega) (by decide)
    have f10 : ¬ 10 < nI v := nI_nlt (a := 10) (b := v) (by omega) (by decide)
    refine lv_aload_n hx hb d_Mo_source_0 rfl (lv_at hl 0 rfl) ?_
    refine va_get (D := D) (ci := 5) (v := .ref pA) (C := R_Mo) (T := F_Mo) (N := 21) hx hb hg f_Mo hown hK.1 hP 0 rfl rfl 16 (by decide) (hg _ q579) (fun _ h9 => h9) rfl d_Mo_source_1 ?_
    refine lv_iconst (v := 0) hx hb d_Mo_source_4 (by decide) ?_
    refine xa_ld hx hb hK hP 13 0 rfl rfl (kx := 0) (rfl) (by decide) (by decide) d_Mo_source_5 ?_
    have eq9 : ((tm_tw (nI q) h1) 0 : Int32) = nI q := rfl
    refine W.eq (g2 := F0 m 6 ls [.int (nI q)]) (by rw [eq9]) ?_
    refine lv_istore_n hx hb d_Mo_source_6 rfl hl (by decide) rfl (fun ls hl => ?_)
    have hl : lv_has ls 7 [(1, .int (nI q)), (0, .ref m0)] := hl
    refine lv_iload_n hx hb d_Mo_source_7 rfl (lv_at hl 0 rfl) ?_
    refine lv_iconst (v := 0) hx hb d_Mo_source_8 (by decide) ?_
    refine lv_aload_n hx hb d_Mo_source_9 rfl (lv_at hl 1 rfl) ?_
    refine va_get (D := D) (ci := 5) (v := .int (nI n)) (C := R_Mo) (T := F_Mo) (N := 21) hx hb hg f_Mo hown hK.1 hP 0 rfl rfl 1 (by decide) (hg _ q564) (fun _ h9 => h9) rfl d_Mo_source_10 ?_
    refine lv_iconst (v := 1) hx hb d_Mo_source_13 (by decide) ?_
    refine lv_isub hx hb d_Mo_source_14 ?_
    have eq9 : ((nI n) - 1 : Int32) = nI (n - 1) := pk_sub (a := n) (b := 1) (by omega)
    refine W.eq (g2 := F0 m 15 ls [.int (nI (n - 1)), .int 0, .int (nI q)]) (by rw [eq9]) ?_
    refine xr_S (As := [.int (nI q), .int 0, .int (nI (n - 1))]) (rest := []) ⟨hx, hb, hml, hown, hg⟩ (c_Mo_in l D cI cZ cJ (nI q) 0 (nI (n - 1))) m_Mo_in q636 ⟨rfl, rfl⟩ ⟨Nat.le_of_ble_eq_true rfl, Nat.le_of_ble_eq_true rfl⟩ hK hP [] rfl rfl hl.1 rfl (Nat.le_of_ble_eq_true rfl) d_Mo_source_15 ⟨Nat.zero_le _, Nat.zero_le _⟩ ?_
    refine lv_if_eq (tgt := 30) hx hb d_Mo_source_18 rfl (fun hz9 => absurd hz9 (tm_wi_y (nI_le (a := 0) (b := q) (by omega) (by omega)) (nI_le (a := q) (b := n - 1) (by omega) (by omega)))) (fun _ => ?_)
    refine lv_aload_n hx hb d_Mo_source_21 rfl (lv_at hl 1 rfl) ?_
    refine va_get (D := D) (ci := 5) (v := .ref oA) (C := R_Mo) (T := F_Mo) (N := 21) hx hb hg f_Mo hown hK.1 hP 0 rfl rfl 2 (by decide) (hg _ q565) (fun _ h9 => h9) rfl d_Mo_source_22 ?_
    refine lv_iload_n hx hb d_Mo_source_25 rfl (lv_at hl 0 rfl) ?_
    refine xa_ld hx hb hK hP 1 0 rfl rfl (kx := q) (rfl) (by omega) (by decide) d_Mo_source_26 ?_
    have eq9 : (Po q : Int32) = P (4 * q) := hPo q
    refine W.eq (g2 := F0 m 27 ls [.int (P (4 * q))]) (by rw [eq9]) ?_
    refine lv_goto (tgt := 32) hx hb d_Mo_source_27 rfl ?_
    have eq9 : (P (4 * q) : Int32) = nI v := hv
    refine W.eq (g2 := F0 m 32 ls [.int (nI v)]) (by rw [eq9]) ?_
    refine lv_istore_n hx hb d_Mo_source_32 rfl hl (by decide) rfl (fun ls hl => ?_)
    have hl : lv_has ls 7 [(2, .int (nI v)), (1, .int (nI q)), (0, .ref m0)] := hl
    refine lv_iload_n hx hb d_Mo_source_33 rfl (lv_at hl 0 rfl) ?_
    refine lv_bipush (v := 13) hx hb d_Mo_source_34 (by decide) ?_
    refine lv_icmp_le (tgt := 43) hx hb d_Mo_source_36 rfl (fun _ => ?_) (fun hz9 => absurd (nI_le (a := v) (b := 13) (by omega) (by decide)) hz9)
    refine lv_aload_n hx hb d_Mo_source_43 rfl (lv_at hl 2 rfl) ?_
    refine va_get (D := D) (ci := 5) (v := .ref rA) (C := R_Mo) (T := F_Mo) (N := 21) hx hb hg f_Mo hown hK.1 hP 0 rfl rfl 13 (by decide) (hg _ q576) (fun _ h9 => h9) rfl d_Mo_source_44 ?_
    refine lv_aload_n hx hb d_Mo_source_47 rfl (lv_at hl 2 rfl) ?_
    refine va_get (D := D) (ci := 5) (v := .ref aA) (C := R_Mo) (T := F_Mo) (N := 21) hx hb hg f_Mo hown hK.1 hP 0 rfl rfl 3 (by decide) (hg _ q566) (fun _ h9 => h9) rfl d_Mo_source_48 ?_
    refine lv_iload_n hx hb d_Mo_source_51 rfl (lv_at hl 1 rfl) ?_
    refine xa_ld hx hb hK hP 2 0 rfl rfl (kx := q) (rfl) (by omega) (by decide) d_Mo_source_52 ?_
    have eq9 : (Pa q : Int32) = P (4 * q + 1) := hPa q
    refine W.eq (g2 := F0 m 53 ls [.int (P (4 * q + 1)), .ref rA]) (by rw [eq9]) ?_
    refine xa_ld hx hb hK hP 10 0 rfl rfl (kx := a) (ha) (by omega) (by decide) d_Mo_source_53 ?_
    have eq9 : ((tm_jn 8 R0 R1) a : Int32) = R0 a := tm_jn_lo (by omega)
    refine W.eq (g2 := F0 m 54 ls [.int (R0 a)]) (by rw [eq9]) ?_
    refine lv_istore_n hx hb d_Mo_source_54 rfl hl (by decide) rfl (fun ls hl => ?_)
    have hl : lv_has ls 7 [(3, .int (R0 a)), (2, .int (nI v)), (1, .int (nI q)), (0, .ref m0)] := hl
    refine lv_iload_n hx hb d_Mo_source_55 rfl (lv_at hl 1 rfl) ?_
    refine lv_bipush (v := 13) hx hb d_Mo_source_56 (by decide) ?_
    refine lv_icmp_le (tgt := 65) hx hb d_Mo_source_58 rfl (fun _ => ?_) (fun hz9 => absurd (nI_le (a := v) (b := 13) (by omega) (by decide)) hz9)
    refine lv_aload_n hx hb d_Mo_source_65 rfl (lv_at hl 3 rfl) ?_
    refine va_get (D := D) (ci := 5) (v := .ref rA) (C := R_Mo) (T := F_Mo) (N := 21) hx hb hg f_Mo hown hK.1 hP 0 rfl rfl 13 (by decide) (hg _ q576) (fun _ h9 => h9) rfl d_Mo_source_66 ?_
    refine lv_aload_n hx hb d_Mo_source_69 rfl (lv_at hl 3 rfl) ?_
    refine va_get (D := D) (ci := 5) (v := .ref bB) (C := R_Mo) (T := F_Mo) (N := 21) hx hb hg f_Mo hown hK.1 hP 0 rfl rfl 4 (by decide) (hg _ q567) (fun _ h9 => h9) rfl d_Mo_source_70 ?_
    refine lv_iload_n hx hb d_Mo_source_73 rfl (lv_at hl 2 rfl) ?_
    refine xa_ld hx hb hK hP 3 0 rfl rfl (kx := q) (rfl) (by omega) (by decide) d_Mo_source_74 ?_
    have eq9 : (Pb q : Int32) = P (4 * q + 2) := hPb q
    refine W.eq (g2 := F0 m 75 ls [.int (P (4 * q + 2)), .ref rA]) (by rw [eq9]) ?_
    refine xa_ld hx hb hK hP 10 0 rfl rfl (kx := b) (hbb) (by omega) (by decide) d_Mo_source_75 ?_
    have eq9 : ((tm_jn 8 R0 R1) b : Int32) = R0 b := tm_jn_lo (by omega)
    refine W.eq (g2 := F0 m 76 ls [.int (R0 b)]) (by rw [eq9]) ?_
    refine lv_istore hx hb d_Mo_source_76 hl (by decide) rfl (fun ls hl => ?_)
    have hl : lv_has ls 7 [(4, .int (R0 b)), (3, .int (R0 a)), (2, .int (nI v)), (1, .int (nI q)), (0, .ref m0)] := hl
    refine lv_iload_n hx hb d_Mo_source_78 rfl (lv_at hl 2 rfl) ?_
    refine lv_bipush (v := 13) hx hb d_Mo_source_79 (by decide) ?_
    refine lv_icmp_le (tgt := 88) hx hb d_Mo_source_81 rfl (fun _ => ?_) (fun hz9 => absurd (nI_le (a := v) (b := 13) (by omega) (by decide)) hz9)
    refine lv_iload hx hb d_Mo_source_88 (lv_at hl 0 rfl) ?_
    refine lv_aload_n hx hb d_Mo_source_90 rfl (lv_at hl 4 rfl) ?_
    refine va_get (D := D) (ci := 5) (v := .ref cC) (C := R_Mo) (T := F_Mo) (N := 21) hx hb hg f_Mo hown hK.1 hP 0 rfl rfl 5 (by decide) (hg _ q568) (fun _ h9 => h9) rfl d_Mo_source_91 ?_
    refine lv_iload_n hx hb d_Mo_source_94 rfl (lv_at hl 3 rfl) ?_
    refine xa_ld hx hb hK hP 4 0 rfl rfl (kx := q) (rfl) (by omega) (by decide) d_Mo_source_95 ?_
    have eq9 : (Pc q : Int32) = P (4 * q + 3) := hPc q
    refine W.eq (g2 := F0 m 96 ls [.int (P (4 * q + 3)), .int (R0 b)]) (by rw [eq9]) ?_
    refine lv_iadd hx hb d_Mo_source_96 ?_
    refine xr_S (As := [.int ((R0 b) + (P (4 * q + 3)))]) (rest := []) ⟨hx, hb, hml, hown, hg⟩ (c_Mo_round l D cI cZ cJ ((R0 b) + (P (4 * q + 3)))) m_Mo_round q725 ⟨rfl, rfl⟩ ⟨Nat.le_of_ble_eq_true rfl, Nat.le_of_ble_eq_true rfl⟩ hK hP [] rfl rfl hl.1 rfl (Nat.le_of_ble_eq_true rfl) d_Mo_source_97 ⟨Nat.zero_le _, Nat.zero_le _⟩ ?_
    refine lv_istore hx hb d_Mo_source_100 hl (by decide) rfl (fun ls hl => ?_)
    have hl : lv_has ls 7 [(5, .int (tm_wr ((R0 b) + (P (4 * q + 3))))), (4, .int (R0 b)), (3, .int (R0 a)), (2, .int (nI v)), (1, .int (nI q)), (0, .ref m0)] := hl
    refine lv_iload_n hx hb d_Mo_source_102 rfl (lv_at hl 3 rfl) ?_
    refine lv_bipush (v := 13) hx hb d_Mo_source_103 (by decide) ?_
    refine lv_icmp_gt (tgt := 131) hx hb d_Mo_source_105 rfl (fun hz9 => absurd hz9 (f13)) (fun _ => ?_)
    refine lv_iload_n hx hb d_Mo_source_108 rfl (lv_at hl 3 rfl) ?_
    refine lv_bipush (v := 7) hx hb d_Mo_source_109 (by decide) ?_
    refine lv_icmp_eq (tgt := 120) hx hb d_Mo_source_111 rfl (fun hz9 => absurd hz9 (ee7)) (fun _ => ?_)
    refine lv_iload_n hx hb d_Mo_source_114 rfl (lv_at hl 3 rfl) ?_
    refine lv_bipush (v := 8) hx hb d_Mo_source_115 (by decide) ?_
    refine lv_icmp_ne (tgt := 139) hx hb d_Mo_source_117 rfl (fun _ => ?_) (fun hz9 => absurd hz9 (ee8))
    refine lv_aload_n hx hb d_Mo_source_139 rfl (lv_at hl 5 rfl) ?_
    refine va_get (D := D) (ci := 5) (v := .ref dA) (C := R_Mo) (T := F_Mo) (N := 21) hx hb hg f_Mo hown hK.1 hP 0 rfl rfl 17 (by decide) (hg _ q580) (fun _ h9 => h9) rfl d_Mo_source_140 ?_
    refine lv_iconst (v := 0) hx hb d_Mo_source_143 (by decide) ?_
    refine lv_dup2_11 hx hb d_Mo_source_144 rfl rfl ?_
    refine xa_ld hx hb hK hP 14 0 rfl rfl (kx := 0) (rfl) (by decide) (by decide) d_Mo_source_145 ?_
    have eq9 : ((tm_tw d0 d1) 0 : Int32) = d0 := rfl
    refine W.eq (g2 := F0 m 146 ls [.int d0, .int 0, .ref dA]) (by rw [eq9]) ?_
    refine lv_iconst (v := 1) hx hb d_Mo_source_146 (by decide) ?_
    refine lv_iadd hx hb d_Mo_source_147 ?_
    refine xa_st hx hb hK hP hD hS 14 0 rfl rfl (kx := 0) (rfl) (by decide) (by decide) d_Mo_source_148 (fun H locs hP hD hS => ?_)
    have hP : va_P D cls [(m0, .inr (5, [.int th, .int (nI n), .ref oA, .ref aA, .ref bB, .ref cC, .int tl, .int (nI k), .ref gA, .ref zA, .ref bA, .ref sR, .ref sD, .ref rA, .ref eC, .ref eA, .ref pA, .ref dA, .ref kA, .ref acA, .int nx])), (oA, .inl (cI, 24, .inl Po)), (aA, .inl (cI, 24, .inl Pa)), (bB, .inl (cI, 24, .inl Pb)), (cC, .inl (cI, 24, .inl Pc)), (gA, .inl (cI, 1600, .inl G)), (zA, .inl (cZ, 400, .inl O)), (bA, .inl (cI, 25, .inl B)), (sR, .inl (cI, 8, .inl sr)), (sD, .inl (cI, 32, .inl sd)), (rA, .inl (cI, 16, .inl (tm_jn 8 R0 R1))), (eC, .inl (cI, 128, .inl (tm_jn 64 C0 C1))), (eA, .inl (cI, 2, .inl (tm_tw e0 e1))), (pA, .inl (cI, 2, .inl (tm_tw (nI q) h1))), (dA, .inl (cI, 2, .inl (upd (tm_tw d0 d1) 0 (d0 + 1)))), (kA, .inl (cI, 2, .inl (tm_tw (nI k0) (nI k1)))), (acA, .inl (cI, 240, .inl (tm_jn 120 A0 A1)))] H := hP
    have hD : va_D A [(m0, .inr (5, [.int th, .int (nI n), .ref oA, .ref aA, .ref bB, .ref cC, .int tl, .int (nI k), .ref gA, .ref zA, .ref bA, .ref sR, .ref sD, .ref rA, .ref eC, .ref eA, .ref pA, .ref dA, .ref kA, .ref acA, .int nx])), (oA, .inl (cI, 24, .inl Po)), (aA, .inl (cI, 24, .inl Pa)), (bB, .inl (cI, 24, .inl Pb)), (cC, .inl (cI, 24, .inl Pc)), (gA, .inl (cI, 1600, .inl G)), (zA, .inl (cZ, 400, .inl O)), (bA, .inl (cI, 25, .inl B)), (sR, .inl (cI, 8, .inl sr)), (sD, .inl (cI, 32, .inl sd)), (rA, .inl (cI, 16, .inl (tm_jn 8 R0 R1))), (eC, .inl (cI, 128, .inl (tm_jn 64 C0 C1))), (eA, .inl (cI, 2, .inl (tm_tw e0 e1))), (pA, .inl (cI, 2, .inl (tm_tw (nI q) h1))), (dA, .inl (cI, 2, .inl (upd (tm_tw d0 d1) 0 (d0 + 1)))), (kA, .inl (cI, 2, .inl (tm_tw (nI k0) (nI k1)))), (acA, .inl (cI, 240, .inl (tm_jn 120 A0 A1)))] := hD
    rw [tm_tw_0] at hP hD
    have hP : va_P D cls [(m0, .inr (5, [.int th, .int (nI n), .ref oA, .ref aA, .ref bB, .ref cC, .int tl, .int (nI k), .ref gA, .ref zA, .ref bA, .ref sR, .ref sD, .ref rA, .ref eC, .ref eA, .ref pA, .ref dA, .ref kA, .ref acA, .int nx])), (oA, .inl (cI, 24, .inl Po)), (aA, .inl (cI, 24, .inl Pa)), (bB, .inl (cI, 24, .inl Pb)), (cC, .inl (cI, 24, .inl Pc)), (gA, .inl (cI, 1600, .inl G)), (zA, .inl (cZ, 400, .inl O)), (bA, .inl (cI, 25, .inl B)), (sR, .inl (cI, 8, .inl sr)), (sD, .inl (cI, 32, .inl sd)), (rA, .inl (cI, 16, .inl (tm_jn 8 R0 R1))), (eC, .inl (cI, 128, .inl (tm_jn 64 C0 C1))), (eA, .inl (cI, 2, .inl (tm_tw e0 e1))), (pA, .inl (cI, 2, .inl (tm_tw (nI q) h1))), (dA, .inl (cI, 2, .inl (tm_tw (d0 + 1) d1))), (kA, .inl (cI, 2, .inl (tm_tw (nI k0) (nI k1)))), (acA, .inl (cI, 240, .inl (tm_jn 120 A0 A1)))] H := hP
    have hD : va_D A [(m0, .inr (5, [.int th, .int (nI n), .ref oA, .ref aA, .ref bB, .ref cC, .int tl, .int (nI k), .ref gA, .ref zA, .ref bA, .ref sR, .ref sD, .ref rA, .ref eC, .ref eA, .ref pA, .ref dA, .ref kA, .ref acA, .int nx])), (oA, .inl (cI, 24, .inl Po)), (aA, .inl (cI, 24, .inl Pa)), (bB, .inl (cI, 24, .inl Pb)), (cC, .inl (cI, 24, .inl Pc)), (gA, .inl (cI, 1600, .inl G)), (zA, .inl (cZ, 400, .inl O)), (bA, .inl (cI, 25, .inl B)), (sR, .inl (cI, 8, .inl sr)), (sD, .inl (cI, 32, .inl sd)), (rA, .inl (cI, 16, .inl (tm_jn 8 R0 R1))), (eC, .inl (cI, 128, .inl (tm_jn 64 C0 C1))), (eA, .inl (cI, 2, .inl (tm_tw e0 e1))), (pA, .inl (cI, 2, .inl (tm_tw (nI q) h1))), (dA, .inl (cI, 2, .inl (tm_tw (d0 + 1) d1))), (kA, .inl (cI, 2, .inl (tm_tw (nI k0) (nI k1)))), (acA, .inl (cI, 240, .inl (tm_jn 120 A0 A1)))] := hD
    refine lv_iload_n hx hb d_Mo_source_149 rfl (lv_at hl 3 rfl) ?_
    refine lv_if_ne (tgt := 161) hx hb d_Mo_source_150 rfl (fun hz9 => absurd (ee0) hz9) (fun _ => ?_)
    refine lv_aload_n hx hb d_Mo_source_153 rfl (lv_at hl 5 rfl) ?_
    refine va_get (D := D) (ci := 5) (v := .ref eA) (C := R_Mo) (T := F_Mo) (N := 21) hx hb hg f_Mo hown hK.1 hP 0 rfl rfl 15 (by decide) (hg _ q578) (fun _ h9 => h9) rfl d_Mo_source_154 ?_
    refine lv_iconst (v := 0) hx hb d_Mo_source_157 (by decide) ?_
    refine lv_iconst (v := 1) hx hb d_Mo_source_158 (by decide) ?_
    refine xa_st hx hb hK hP hD hS 12 0 rfl rfl (kx := 0) (rfl) (by decide) (by decide) d_Mo_source_159 (fun H locs hP hD hS => ?_)
    have hP : va_P D cls [(m0, .inr (5, [.int th, .int (nI n), .ref oA, .ref aA, .ref bB, .ref cC, .int tl, .int (nI k), .ref gA, .ref zA, .ref bA, .ref sR, .ref sD, .ref rA, .ref eC, .ref eA, .ref pA, .ref dA, .ref kA, .ref acA, .int nx])), (oA, .inl (cI, 24, .inl Po)), (aA, .inl (cI, 24, .inl Pa)), (bB, .inl (cI, 24, .inl Pb)), (cC, .inl (cI, 24, .inl Pc)), (gA, .inl (cI, 1600, .inl G)), (zA, .inl (cZ, 400, .inl O)), (bA, .inl (cI, 25, .inl B)), (sR, .inl (cI, 8, .inl sr)), (sD, .inl (cI, 32, .inl sd)), (rA, .inl (cI, 16, .inl (tm_jn 8 R0 R1))), (eC, .inl (cI, 128, .inl (tm_jn 64 C0 C1))), (eA, .inl (cI, 2, .inl (upd (tm_tw e0 e1) 0 1))), (pA, .inl (cI, 2, .inl (tm_tw (nI q) h1))), (dA, .inl (cI, 2, .inl (tm_tw (d0 + 1) d1))), (kA, .inl (cI, 2, .inl (tm_tw (nI k0) (nI k1)))), (acA, .inl (cI, 240, .inl (tm_jn 120 A0 A1)))] H := hP
    have hD : va_D A [(m0, .inr (5, [.int th, .int (nI n), .ref oA, .ref aA, .ref bB, .ref cC, .int tl, .int (nI k), .ref gA, .ref zA, .ref bA, .ref sR, .ref sD, .ref rA, .ref eC, .ref eA, .ref pA, .ref dA, .ref kA, .ref acA, .int nx])), (oA, .inl (cI, 24, .inl Po)), (aA, .inl (cI, 24, .inl Pa)), (bB, .inl (cI, 24, .inl Pb)), (cC, .inl (cI, 24, .inl Pc)), (gA, .inl (cI, 1600, .inl G)), (zA, .inl (cZ, 400, .inl O)), (bA, .inl (cI, 25, .inl B)), (sR, .inl (cI, 8, .inl sr)), (sD, .inl (cI, 32, .inl sd)), (rA, .inl (cI, 16, .inl (tm_jn 8 R0 R1))), (eC, .inl (cI, 128, .inl (tm_jn 64 C0 C1))), (eA, .inl (cI, 2, .inl (upd (tm_tw e0 e1) 0 1))), (pA, .inl (cI, 2, .inl (tm_tw (nI q) h1))), (dA, .inl (cI, 2, .inl (tm_tw (d0 + 1) d1))), (kA, .inl (cI, 2, .inl (tm_tw (nI k0) (nI k1)))), (acA, .inl (cI, 240, .inl (tm_jn 120 A0 A1)))] := hD
    rw [tm_tw_0] at hP hD
    have hP : va_P D cls [(m0, .inr (5, [.int th, .int (nI n), .ref oA, .ref aA, .ref bB, .ref cC, .int tl, .int (nI k), .ref gA, .ref zA, .ref bA, .ref sR, .ref sD, .ref rA, .ref eC, .ref eA, .ref pA, .ref dA, .ref kA, .ref acA, .int nx])), (oA, .inl (cI, 24, .inl Po)), (aA, .inl (cI, 24, .inl Pa)), (bB, .inl (cI, 24, .inl Pb)), (cC, .inl (cI, 24, .inl Pc)), (gA, .inl (cI, 1600, .inl G)), (zA, .inl (cZ, 400, .inl O)), (bA, .inl (cI, 25, .inl B)), (sR, .inl (cI, 8, .inl sr)), (sD, .inl (cI, 32, .inl sd)), (rA, .inl (cI, 16, .inl (tm_jn 8 R0 R1))), (eC, .inl (cI, 128, .inl (tm_jn 64 C0 C1))), (eA, .inl (cI, 2, .inl (tm_tw 1 e1))), (pA, .inl (cI, 2, .inl (tm_tw (nI q) h1))), (dA, .inl (cI, 2, .inl (tm_tw (d0 + 1) d1))), (kA, .inl (cI, 2, .inl (tm_tw (nI k0) (nI k1)))), (acA, .inl (cI, 240, .inl (tm_jn 120 A0 A1)))] H := hP
    have hD : va_D A [(m0, .inr (5, [.int th, .int (nI n), .ref oA, .ref aA, .ref bB, .ref cC, .int tl, .int (nI k), .ref gA, .ref zA, .ref bA, .ref sR, .ref sD, .ref rA, .ref eC, .ref eA, .ref pA, .ref dA, .ref kA, .ref acA, .int nx])), (oA, .inl (cI, 24, .inl Po)), (aA, .inl (cI, 24, .inl Pa)), (bB, .inl (cI, 24, .inl Pb)), (cC, .inl (cI, 24, .inl Pc)), (gA, .inl (cI, 1600, .inl G)), (zA, .inl (cZ, 400, .inl O)), (bA, .inl (cI, 25, .inl B)), (sR, .inl (cI, 8, .inl sr)), (sD, .inl (cI, 32, .inl sd)), (rA, .inl (cI, 16, .inl (tm_jn 8 R0 R1))), (eC, .inl (cI, 128, .inl (tm_jn 64 C0 C1))), (eA, .inl (cI, 2, .inl (tm_tw 1 e1))), (pA, .inl (cI, 2, .inl (tm_tw (nI q) h1))), (dA, .inl (cI, 2, .inl (tm_tw (d0 + 1) d1))), (kA, .inl (cI, 2, .inl (tm_tw (nI k0) (nI k1)))), (acA, .inl (cI, 240, .inl (tm_jn 120 A0 A1)))] := hD
    have ew1 : nx = (tm_ss P q (R0, C0, A0, k0, nI q, d0, e0, nx)).2.2.2.2.2.2.2 := by first | rfl | (simp [tm_ss, hv, f13, ee0, ee5, ee6, ee7, ee8, ee9, ee10, ee11, ee12, ee13, f7, f9, f4, f10]; done) | (simp [tm_ss, hv, f13, ee0, ee5, ee6, ee7, ee8, ee9, ee10, ee11, ee12, ee13, f7, f9, f4, f10, Nat.add_assoc]; done)
    have ew2_0 : R0 = ((tm_ss P q (R0, C0, A0, k0, nI q, d0, e0, nx)).1) := by first | rfl | (simp [tm_ss, hv, f13, ee0, ee5, ee6, ee7, ee8, ee9, ee10, ee11, ee12, ee13, f7, f9, f4, f10]; done)
    have ew2 : tm_jn 8 R0 R1 = tm_jn 8 ((tm_ss P q (R0, C0, A0, k0, nI q, d0, e0, nx)).1) R1 := congr (congrArg (tm_jn 8) ew2_0) rfl
    have ew3_0 : C0 = ((tm_ss P q (R0, C0, A0, k0, nI q, d0, e0, nx)).2.1) := by first | rfl | (simp [tm_ss, hv, f13, ee0, ee5, ee6, ee7, ee8, ee9, ee10, ee11, ee12, ee13, f7, f9, f4, f10]; done)
    have ew3 : tm_jn 64 C0 C1 = tm_jn 64 ((tm_ss P q (R0, C0, A0, k0, nI q, d0, e0, nx)).2.1) C1 := congr (congrArg (tm_jn 64) ew3_0) rfl
    have ew4_0 : 1 = ((tm_ss P q (R0, C0, A0, k0, nI q, d0, e0, nx)).2.2.2.2.2.2.1) := by first | rfl | (simp [tm_ss, hv, f13, ee0, ee5, ee6, ee7, ee8, ee9, ee10, ee11, ee12, ee13, f7, f9, f4, f10]; done)
    have ew4 : tm_tw 1 e1 = tm_tw ((tm_ss P q (R0, C0, A0, k0, nI q, d0, e0, nx)).2.2.2.2.2.2.1) e1 := congr (congrArg (tm_tw) ew4_0) rfl
    have ew5_0 : (nI q) = ((tm_ss P q (R0, C0, A0, k0, nI q, d0, e0, nx)).2.2.2.2.1) := by first | rfl | (simp [tm_ss, hv, f13, ee0, ee5, ee6, ee7, ee8, ee9, ee10, ee11, ee12, ee13, f7, f9, f4, f10]; done)
    have ew5 : tm_tw (nI q) h1 = tm_tw ((tm_ss P q (R0, C0, A0, k0, nI q, d0, e0, nx)).2.2.2.2.1) h1 := congr (congrArg (tm_tw) ew5_0) rfl
    have ew6_0 : (d0 + 1) = ((tm_ss P q (R0, C0, A0, k0, nI q, d0, e0, nx)).2.2.2.2.2.1) := by first | rfl | (simp [tm_ss, hv, f13, ee0, ee5, ee6, ee7, ee8, ee9, ee10, ee11, ee12, ee13, f7, f9, f4, f10]; done)
    have ew6 : tm_tw (d0 + 1) d1 = tm_tw ((tm_ss P q (R0, C0, A0, k0, nI q, d0, e0, nx)).2.2.2.2.2.1) d1 := congr (congrArg (tm_tw) ew6_0) rfl
    have ew7_0 : (nI k0) = (nI (tm_ss P q (R0, C0, A0, k0, nI q, d0, e0, nx)).2.2.2.1) := congrArg nI (by first | (simp [tm_ss, hv, f13, ee0, ee5, ee6, ee7, ee8, ee9, ee10, ee11, ee12, ee13, f7, f9, f4, f10]; done) | (simp [tm_ss, hv, f13, ee0, ee5, ee6, ee7, ee8, ee9, ee10, ee11, ee12, ee13, f7, f9, f4, f10]; omega) | omega)
    have ew7 : tm_tw (nI k0) (nI k1) = tm_tw (nI (tm_ss P q (R0, C0, A0, k0, nI q, d0, e0, nx)).2.2.2.1) (nI k1) := congr (congrArg (tm_tw) ew7_0) rfl
    have ew8_0 : A0 = ((tm_ss P q (R0, C0, A0, k0, nI q, d0, e0, nx)).2.2.1) := by first | rfl | (simp [tm_ss, hv, f13, ee0, ee5, ee6, ee7, ee8, ee9, ee10, ee11, ee12, ee13, f7, f9, f4, f10]; done)
    have ew8 : tm_jn 120 A0 A1 = tm_jn 120 ((tm_ss P q (R0, C0, A0, k0, nI q, d0, e0, nx)).2.2.1) A1 := congr (congrArg (tm_jn 120) ew8_0) rfl
    have hP : va_P D cls [(m0, .inr (5, [.int th, .int (nI n), .ref oA, .ref aA, .ref bB, .ref cC, .int tl, .int (nI k), .ref gA, .ref zA, .ref bA, .ref sR, .ref sD, .ref rA, .ref eC, .ref eA, .ref pA, .ref dA, .ref kA, .ref acA, .int ((tm_ss P q (R0, C0, A0, k0, nI q, d0, e0, nx)).2.2.2.2.2.2.2)])), (oA, .inl (cI, 24, .inl Po)), (aA, .inl (cI, 24, .inl Pa)), (bB, .inl (cI, 24, .inl Pb)), (cC, .inl (cI, 24, .inl Pc)), (gA, .inl (cI, 1600, .inl G)), (zA, .inl (cZ, 400, .inl O)), (bA, .inl (cI, 25, .inl B)), (sR, .inl (cI, 8, .inl sr)), (sD, .inl (cI, 32, .inl sd)), (rA, .inl (cI, 16, .inl (tm_jn 8 ((tm_ss P q (R0, C0, A0, k0, nI q, d0, e0, nx)).1) R1))), (eC, .inl (cI, 128, .inl (tm_jn 64 ((tm_ss P q (R0, C0, A0, k0, nI q, d0, e0, nx)).2.1) C1))), (eA, .inl (cI, 2, .inl (tm_tw ((tm_ss P q (R0, C0, A0, k0, nI q, d0, e0, nx)).2.2.2.2.2.2.1) e1))), (pA, .inl (cI, 2, .inl (tm_tw ((tm_ss P q (R0, C0, A0, k0, nI q, d0, e0, nx)).2.2.2.2.1) h1))), (dA, .inl (cI, 2, .inl (tm_tw ((tm_ss P q (R0, C0, A0, k0, nI q, d0, e0, nx)).2.2.2.2.2.1) d1))), (kA, .inl (cI, 2, .inl (tm_tw (nI (tm_ss P q (R0, C0, A0, k0, nI q, d0, e0, nx)).2.2.2.1) (nI k1)))), (acA, .inl (cI, 240, .inl (tm_jn 120 ((tm_ss P q (R0, C0, A0, k0, nI q, d0, e0, nx)).2.2.1) A1)))] H := by rw [← ew1, ← ew2, ← ew3, ← ew4, ← ew5, ← ew6, ← ew7, ← ew8]; exact hP
    have hD : va_D A [(m0, .inr (5, [.int th, .int (nI n), .ref oA, .ref aA, .ref bB, .ref cC, .int tl, .int (nI k), .ref gA, .ref zA, .ref bA, .ref sR, .ref sD, .ref rA, .ref eC, .ref eA, .ref pA, .ref dA, .ref kA, .ref acA, .int ((tm_ss P q (R0, C0, A0, k0, nI q, d0, e0, nx)).2.2.2.2.2.2.2)])), (oA, .inl (cI, 24, .inl Po)), (aA, .inl (cI, 24, .inl Pa)), (bB, .inl (cI, 24, .inl Pb)), (cC, .inl (cI, 24, .inl Pc)), (gA, .inl (cI, 1600, .inl G)), (zA, .inl (cZ, 400, .inl O)), (bA, .inl (cI, 25, .inl B)), (sR, .inl (cI, 8, .inl sr)), (sD, .inl (cI, 32, .inl sd)), (rA, .inl (cI, 16, .inl (tm_jn 8 ((tm_ss P q (R0, C0, A0, k0, nI q, d0, e0, nx)).1) R1))), (eC, .inl (cI, 128, .inl (tm_jn 64 ((tm_ss P q (R0, C0, A0, k0, nI q, d0, e0, nx)).2.1) C1))), (eA, .inl (cI, 2, .inl (tm_tw ((tm_ss P q (R0, C0, A0, k0, nI q, d0, e0, nx)).2.2.2.2.2.2.1) e1))), (pA, .inl (cI, 2, .inl (tm_tw ((tm_ss P q (R0, C0, A0, k0, nI q, d0, e0, nx)).2.2.2.2.1) h1))), (dA, .inl (cI, 2, .inl (tm_tw ((tm_ss P q (R0, C0, A0, k0, nI q, d0, e0, nx)).2.2.2.2.2.1) d1))), (kA, .inl (cI, 2, .inl (tm_tw (nI (tm_ss P q (R0, C0, A0, k0, nI q, d0, e0, nx)).2.2.2.1) (nI k1)))), (acA, .inl (cI, 240, .inl (tm_jn 120 ((tm_ss P q (R0, C0, A0, k0, nI q, d0, e0, nx)).2.2.1) A1)))] := by rw [← ew1, ← ew2, ← ew3, ← ew4, ← ew5, ← ew6, ← ew7, ← ew8]; exact hD
    exact W.vret hx hb hr (fun t9 ht9 hW9 => ⟨⟨(), rfl, trivial, by rw [ht9]; exact hP, hD⟩, hS.F ht9⟩) hS.2.2 d_Mo_source_160
  · have f13 : ¬ 13 < nI v := nI_nlt (a := 13) (b := v) (by omega) (by decide)
    have ee0 : ¬ nI v = 0 := xn_ne (w := 0) (by omega) (by decide) (by omega)
    have ee5 : ¬ nI v = 5 := xn_ne (w := 5) (by omega) (by decide) (by omega)
    have ee6 : ¬ nI v = 6 := xn_ne (w := 6) (by omega) (by decide) (by omega)
    have ee7 : ¬ nI v = 7 := xn_ne (w := 7) (by omega) (by decide) (by omega)
    have ee8 : ¬ nI v = 8 := xn_ne (w := 8) (by omega) (by decide) (by omega)
    have ee9 : ¬ nI v = 9 := xn_ne (w := 9) (by omega) (by decide) (by omega)
    have ee10 : ¬ nI v = 10 := xn_ne (w := 10) (by omega) (by decide) (by omega)
    have ee11 : ¬ nI v = 11 := xn_ne (w := 11) (by omega) (by decide) (by omega)
    have ee12 : ¬ nI v = 12 := xn_ne (w := 12) (by omega) (by decide) (by omega)
    have ee13 : ¬ nI v = 13 := xn_ne (w := 13) (by omega) (by decide) (by omega)
    have f7 : nI v < 7 := nI_lt (a := v) (b := 7) (by omega) (by decide)
    have f9 : nI v < 9 := nI_lt (a := v) (b := 9) (by omega) (by decide)
    have f4 : ¬ 4 < nI v := nI_nlt (a := 4) (b := v) (by omega) (by decide)
    have f10 : ¬ 10 < nI v := nI_nlt (a := 10) (b := v) (by omega) (by decide)
    refine lv_aload_n hx hb d_Mo_source_0 rfl (lv_at hl 0 rfl) ?_
    refine va_get (D := D) (ci := 5) (v := .ref pA) (C := R_Mo) (T := F_Mo) (N := 21) hx hb hg f_Mo hown hK.1 hP 0 rfl rfl 16 (by decide) (hg _ q579) (fun _ h9 => h9) rfl d_Mo_source_1 ?_
    refine lv_iconst (v := 0) hx hb d_Mo_source_4 (by decide) ?_
    refine xa_ld hx hb hK hP 13 0 rfl rfl (kx := 0) (rfl) (by decide) (by decide) d_Mo_source_5 ?_
    have eq9 : ((tm_tw (nI q) h1) 0 : Int32) = nI q := rfl
    refine W.eq (g2 := F0 m 6 ls [.int (nI q)]) (by rw [eq9]) ?_
    refine lv_istore_n hx hb d_Mo_source_6 rfl hl (by decide) rfl (fun ls hl => ?_)
    have hl : lv_has ls 7 [(1, .int (nI q)), (0, .ref m0)] := hl
    refine lv_iload_n hx hb d_Mo_source_7 rfl (lv_at hl 0 rfl) ?_
    refine lv_iconst (v := 0) hx hb d_Mo_source_8 (by decide) ?_
    refine lv_aload_n hx hb d_Mo_source_9 rfl (lv_at hl 1 rfl) ?_
    refine va_get (D := D) (ci := 5) (v := .int (nI n)) (C := R_Mo) (T := F_Mo) (N := 21) hx hb hg f_Mo hown hK.1 hP 0 rfl rfl 1 (by decide) (hg _ q564) (fun _ h9 => h9) rfl d_Mo_source_10 ?_
    refine lv_iconst (v := 1) hx hb d_Mo_source_13 (by decide) ?_
    refine lv_isub hx hb d_Mo_source_14 ?_
    have eq9 : ((nI n) - 1 : Int32) = nI (n - 1) := pk_sub (a := n) (b := 1) (by omega)
    refine W.eq (g2 := F0 m 15 ls [.int (nI (n - 1)), .int 0, .int (nI q)]) (by rw [eq9]) ?_
    refine xr_S (As := [.int (nI q), .int 0, .int (nI (n - 1))]) (rest := []) ⟨hx, hb, hml, hown, hg⟩ (c_Mo_in l D cI cZ cJ (nI q) 0 (nI (n - 1))) m_Mo_in q636 ⟨rfl, rfl⟩ ⟨Nat.le_of_ble_eq_true rfl, Nat.le_of_ble_eq_true rfl⟩ hK hP [] rfl rfl hl.1 rfl (Nat.le_of_ble_eq_true rfl) d_Mo_source_15 ⟨Nat.zero_le _, Nat.zero_le _⟩ ?_
    refine lv_if_eq (tgt := 30) hx hb d_Mo_source_18 rfl (fun hz9 => absurd hz9 (tm_wi_y (nI_le (a := 0) (b := q) (by omega) (by omega)) (nI_le (a := q) (b := n - 1) (by omega) (by omega)))) (fun _ => ?_)
    refine lv_aload_n hx hb d_Mo_source_21 rfl (lv_at hl 1 rfl) ?_
    refine va_get (D := D) (ci := 5) (v := .ref oA) (C := R_Mo) (T := F_Mo) (N := 21) hx hb hg f_Mo hown hK.1 hP 0 rfl rfl 2 (by decide) (hg _ q565) (fun _ h9 => h9) rfl d_Mo_source_22 ?_
    refine lv_iload_n hx hb d_Mo_source_25 rfl (lv_at hl 0 rfl) ?_
    refine xa_ld hx hb hK hP 1 0 rfl rfl (kx := q) (rfl) (by omega) (by decide) d_Mo_source_26 ?_
    have eq9 : (Po q : Int32) = P (4 * q) := hPo q
    refine W.eq (g2 := F0 m 27 ls [.int (P (4 * q))]) (by rw [eq9]) ?_
    refine lv_goto (tgt := 32) hx hb d_Mo_source_27 rfl ?_
    have eq9 : (P (4 * q) : Int32) = nI v := hv
    refine W.eq (g2 := F0 m 32 ls [.int (nI v)]) (by rw [eq9]) ?_
    refine lv_istore_n hx hb d_Mo_source_32 rfl hl (by decide) rfl (fun ls hl => ?_)
    have hl : lv_has ls 7 [(2, .int (nI v)), (1, .int (nI q)), (0, .ref m0)] := hl
    refine lv_iload_n hx hb d_Mo_source_33 rfl (lv_at hl 0 rfl) ?_
    refine lv_bipush (v := 13) hx hb d_Mo_source_34 (by decide) ?_
    refine lv_icmp_le (tgt := 43) hx hb d_Mo_source_36 rfl (fun _ => ?_) (fun hz9 => absurd (nI_le (a := v) (b := 13) (by omega) (by decide)) hz9)
    refine lv_aload_n hx hb d_Mo_source_43 rfl (lv_at hl 2 rfl) ?_
    refine va_get (D := D) (ci := 5) (v := .ref rA) (C := R_Mo) (T := F_Mo) (N := 21) hx hb hg f_Mo hown hK.1 hP 0 rfl rfl 13 (by decide) (hg _ q576) (fun _ h9 => h9) rfl d_Mo_source_44 ?_
    refine lv_aload_n hx hb d_Mo_source_47 rfl (lv_at hl 2 rfl) ?_
    refine va_get (D := D) (ci := 5) (v := .ref aA) (C := R_Mo) (T := F_Mo) (N := 21) hx hb hg f_Mo hown hK.1 hP 0 rfl rfl 3 (by decide) (hg _ q566) (fun _ h9 => h9) rfl d_Mo_source_48 ?_
    refine lv_iload_n hx hb d_Mo_source_51 rfl (lv_at hl 1 rfl) ?_
    refine xa_ld hx hb hK hP 2 0 rfl rfl (kx := q) (rfl) (by omega) (by decide) d_Mo_source_52 ?_
    have eq9 : (Pa q : Int32) = P (4 * q + 1) := hPa q
    refine W.eq (g2 := F0 m 53 ls [.int (P (4 * q + 1)), .ref rA]) (by rw [eq9]) ?_
    refine xa_ld hx hb hK hP 10 0 rfl rfl (kx := a) (ha) (by omega) (by decide) d_Mo_source_53 ?_
    have eq9 : ((tm_jn 8 R0 R1) a : Int32) = R0 a := tm_jn_lo (by omega)
    refine W.eq (g2 := F0 m 54 ls [.int (R0 a)]) (by rw [eq9]) ?_
    refine lv_istore_n hx hb d_Mo_source_54 rfl hl (by decide) rfl (fun ls hl => ?_)
    have hl : lv_has ls 7 [(3, .int (R0 a)), (2, .int (nI v)), (1, .int (nI q)), (0, .ref m0)] := hl
    refine lv_iload_n hx hb d_Mo_source_55 rfl (lv_at hl 1 rfl) ?_
    refine lv_bipush (v := 13) hx hb d_Mo_source_56 (by decide) ?_
    refine lv_icmp_le (tgt := 65) hx hb d_Mo_source_58 rfl (fun _ => ?_) (fun hz9 => absurd (nI_le (a := v) (b := 13) (by omega) (by decide)) hz9)
    refine lv_aload_n hx hb d_Mo_source_65 rfl (lv_at hl 3 rfl) ?_
    refine va_get (D := D) (ci := 5) (v := .ref rA) (C := R_Mo) (T := F_Mo) (N := 21) hx hb hg f_Mo hown hK.1 hP 0 rfl rfl 13 (by decide) (hg _ q576) (fun _ h9 => h9) rfl d_Mo_source_66 ?_
    refine lv_aload_n hx hb d_Mo_source_69 rfl (lv_at hl 3 rfl) ?_
    refine va_get (D := D) (ci := 5) (v := .ref bB) (C := R_Mo) (T := F_Mo) (N := 21) hx hb hg f_Mo hown hK.1 hP 0 rfl rfl 4 (by decide) (hg _ q567) (fun _ h9 => h9) rfl d_Mo_source_70 ?_
    refine lv_iload_n hx hb d_Mo_source_73 rfl (lv_at hl 2 rfl) ?_
    refine xa_ld hx hb hK hP 3 0 rfl rfl (kx := q) (rfl) (by omega) (by decide) d_Mo_source_74 ?_
    have eq9 : (Pb q : Int32) = P (4 * q + 2) := hPb q
    refine W.eq (g2 := F0 m 75 ls [.int (P (4 * q + 2)), .ref rA]) (by rw [eq9]) ?_
    refine xa_ld hx hb hK hP 10 0 rfl rfl (kx := b) (hbb) (by omega) (by decide) d_Mo_source_75 ?_
    have eq9 : ((tm_jn 8 R0 R1) b : Int32) = R0 b := tm_jn_lo (by omega)
    refine W.eq (g2 := F0 m 76 ls [.int (R0 b)]) (by rw [eq9]) ?_
    refine lv_istore hx hb d_Mo_source_76 hl (by decide) rfl (fun ls hl => ?_)
    have hl : lv_has ls 7 [(4, .int (R0 b)), (3, .int (R0 a)), (2, .int (nI v)), (1, .int (nI q)), (0, .ref m0)] := hl
    refine lv_iload_n hx hb d_Mo_source_78 rfl (lv_at hl 2 rfl) ?_
    refine lv_bipush (v := 13) hx hb d_Mo_source_79 (by decide) ?_
    refine lv_icmp_le (tgt := 88) hx hb d_Mo_source_81 rfl (fun _ => ?_) (fun hz9 => absurd (nI_le (a := v) (b := 13) (by omega) (by decide)) hz9)
    refine lv_iload hx hb d_Mo_source_88 (lv_at hl 0 rfl) ?_
    refine lv_aload_n hx hb d_Mo_source_90 rfl (lv_at hl 4 rfl) ?_
    refine va_get (D := D) (ci := 5) (v := .ref cC) (C := R_Mo) (T := F_Mo) (N := 21) hx hb hg f_Mo hown hK.1 hP 0 rfl rfl 5 (by decide) (hg _ q568) (fun _ h9 => h9) rfl d_Mo_source_91 ?_
    refine lv_iload_n hx hb d_Mo_source_94 rfl (lv_at hl 3 rfl) ?_
    refine xa_ld hx hb hK hP 4 0 rfl rfl (kx := q) (rfl) (by omega) (by decide) d_Mo_source_95 ?_
    have eq9 : (Pc q : Int32) = P (4 * q + 3) := hPc q
    refine W.eq (g2 := F0 m 96 ls [.int (P (4 * q + 3)), .int (R0 b)]) (by rw [eq9]) ?_
    refine lv_iadd hx hb d_Mo_source_96 ?_
    refine xr_S (As := [.int ((R0 b) + (P (4 * q + 3)))]) (rest := []) ⟨hx, hb, hml, hown, hg⟩ (c_Mo_round l D cI cZ cJ ((R0 b) + (P (4 * q + 3)))) m_Mo_round q725 ⟨rfl, rfl⟩ ⟨Nat.le_of_ble_eq_true rfl, Nat.le_of_ble_eq_true rfl⟩ hK hP [] rfl rfl hl.1 rfl (Nat.le_of_ble_eq_true rfl) d_Mo_source_97 ⟨Nat.zero_le _, Nat.zero_le _⟩ ?_
    refine lv_istore hx hb d_Mo_source_100 hl (by decide) rfl (fun ls hl => ?_)
    have hl : lv_has ls 7 [(5, .int (tm_wr ((R0 b) + (P (4 * q + 3))))), (4, .int (R0 b)), (3, .int (R0 a)), (2, .int (nI v)), (1, .int (nI q)), (0, .ref m0)] := hl
    refine lv_iload_n hx hb d_Mo_source_102 rfl (lv_at hl 3 rfl) ?_
    refine lv_bipush (v := 13) hx hb d_Mo_source_103 (by decide) ?_
    refine lv_icmp_gt (tgt := 131) hx hb d_Mo_source_105 rfl (fun hz9 => absurd hz9 (f13)) (fun _ => ?_)
    refine lv_iload_n hx hb d_Mo_source_108 rfl (lv_at hl 3 rfl) ?_
    refine lv_bipush (v := 7) hx hb d_Mo_source_109 (by decide) ?_
    refine lv_icmp_eq (tgt := 120) hx hb d_Mo_source_111 rfl (fun hz9 => absurd hz9 (ee7)) (fun _ => ?_)
    refine lv_iload_n hx hb d_Mo_source_114 rfl (lv_at hl 3 rfl) ?_
    refine lv_bipush (v := 8) hx hb d_Mo_source_115 (by decide) ?_
    refine lv_icmp_ne (tgt := 139) hx hb d_Mo_source_117 rfl (fun _ => ?_) (fun hz9 => absurd hz9 (ee8))
    refine lv_aload_n hx hb d_Mo_source_139 rfl (lv_at hl 5 rfl) ?_
    refine va_get (D := D) (ci := 5) (v := .ref dA) (C := R_Mo) (T := F_Mo) (N := 21) hx hb hg f_Mo hown hK.1 hP 0 rfl rfl 17 (by decide) (hg _ q580) (fun _ h9 => h9) rfl d_Mo_source_140 ?_
    refine lv_iconst (v := 0) hx hb d_Mo_source_143 (by decide) ?_
    refine lv_dup2_11 hx hb d_Mo_source_144 rfl rfl ?_
    refine xa_ld hx hb hK hP 14 0 rfl rfl (kx := 0) (rfl) (by decide) (by decide) d_Mo_source_145 ?_
    have eq9 : ((tm_tw d0 d1) 0 : Int32) = d0 := rfl
    refine W.eq (g2 := F0 m 146 ls [.int d0, .int 0, .ref dA]) (by rw [eq9]) ?_
    refine lv_iconst (v := 1) hx hb d_Mo_source_146 (by decide) ?_
    refine lv_iadd hx hb d_Mo_source_147 ?_
    refine xa_st hx hb hK hP hD hS 14 0 rfl rfl (kx := 0) (rfl) (by decide) (by decide) d_Mo_source_148 (fun H locs hP hD hS => ?_)
    have hP : va_P D cls [(m0, .inr (5, [.int th, .int (nI n), .ref oA, .ref aA, .ref bB, .ref cC, .int tl, .int (nI k), .ref gA, .ref zA, .ref bA, .ref sR, .ref sD, .ref rA, .ref eC, .ref eA, .ref pA, .ref dA, .ref kA, .ref acA, .int nx])), (oA, .inl (cI, 24, .inl Po)), (aA, .inl (cI, 24, .inl Pa)), (bB, .inl (cI, 24, .inl Pb)), (cC, .inl (cI, 24, .inl Pc)), (gA, .inl (cI, 1600, .inl G)), (zA, .inl (cZ, 400, .inl O)), (bA, .inl (cI, 25, .inl B)), (sR, .inl (cI, 8, .inl sr)), (sD, .inl (cI, 32, .inl sd)), (rA, .inl (cI, 16, .inl (tm_jn 8 R0 R1))), (eC, .inl (cI, 128, .inl (tm_jn 64 C0 C1))), (eA, .inl (cI, 2, .inl (tm_tw e0 e1))), (pA, .inl (cI, 2, .inl (tm_tw (nI q) h1))), (dA, .inl (cI, 2, .inl (upd (tm_tw d0 d1) 0 (d0 + 1)))), (kA, .inl (cI, 2, .inl (tm_tw (nI k0) (nI k1)))), (acA, .inl (cI, 240, .inl (tm_jn 120 A0 A1)))] H := hP
    have hD : va_D A [(m0, .inr (5, [.int th, .int (nI n), .ref oA, .ref aA, .ref bB, .ref cC, .int tl, .int (nI k), .ref gA, .ref zA, .ref bA, .ref sR, .ref sD, .ref rA, .ref eC, .ref eA, .ref pA, .ref dA, .ref kA, .ref acA, .int nx])), (oA, .inl (cI, 24, .inl Po)), (aA, .inl (cI, 24, .inl Pa)), (bB, .inl (cI, 24, .inl Pb)), (cC, .inl (cI, 24, .inl Pc)), (gA, .inl (cI, 1600, .inl G)), (zA, .inl (cZ, 400, .inl O)), (bA, .inl (cI, 25, .inl B)), (sR, .inl (cI, 8, .inl sr)), (sD, .inl (cI, 32, .inl sd)), (rA, .inl (cI, 16, .inl (tm_jn 8 R0 R1))), (eC, .inl (cI, 128, .inl (tm_jn 64 C0 C1))), (eA, .inl (cI, 2, .inl (tm_tw e0 e1))), (pA, .inl (cI, 2, .inl (tm_tw (nI q) h1))), (dA, .inl (cI, 2, .inl (upd (tm_tw d0 d1) 0 (d0 + 1)))), (kA, .inl (cI, 2, .inl (tm_tw (nI k0) (nI k1)))), (acA, .inl (cI, 240, .inl (tm_jn 120 A0 A1)))] := hD
    rw [tm_tw_0] at hP hD
    have hP : va_P D cls [(m0, .inr (5, [.int th, .int (nI n), .ref oA, .ref aA, .ref bB, .ref cC, .int tl, .int (nI k), .ref gA, .ref zA, .ref bA, .ref sR, .ref sD, .ref rA, .ref eC, .ref eA, .ref pA, .ref dA, .ref kA, .ref acA, .int nx])), (oA, .inl (cI, 24, .inl Po)), (aA, .inl (cI, 24, .inl Pa)), (bB, .inl (cI, 24, .inl Pb)), (cC, .inl (cI, 24, .inl Pc)), (gA, .inl (cI, 1600, .inl G)), (zA, .inl (cZ, 400, .inl O)), (bA, .inl (cI, 25, .inl B)), (sR, .inl (cI, 8, .inl sr)), (sD, .inl (cI, 32, .inl sd)), (rA, .inl (cI, 16, .inl (tm_jn 8 R0 R1))), (eC, .inl (cI, 128, .inl (tm_jn 64 C0 C1))), (eA, .inl (cI, 2, .inl (tm_tw e0 e1))), (pA, .inl (cI, 2, .inl (tm_tw (nI q) h1))), (dA, .inl (cI, 2, .inl (tm_tw (d0 + 1) d1))), (kA, .inl (cI, 2, .inl (tm_tw (nI k0) (nI k1)))), (acA, .inl (cI, 240, .inl (tm_jn 120 A0 A1)))] H := hP
    have hD : va_D A [(m0, .inr (5, [.int th, .int (nI n), .ref oA, .ref aA, .ref bB, .ref cC, .int tl, .int (nI k), .ref gA, .ref zA, .ref bA, .ref sR, .ref sD, .ref rA, .ref eC, .ref eA, .ref pA, .ref dA, .ref kA, .ref acA, .int nx])), (oA, .inl (cI, 24, .inl Po)), (aA, .inl (cI, 24, .inl Pa)), (bB, .inl (cI, 24, .inl Pb)), (cC, .inl (cI, 24, .inl Pc)), (gA, .inl (cI, 1600, .inl G)), (zA, .inl (cZ, 400, .inl O)), (bA, .inl (cI, 25, .inl B)), (sR, .inl (cI, 8, .inl sr)), (sD, .inl (cI, 32, .inl sd)), (rA, .inl (cI, 16, .inl (tm_jn 8 R0 R1))), (eC, .inl (cI, 128, .inl (tm_jn 64 C0 C1))), (eA, .inl (cI, 2, .inl (tm_tw e0 e1))), (pA, .inl (cI, 2, .inl (tm_tw (nI q) h1))), (dA, .inl (cI, 2, .inl (tm_tw (d0 + 1) d1))), (kA, .inl (cI, 2, .inl (tm_tw (nI k0) (nI k1)))), (acA, .inl (cI, 240, .inl (tm_jn 120 A0 A1)))] := hD
    refine lv_iload_n hx hb d_Mo_source_149 rfl (lv_at hl 3 rfl) ?_
    refine lv_if_ne (tgt := 161) hx hb d_Mo_source_150 rfl (fun _ => ?_) (fun hz9 => absurd hz9 (ee0))
    refine lv_aload_n hx hb d_Mo_source_161 rfl (lv_at hl 5 rfl) ?_
    refine va_get (D := D) (ci := 5) (v := .int nx) (C := R_Mo) (T := F_Mo) (N := 21) hx hb hg f_Mo hown hK.1 hP 0 rfl rfl 20 (by decide) (hg _ q583) (fun _ h9 => h9) rfl d_Mo_source_162 ?_
    refine lv_iconst (v := 1) hx hb d_Mo_source_165 (by decide) ?_
    refine lv_iadd hx hb d_Mo_source_166 ?_
    refine lv_istore hx hb d_Mo_source_167 hl (by decide) rfl (fun ls hl => ?_)
    have hl : lv_has ls 7 [(6, .int (nx + 1)), (5, .int (tm_wr ((R0 b) + (P (4 * q + 3))))), (4, .int (R0 b)), (3, .int (R0 a)), (2, .int (nI v)), (1, .int (nI q)), (0, .ref m0)] := hl
    refine lv_iload_n hx hb d_Mo_source_169 rfl (lv_at hl 4 rfl) ?_
    refine lv_iconst (v := 5) hx hb d_Mo_source_170 (by decide) ?_
    refine lv_icmp_gt (tgt := 222) hx hb d_Mo_source_171 rfl (fun hz9 => absurd hz9 (nI_nlt (a := 5) (b := v) (by omega) (by decide))) (fun _ => ?_)
    refine lv_aload_n hx hb d_Mo_source_174 rfl (lv_at hl 6 rfl) ?_
    refine va_get (D := D) (ci := 5) (v := .ref rA) (C := R_Mo) (T := F_Mo) (N := 21) hx hb hg f_Mo hown hK.1 hP 0 rfl rfl 13 (by decide) (hg _ q576) (fun _ h9 => h9) rfl d_Mo_source_175 ?_
    refine lv_aload_n hx hb d_Mo_source_178 rfl (lv_at hl 6 rfl) ?_
    refine va_get (D := D) (ci := 5) (v := .ref aA) (C := R_Mo) (T := F_Mo) (N := 21) hx hb hg f_Mo hown hK.1 hP 0 rfl rfl 3 (by decide) (hg _ q566) (fun _ h9 => h9) rfl d_Mo_source_179 ?_
    refine lv_iload_n hx hb d_Mo_source_182 rfl (lv_at hl 5 rfl) ?_
    refine xa_ld hx hb hK hP 2 0 rfl rfl (kx := q) (rfl) (by omega) (by decide) d_Mo_source_183 ?_
    have eq9 : (Pa q : Int32) = P (4 * q + 1) := hPa q
    refine W.eq (g2 := F0 m 184 ls [.int (P (4 * q + 1)), .ref rA]) (by rw [eq9]) ?_
    refine lv_iload_n hx hb d_Mo_source_184 rfl (lv_at hl 4 rfl) ?_
    refine lv_iload hx hb d_Mo_source_185 (lv_at hl 2 rfl) ?_
    refine lv_iload_n hx hb d_Mo_source_187 rfl (lv_at hl 4 rfl) ?_
    refine lv_iconst (v := 5) hx hb d_Mo_source_188 (by decide) ?_
    refine lv_icmp_ne (tgt := 201) hx hb d_Mo_source_189 rfl (fun _ => ?_) (fun hz9 => absurd hz9 (ee5))
    refine lv_aload_n hx hb d_Mo_source_201 rfl (lv_at hl 6 rfl) ?_
    refine va_get (D := D) (ci := 5) (v := .ref rA) (C := R_Mo) (T := F_Mo) (N := 21) hx hb hg f_Mo hown hK.1 hP 0 rfl rfl 13 (by decide) (hg _ q576) (fun _ h9 => h9) rfl d_Mo_source_202 ?_
    refine lv_aload_n hx hb d_Mo_source_205 rfl (lv_at hl 6 rfl) ?_
    refine va_get (D := D) (ci := 5) (v := .ref cC) (C := R_Mo) (T := F_Mo) (N := 21) hx hb hg f_Mo hown hK.1 hP 0 rfl rfl 5 (by decide) (hg _ q568) (fun _ h9 => h9) rfl d_Mo_source_206 ?_
    refine lv_iload_n hx hb d_Mo_source_209 rfl (lv_at hl 5 rfl) ?_
    refine xa_ld hx hb hK hP 4 0 rfl rfl (kx := q) (rfl) (by omega) (by decide) d_Mo_source_210 ?_
    have eq9 : (Pc q : Int32) = P (4 * q + 3) := hPc q
    refine W.eq (g2 := F0 m 211 ls [.int (P (4 * q + 3)), .ref rA, .int (R0 b), .int (nI v), .int (P (4 * q + 1)), .ref rA]) (by rw [eq9]) ?_
    refine lv_bipush (v := 7) hx hb d_Mo_source_211 (by decide) ?_
    refine lv_iand hx hb d_Mo_source_213 ?_
    refine xa_ld hx hb hK hP 10 0 rfl rfl (kx := w) (hw7) (by omega) (by decide) d_Mo_source_214 ?_
    have eq9 : ((tm_jn 8 R0 R1) w : Int32) = R0 w := tm_jn_lo (by omega)
    refine W.eq (g2 := F0 m 215 ls [.int (R0 w), .int (R0 b), .int (nI v), .int (P (4 * q + 1)), .ref rA]) (by rw [eq9]) ?_
    refine xr_S (As := [.int (nI v), .int (R0 b), .int (R0 w)]) (rest := [.int (P (4 * q + 1)), .ref rA]) ⟨hx, hb, hml, hown, hg⟩ (c_Mo_made l D cI cZ cJ (nI v) (R0 b) (R0 w)) m_Mo_made q728 ⟨rfl, rfl⟩ ⟨Nat.le_of_ble_eq_true rfl, Nat.le_of_ble_eq_true rfl⟩ hK hP [] rfl rfl hl.1 rfl (Nat.le_of_ble_eq_true rfl) d_Mo_source_215 ⟨Nat.zero_le _, Nat.zero_le _⟩ ?_
    refine xa_st hx hb hK hP hD hS 10 0 rfl rfl (kx := a) (ha) (by omega) (by decide) d_Mo_source_218 (fun H locs hP hD hS => ?_)
    have hP : va_P D cls [(m0, .inr (5, [.int th, .int (nI n), .ref oA, .ref aA, .ref bB, .ref cC, .int tl, .int (nI k), .ref gA, .ref zA, .ref bA, .ref sR, .ref sD, .ref rA, .ref eC, .ref eA, .ref pA, .ref dA, .ref kA, .ref acA, .int nx])), (oA, .inl (cI, 24, .inl Po)), (aA, .inl (cI, 24, .inl Pa)), (bB, .inl (cI, 24, .inl Pb)), (cC, .inl (cI, 24, .inl Pc)), (gA, .inl (cI, 1600, .inl G)), (zA, .inl (cZ, 400, .inl O)), (bA, .inl (cI, 25, .inl B)), (sR, .inl (cI, 8, .inl sr)), (sD, .inl (cI, 32, .inl sd)), (rA, .inl (cI, 16, .inl (upd (tm_jn 8 R0 R1) a (tm_mk (nI v) (R0 b) (R0 w))))), (eC, .inl (cI, 128, .inl (tm_jn 64 C0 C1))), (eA, .inl (cI, 2, .inl (tm_tw e0 e1))), (pA, .inl (cI, 2, .inl (tm_tw (nI q) h1))), (dA, .inl (cI, 2, .inl (tm_tw (d0 + 1) d1))), (kA, .inl (cI, 2, .inl (tm_tw (nI k0) (nI k1)))), (acA, .inl (cI, 240, .inl (tm_jn 120 A0 A1)))] H := hP
    have hD : va_D A [(m0, .inr (5, [.int th, .int (nI n), .ref oA, .ref aA, .ref bB, .ref cC, .int tl, .int (nI k), .ref gA, .ref zA, .ref bA, .ref sR, .ref sD, .ref rA, .ref eC, .ref eA, .ref pA, .ref dA, .ref kA, .ref acA, .int nx])), (oA, .inl (cI, 24, .inl Po)), (aA, .inl (cI, 24, .inl Pa)), (bB, .inl (cI, 24, .inl Pb)), (cC, .inl (cI, 24, .inl Pc)), (gA, .inl (cI, 1600, .inl G)), (zA, .inl (cZ, 400, .inl O)), (bA, .inl (cI, 25, .inl B)), (sR, .inl (cI, 8, .inl sr)), (sD, .inl (cI, 32, .inl sd)), (rA, .inl (cI, 16, .inl (upd (tm_jn 8 R0 R1) a (tm_mk (nI v) (R0 b) (R0 w))))), (eC, .inl (cI, 128, .inl (tm_jn 64 C0 C1))), (eA, .inl (cI, 2, .inl (tm_tw e0 e1))), (pA, .inl (cI, 2, .inl (tm_tw (nI q) h1))), (dA, .inl (cI, 2, .inl (tm_tw (d0 + 1) d1))), (kA, .inl (cI, 2, .inl (tm_tw (nI k0) (nI k1)))), (acA, .inl (cI, 240, .inl (tm_jn 120 A0 A1)))] := hD
    rw [tm_jn_ul (by omega)] at hP hD
    have hP : va_P D cls [(m0, .inr (5, [.int th, .int (nI n), .ref oA, .ref aA, .ref bB, .ref cC, .int tl, .int (nI k), .ref gA, .ref zA, .ref bA, .ref sR, .ref sD, .ref rA, .ref eC, .ref eA, .ref pA, .ref dA, .ref kA, .ref acA, .int nx])), (oA, .inl (cI, 24, .inl Po)), (aA, .inl (cI, 24, .inl Pa)), (bB, .inl (cI, 24, .inl Pb)), (cC, .inl (cI, 24, .inl Pc)), (gA, .inl (cI, 1600, .inl G)), (zA, .inl (cZ, 400, .inl O)), (bA, .inl (cI, 25, .inl B)), (sR, .inl (cI, 8, .inl sr)), (sD, .inl (cI, 32, .inl sd)), (rA, .inl (cI, 16, .inl (tm_jn 8 (upd R0 a (tm_mk (nI v) (R0 b) (R0 w))) R1))), (eC, .inl (cI, 128, .inl (tm_jn 64 C0 C1))), (eA, .inl (cI, 2, .inl (tm_tw e0 e1))), (pA, .inl (cI, 2, .inl (tm_tw (nI q) h1))), (dA, .inl (cI, 2, .inl (tm_tw (d0 + 1) d1))), (kA, .inl (cI, 2, .inl (tm_tw (nI k0) (nI k1)))), (acA, .inl (cI, 240, .inl (tm_jn 120 A0 A1)))] H := hP
    have hD : va_D A [(m0, .inr (5, [.int th, .int (nI n), .ref oA, .ref aA, .ref bB, .ref cC, .int tl, .int (nI k), .ref gA, .ref zA, .ref bA, .ref sR, .ref sD, .ref rA, .ref eC, .ref eA, .ref pA, .ref dA, .ref kA, .ref acA, .int nx])), (oA, .inl (cI, 24, .inl Po)), (aA, .inl (cI, 24, .inl Pa)), (bB, .inl (cI, 24, .inl Pb)), (cC, .inl (cI, 24, .inl Pc)), (gA, .inl (cI, 1600, .inl G)), (zA, .inl (cZ, 400, .inl O)), (bA, .inl (cI, 25, .inl B)), (sR, .inl (cI, 8, .inl sr)), (sD, .inl (cI, 32, .inl sd)), (rA, .inl (cI, 16, .inl (tm_jn 8 (upd R0 a (tm_mk (nI v) (R0 b) (R0 w))) R1))), (eC, .inl (cI, 128, .inl (tm_jn 64 C0 C1))), (eA, .inl (cI, 2, .inl (tm_tw e0 e1))), (pA, .inl (cI, 2, .inl (tm_tw (nI q) h1))), (dA, .inl (cI, 2, .inl (tm_tw (d0 + 1) d1))), (kA, .inl (cI, 2, .inl (tm_tw (nI k0) (nI k1)))), (acA, .inl (cI, 240, .inl (tm_jn 120 A0 A1)))] := hD
    refine lv_goto (tgt := 350) hx hb d_Mo_source_219 rfl ?_
    refine lv_iload_n hx hb d_Mo_source_350 rfl (lv_at hl 4 rfl) ?_
    refine lv_bipush (v := 12) hx hb d_Mo_source_351 (by decide) ?_
    refine lv_icmp_ne (tgt := 369) hx hb d_Mo_source_353 rfl (fun _ => ?_) (fun hz9 => absurd hz9 (ee12))
    refine lv_aload_n hx hb d_Mo_source_369 rfl (lv_at hl 6 rfl) ?_
    refine va_get (D := D) (ci := 5) (v := .ref rA) (C := R_Mo) (T := F_Mo) (N := 21) hx hb hg f_Mo hown hK.1 hP 0 rfl rfl 13 (by decide) (hg _ q576) (fun _ h9 => h9) rfl d_Mo_source_370 ?_
    refine lv_iconst (v := 0) hx hb d_Mo_source_373 (by decide) ?_
    refine lv_iconst (v := 0) hx hb d_Mo_source_374 (by decide) ?_
    refine xa_st hx hb hK hP hD hS 10 0 rfl rfl (kx := 0) (rfl) (by decide) (by decide) d_Mo_source_375 (fun H locs hP hD hS => ?_)
    have hP : va_P D cls [(m0, .inr (5, [.int th, .int (nI n), .ref oA, .ref aA, .ref bB, .ref cC, .int tl, .int (nI k), .ref gA, .ref zA, .ref bA, .ref sR, .ref sD, .ref rA, .ref eC, .ref eA, .ref pA, .ref dA, .ref kA, .ref acA, .int nx])), (oA, .inl (cI, 24, .inl Po)), (aA, .inl (cI, 24, .inl Pa)), (bB, .inl (cI, 24, .inl Pb)), (cC, .inl (cI, 24, .inl Pc)), (gA, .inl (cI, 1600, .inl G)), (zA, .inl (cZ, 400, .inl O)), (bA, .inl (cI, 25, .inl B)), (sR, .inl (cI, 8, .inl sr)), (sD, .inl (cI, 32, .inl sd)), (rA, .inl (cI, 16, .inl (upd (tm_jn 8 (upd R0 a (tm_mk (nI v) (R0 b) (R0 w))) R1) 0 0))), (eC, .inl (cI, 128, .inl (tm_jn 64 C0 C1))), (eA, .inl (cI, 2, .inl (tm_tw e0 e1))), (pA, .inl (cI, 2, .inl (tm_tw (nI q) h1))), (dA, .inl (cI, 2, .inl (tm_tw (d0 + 1) d1))), (kA, .inl (cI, 2, .inl (tm_tw (nI k0) (nI k1)))), (acA, .inl (cI, 240, .inl (tm_jn 120 A0 A1)))] H := hP
    have hD : va_D A [(m0, .inr (5, [.int th, .int (nI n), .ref oA, .ref aA, .ref bB, .ref cC, .int tl, .int (nI k), .ref gA, .ref zA, .ref bA, .ref sR, .ref sD, .ref rA, .ref eC, .ref eA, .ref pA, .ref dA, .ref kA, .ref acA, .int nx])), (oA, .inl (cI, 24, .inl Po)), (aA, .inl (cI, 24, .inl Pa)), (bB, .inl (cI, 24, .inl Pb)), (cC, .inl (cI, 24, .inl Pc)), (gA, .inl (cI, 1600, .inl G)), (zA, .inl (cZ, 400, .inl O)), (bA, .inl (cI, 25, .inl B)), (sR, .inl (cI, 8, .inl sr)), (sD, .inl (cI, 32, .inl sd)), (rA, .inl (cI, 16, .inl (upd (tm_jn 8 (upd R0 a (tm_mk (nI v) (R0 b) (R0 w))) R1) 0 0))), (eC, .inl (cI, 128, .inl (tm_jn 64 C0 C1))), (eA, .inl (cI, 2, .inl (tm_tw e0 e1))), (pA, .inl (cI, 2, .inl (tm_tw (nI q) h1))), (dA, .inl (cI, 2, .inl (tm_tw (d0 + 1) d1))), (kA, .inl (cI, 2, .inl (tm_tw (nI k0) (nI k1)))), (acA, .inl (cI, 240, .inl (tm_jn 120 A0 A1)))] := hD
    rw [tm_jn_ul (by omega)] at hP hD
    have hP : va_P D cls [(m0, .inr (5, [.int th, .int (nI n), .ref oA, .ref aA, .ref bB, .ref cC, .int tl, .int (nI k), .ref gA, .ref zA, .ref bA, .ref sR, .ref sD, .ref rA, .ref eC, .ref eA, .ref pA, .ref dA, .ref kA, .ref acA, .int nx])), (oA, .inl (cI, 24, .inl Po)), (aA, .inl (cI, 24, .inl Pa)), (bB, .inl (cI, 24, .inl Pb)), (cC, .inl (cI, 24, .inl Pc)), (gA, .inl (cI, 1600, .inl G)), (zA, .inl (cZ, 400, .inl O)), (bA, .inl (cI, 25, .inl B)), (sR, .inl (cI, 8, .inl sr)), (sD, .inl (cI, 32, .inl sd)), (rA, .inl (cI, 16, .inl (tm_jn 8 (upd (upd R0 a (tm_mk (nI v) (R0 b) (R0 w))) 0 0) R1))), (eC, .inl (cI, 128, .inl (tm_jn 64 C0 C1))), (eA, .inl (cI, 2, .inl (tm_tw e0 e1))), (pA, .inl (cI, 2, .inl (tm_tw (nI q) h1))), (dA, .inl (cI, 2, .inl (tm_tw (d0 + 1) d1))), (kA, .inl (cI, 2, .inl (tm_tw (nI k0) (nI k1)))), (acA, .inl (cI, 240, .inl (tm_jn 120 A0 A1)))] H := hP
    have hD : va_D A [(m0, .inr (5, [.int th, .int (nI n), .ref oA, .ref aA, .ref bB, .ref cC, .int tl, .int (nI k), .ref gA, .ref zA, .ref bA, .ref sR, .ref sD, .ref rA, .ref eC, .ref eA, .ref pA, .ref dA, .ref kA, .ref acA, .int nx])), (oA, .inl (cI, 24, .inl Po)), (aA, .inl (cI, 24, .inl Pa)), (bB, .inl (cI, 24, .inl Pb)), (cC, .inl (cI, 24, .inl Pc)), (gA, .inl (cI, 1600, .inl G)), (zA, .inl (cZ, 400, .inl O)), (bA, .inl (cI, 25, .inl B)), (sR, .inl (cI, 8, .inl sr)), (sD, .inl (cI, 32, .inl sd)), (rA, .inl (cI, 16, .inl (tm_jn 8 (upd (upd R0 a (tm_mk (nI v) (R0 b) (R0 w))) 0 0) R1))), (eC, .inl (cI, 128, .inl (tm_jn 64 C0 C1))), (eA, .inl (cI, 2, .inl (tm_tw e0 e1))), (pA, .inl (cI, 2, .inl (tm_tw (nI q) h1))), (dA, .inl (cI, 2, .inl (tm_tw (d0 + 1) d1))), (kA, .inl (cI, 2, .inl (tm_tw (nI k0) (nI k1)))), (acA, .inl (cI, 240, .inl (tm_jn 120 A0 A1)))] := hD
    refine lv_aload_n hx hb d_Mo_source_376 rfl (lv_at hl 6 rfl) ?_
    refine va_get (D := D) (ci := 5) (v := .ref pA) (C := R_Mo) (T := F_Mo) (N := 21) hx hb hg f_Mo hown hK.1 hP 0 rfl rfl 16 (by decide) (hg _ q579) (fun _ h9 => h9) rfl d_Mo_source_377 ?_
    refine lv_iconst (v := 0) hx hb d_Mo_source_380 (by decide) ?_
    refine lv_aload_n hx hb d_Mo_source_381 rfl (lv_at hl 6 rfl) ?_
    refine va_get (D := D) (ci := 5) (v := .int nx) (C := R_Mo) (T := F_Mo) (N := 21) hx hb hg f_Mo hown hK.1 hP 0 rfl rfl 20 (by decide) (hg _ q583) (fun _ h9 => h9) rfl d_Mo_source_382 ?_
    refine xa_st hx hb hK hP hD hS 13 0 rfl rfl (kx := 0) (rfl) (by decide) (by decide) d_Mo_source_385 (fun H locs hP hD hS => ?_)
    have hP : va_P D cls [(m0, .inr (5, [.int th, .int (nI n), .ref oA, .ref aA, .ref bB, .ref cC, .int tl, .int (nI k), .ref gA, .ref zA, .ref bA, .ref sR, .ref sD, .ref rA, .ref eC, .ref eA, .ref pA, .ref dA, .ref kA, .ref acA, .int nx])), (oA, .inl (cI, 24, .inl Po)), (aA, .inl (cI, 24, .inl Pa)), (bB, .inl (cI, 24, .inl Pb)), (cC, .inl (cI, 24, .inl Pc)), (gA, .inl (cI, 1600, .inl G)), (zA, .inl (cZ, 400, .inl O)), (bA, .inl (cI, 25, .inl B)), (sR, .inl (cI, 8, .inl sr)), (sD, .inl (cI, 32, .inl sd)), (rA, .inl (cI, 16, .inl (tm_jn 8 (upd (upd R0 a (tm_mk (nI v) (R0 b) (R0 w))) 0 0) R1))), (eC, .inl (cI, 128, .inl (tm_jn 64 C0 C1))), (eA, .inl (cI, 2, .inl (tm_tw e0 e1))), (pA, .inl (cI, 2, .inl (upd (tm_tw (nI q) h1) 0 nx))), (dA, .inl (cI, 2, .inl (tm_tw (d0 + 1) d1))), (kA, .inl (cI, 2, .inl (tm_tw (nI k0) (nI k1)))), (acA, .inl (cI, 240, .inl (tm_jn 120 A0 A1)))] H := hP
    have hD : va_D A [(m0, .inr (5, [.int th, .int (nI n), .ref oA, .ref aA, .ref bB, .ref cC, .int tl, .int (nI k), .ref gA, .ref zA, .ref bA, .ref sR, .ref sD, .ref rA, .ref eC, .ref eA, .ref pA, .ref dA, .ref kA, .ref acA, .int nx])), (oA, .inl (cI, 24, .inl Po)), (aA, .inl (cI, 24, .inl Pa)), (bB, .inl (cI, 24, .inl Pb)), (cC, .inl (cI, 24, .inl Pc)), (gA, .inl (cI, 1600, .inl G)), (zA, .inl (cZ, 400, .inl O)), (bA, .inl (cI, 25, .inl B)), (sR, .inl (cI, 8, .inl sr)), (sD, .inl (cI, 32, .inl sd)), (rA, .inl (cI, 16, .inl (tm_jn 8 (upd (upd R0 a (tm_mk (nI v) (R0 b) (R0 w))) 0 0) R1))), (eC, .inl (cI, 128, .inl (tm_jn 64 C0 C1))), (eA, .inl (cI, 2, .inl (tm_tw e0 e1))), (pA, .inl (cI, 2, .inl (upd (tm_tw (nI q) h1) 0 nx))), (dA, .inl (cI, 2, .inl (tm_tw (d0 + 1) d1))), (kA, .inl (cI, 2, .inl (tm_tw (nI k0) (nI k1)))), (acA, .inl (cI, 240, .inl (tm_jn 120 A0 A1)))] := hD
    rw [tm_tw_0] at hP hD
    have hP : va_P D cls [(m0, .inr (5, [.int th, .int (nI n), .ref oA, .ref aA, .ref bB, .ref cC, .int tl, .int (nI k), .ref gA, .ref zA, .ref bA, .ref sR, .ref sD, .ref rA, .ref eC, .ref eA, .ref pA, .ref dA, .ref kA, .ref acA, .int nx])), (oA, .inl (cI, 24, .inl Po)), (aA, .inl (cI, 24, .inl Pa)), (bB, .inl (cI, 24, .inl Pb)), (cC, .inl (cI, 24, .inl Pc)), (gA, .inl (cI, 1600, .inl G)), (zA, .inl (cZ, 400, .inl O)), (bA, .inl (cI, 25, .inl B)), (sR, .inl (cI, 8, .inl sr)), (sD, .inl (cI, 32, .inl sd)), (rA, .inl (cI, 16, .inl (tm_jn 8 (upd (upd R0 a (tm_mk (nI v) (R0 b) (R0 w))) 0 0) R1))), (eC, .inl (cI, 128, .inl (tm_jn 64 C0 C1))), (eA, .inl (cI, 2, .inl (tm_tw e0 e1))), (pA, .inl (cI, 2, .inl (tm_tw nx h1))), (dA, .inl (cI, 2, .inl (tm_tw (d0 + 1) d1))), (kA, .inl (cI, 2, .inl (tm_tw (nI k0) (nI k1)))), (acA, .inl (cI, 240, .inl (tm_jn 120 A0 A1)))] H := hP
    have hD : va_D A [(m0, .inr (5, [.int th, .int (nI n), .ref oA, .ref aA, .ref bB, .ref cC, .int tl, .int (nI k), .ref gA, .ref zA, .ref bA, .ref sR, .ref sD, .ref rA, .ref eC, .ref eA, .ref pA, .ref dA, .ref kA, .ref acA, .int nx])), (oA, .inl (cI, 24, .inl Po)), (aA, .inl (cI, 24, .inl Pa)), (bB, .inl (cI, 24, .inl Pb)), (cC, .inl (cI, 24, .inl Pc)), (gA, .inl (cI, 1600, .inl G)), (zA, .inl (cZ, 400, .inl O)), (bA, .inl (cI, 25, .inl B)), (sR, .inl (cI, 8, .inl sr)), (sD, .inl (cI, 32, .inl sd)), (rA, .inl (cI, 16, .inl (tm_jn 8 (upd (upd R0 a (tm_mk (nI v) (R0 b) (R0 w))) 0 0) R1))), (eC, .inl (cI, 128, .inl (tm_jn 64 C0 C1))), (eA, .inl (cI, 2, .inl (tm_tw e0 e1))), (pA, .inl (cI, 2, .inl (tm_tw nx h1))), (dA, .inl (cI, 2, .inl (tm_tw (d0 + 1) d1))), (kA, .inl (cI, 2, .inl (tm_tw (nI k0) (nI k1)))), (acA, .inl (cI, 240, .inl (tm_jn 120 A0 A1)))] := hD
    refine lv_aload_n hx hb d_Mo_source_386 rfl (lv_at hl 6 rfl) ?_
    refine lv_iload hx hb d_Mo_source_387 (lv_at hl 0 rfl) ?_
    refine va_put (D := D) (ci := 5) (v := .int (nx + 1)) (ty := .int) (C := R_Mo) (T := F_Mo) (N := 21) hx hb hg f_Mo t_Mo t_Mo_ok n_Mo hown hK.1 hP hD hS 0 rfl rfl 20 (by decide) (hg _ q583) (fun _ h9 => h9) rfl (by decide +kernel) rfl rfl (Nat.le_of_ble_eq_true rfl) d_Mo_source_389 (fun H locs hP hD hS => ?_)
    have hP : va_P D cls [(m0, .inr (5, [.int th, .int (nI n), .ref oA, .ref aA, .ref bB, .ref cC, .int tl, .int (nI k), .ref gA, .ref zA, .ref bA, .ref sR, .ref sD, .ref rA, .ref eC, .ref eA, .ref pA, .ref dA, .ref kA, .ref acA, .int (nx + 1)])), (oA, .inl (cI, 24, .inl Po)), (aA, .inl (cI, 24, .inl Pa)), (bB, .inl (cI, 24, .inl Pb)), (cC, .inl (cI, 24, .inl Pc)), (gA, .inl (cI, 1600, .inl G)), (zA, .inl (cZ, 400, .inl O)), (bA, .inl (cI, 25, .inl B)), (sR, .inl (cI, 8, .inl sr)), (sD, .inl (cI, 32, .inl sd)), (rA, .inl (cI, 16, .inl (tm_jn 8 (upd (upd R0 a (tm_mk (nI v) (R0 b) (R0 w))) 0 0) R1))), (eC, .inl (cI, 128, .inl (tm_jn 64 C0 C1))), (eA, .inl (cI, 2, .inl (tm_tw e0 e1))), (pA, .inl (cI, 2, .inl (tm_tw nx h1))), (dA, .inl (cI, 2, .inl (tm_tw (d0 + 1) d1))), (kA, .inl (cI, 2, .inl (tm_tw (nI k0) (nI k1)))), (acA, .inl (cI, 240, .inl (tm_jn 120 A0 A1)))] H := hP
    have hD : va_D A [(m0, .inr (5, [.int th, .int (nI n), .ref oA, .ref aA, .ref bB, .ref cC, .int tl, .int (nI k), .ref gA, .ref zA, .ref bA, .ref sR, .ref sD, .ref rA, .ref eC, .ref eA, .ref pA, .ref dA, .ref kA, .ref acA, .int (nx + 1)])), (oA, .inl (cI, 24, .inl Po)), (aA, .inl (cI, 24, .inl Pa)), (bB, .inl (cI, 24, .inl Pb)), (cC, .inl (cI, 24, .inl Pc)), (gA, .inl (cI, 1600, .inl G)), (zA, .inl (cZ, 400, .inl O)), (bA, .inl (cI, 25, .inl B)), (sR, .inl (cI, 8, .inl sr)), (sD, .inl (cI, 32, .inl sd)), (rA, .inl (cI, 16, .inl (tm_jn 8 (upd (upd R0 a (tm_mk (nI v) (R0 b) (R0 w))) 0 0) R1))), (eC, .inl (cI, 128, .inl (tm_jn 64 C0 C1))), (eA, .inl (cI, 2, .inl (tm_tw e0 e1))), (pA, .inl (cI, 2, .inl (tm_tw nx h1))), (dA, .inl (cI, 2, .inl (tm_tw (d0 + 1) d1))), (kA, .inl (cI, 2, .inl (tm_tw (nI k0) (nI k1)))), (acA, .inl (cI, 240, .inl (tm_jn 120 A0 A1)))] := hD
    have ew1 : nx + 1 = (tm_ss P q (R0, C0, A0, k0, nI q, d0, e0, nx)).2.2.2.2.2.2.2 := by first | rfl | (simp [tm_ss, hv, f13, ee0, ee5, ee6, ee7, ee8, ee9, ee10, ee11, ee12, ee13, f7, f9, f4, f10]; done) | (simp [tm_ss, hv, f13, ee0, ee5, ee6, ee7, ee8, ee9, ee10, ee11, ee12, ee13, f7, f9, f4, f10, Nat.add_assoc]; done)
    have ew2_0 : (upd (upd R0 a (tm_mk (nI v) (R0 b) (R0 w))) 0 0) = ((tm_ss P q (R0, C0, A0, k0, nI q, d0, e0, nx)).1) := by rw [tm_set_m hR0 ha8, tm_mk_calc (by omega) (hsh b hb8) (hsh w hw8)]; simp [tm_ss, tm_alu, hv, ha, hbb, hw7, hc_b, hc_w, f13, ee0, ee5, ee6, ee7, ee8, ee9, ee10, ee11, ee12, ee13, f7, f9, f4, f10]
    have ew2 : tm_jn 8 (upd (upd R0 a (tm_mk (nI v) (R0 b) (R0 w))) 0 0) R1 = tm_jn 8 ((tm_ss P q (R0, C0, A0, k0, nI q, d0, e0, nx)).1) R1 := congr (congrArg (tm_jn 8) ew2_0) rfl
    have ew3_0 : C0 = ((tm_ss P q (R0, C0, A0, k0, nI q, d0, e0, nx)).2.1) := by first | rfl | (simp [tm_ss, hv, f13, ee0, ee5, ee6, ee7, ee8, ee9, ee10, ee11, ee12, ee13, f7, f9, f4, f10]; done)
    have ew3 : tm_jn 64 C0 C1 = tm_jn 64 ((tm_ss P q (R0, C0, A0, k0, nI q, d0, e0, nx)).2.1) C1 := congr (congrArg (tm_jn 64) ew3_0) rfl
    have ew4_0 : e0 = ((tm_ss P q (R0, C0, A0, k0, nI q, d0, e0, nx)).2.2.2.2.2.2.1) := by first | rfl | (simp [tm_ss, hv, f13, ee0, ee5, ee6, ee7, ee8, ee9, ee10, ee11, ee12, ee13, f7, f9, f4, f10]; done)
    have ew4 : tm_tw e0 e1 = tm_tw ((tm_ss P q (R0, C0, A0, k0, nI q, d0, e0, nx)).2.2.2.2.2.2.1) e1 := congr (congrArg (tm_tw) ew4_0) rfl
    have ew5_0 : nx = ((tm_ss P q (R0, C0, A0, k0, nI q, d0, e0, nx)).2.2.2.2.1) := by first | rfl | (simp [tm_ss, hv, f13, ee0, ee5, ee6, ee7, ee8, ee9, ee10, ee11, ee12, ee13, f7, f9, f4, f10]; done)
    have ew5 : tm_tw nx h1 = tm_tw ((tm_ss P q (R0, C0, A0, k0, nI q, d0, e0, nx)).2.2.2.2.1) h1 := congr (congrArg (tm_tw) ew5_0) rfl
    have ew6_0 : (d0 + 1) = ((tm_ss P q (R0, C0, A0, k0, nI q, d0, e0, nx)).2.2.2.2.2.1) := by first | rfl | (simp [tm_ss, hv, f13, ee0, ee5, ee6, ee7, ee8, ee9, ee10, ee11, ee12, ee13, f7, f9, f4, f10]; done)
    have ew6 : tm_tw (d0 + 1) d1 = tm_tw ((tm_ss P q (R0, C0, A0, k0, nI q, d0, e0, nx)).2.2.2.2.2.1) d1 := congr (congrArg (tm_tw) ew6_0) rfl
    have ew7_0 : (nI k0) = (nI (tm_ss P q (R0, C0, A0, k0, nI q, d0, e0, nx)).2.2.2.1) := congrArg nI (by first | (simp [tm_ss, hv, f13, ee0, ee5, ee6, ee7, ee8, ee9, ee10, ee11, ee12, ee13, f7, f9, f4, f10]; done) | (simp [tm_ss, hv, f13, ee0, ee5, ee6, ee7, ee8, ee9, ee10, ee11, ee12, ee13, f7, f9, f4, f10]; omega) | omega)
    have ew7 : tm_tw (nI k0) (nI k1) = tm_tw (nI (tm_ss P q (R0, C0, A0, k0, nI q, d0, e0, nx)).2.2.2.1) (nI k1) := congr (congrArg (tm_tw) ew7_0) rfl
    have ew8_0 : A0 = ((tm_ss P q (R0, C0, A0, k0, nI q, d0, e0, nx)).2.2.1) := by first | rfl | (simp [tm_ss, hv, f13, ee0, ee5, ee6, ee7, ee8, ee9, ee10, ee11, ee12, ee13, f7, f9, f4, f10]; done)
    have ew8 : tm_jn 120 A0 A1 = tm_jn 120 ((tm_ss P q (R0, C0, A0, k0, nI q, d0, e0, nx)).2.2.1) A1 := congr (congrArg (tm_jn 120) ew8_0) rfl
    have hP : va_P D cls [(m0, .inr (5, [.int th, .int (nI n), .ref oA, .ref aA, .ref bB, .ref cC, .int tl, .int (nI k), .ref gA, .ref zA, .ref bA, .ref sR, .ref sD, .ref rA, .ref eC, .ref eA, .ref pA, .ref dA, .ref kA, .ref acA, .int ((tm_ss P q (R0, C0, A0, k0, nI q, d0, e0, nx)).2.2.2.2.2.2.2)])), (oA, .inl (cI, 24, .inl Po)), (aA, .inl (cI, 24, .inl Pa)), (bB, .inl (cI, 24, .inl Pb)), (cC, .inl (cI, 24, .inl Pc)), (gA, .inl (cI, 1600, .inl G)), (zA, .inl (cZ, 400, .inl O)), (bA, .inl (cI, 25, .inl B)), (sR, .inl (cI, 8, .inl sr)), (sD, .inl (cI, 32, .inl sd)), (rA, .inl (cI, 16, .inl (tm_jn 8 ((tm_ss P q (R0, C0, A0, k0, nI q, d0, e0, nx)).1) R1))), (eC, .inl (cI, 128, .inl (tm_jn 64 ((tm_ss P q (R0, C0, A0, k0, nI q, d0, e0, nx)).2.1) C1))), (eA, .inl (cI, 2, .inl (tm_tw ((tm_ss P q (R0, C0, A0, k0, nI q, d0, e0, nx)).2.2.2.2.2.2.1) e1))), (pA, .inl (cI, 2, .inl (tm_tw ((tm_ss P q (R0, C0, A0, k0, nI q, d0, e0, nx)).2.2.2.2.1) h1))), (dA, .inl (cI, 2, .inl (tm_tw ((tm_ss P q (R0, C0, A0, k0, nI q, d0, e0, nx)).2.2.2.2.2.1) d1))), (kA, .inl (cI, 2, .inl (tm_tw (nI (tm_ss P q (R0, C0, A0, k0, nI q, d0, e0, nx)).2.2.2.1) (nI k1)))), (acA, .inl (cI, 240, .inl (tm_jn 120 ((tm_ss P q (R0, C0, A0, k0, nI q, d0, e0, nx)).2.2.1) A1)))] H := by rw [← ew1, ← ew2, ← ew3, ← ew4, ← ew5, ← ew6, ← ew7, ← ew8]; exact hP
    have hD : va_D A [(m0, .inr (5, [.int th, .int (nI n), .ref oA, .ref aA, .ref bB, .ref cC, .int tl, .int (nI k), .ref gA, .ref zA, .ref bA, .ref sR, .ref sD, .ref rA, .ref eC, .ref eA, .ref pA, .ref dA, .ref kA, .ref acA, .int ((tm_ss P q (R0, C0, A0, k0, nI q, d0, e0, nx)).2.2.2.2.2.2.2)])), (oA, .inl (cI, 24, .inl Po)), (aA, .inl (cI, 24, .inl Pa)), (bB, .inl (cI, 24, .inl Pb)), (cC, .inl (cI, 24, .inl Pc)), (gA, .inl (cI, 1600, .inl G)), (zA, .inl (cZ, 400, .inl O)), (bA, .inl (cI, 25, .inl B)), (sR, .inl (cI, 8, .inl sr)), (sD, .inl (cI, 32, .inl sd)), (rA, .inl (cI, 16, .inl (tm_jn 8 ((tm_ss P q (R0, C0, A0, k0, nI q, d0, e0, nx)).1) R1))), (eC, .inl (cI, 128, .inl (tm_jn 64 ((tm_ss P q (R0, C0, A0, k0, nI q, d0, e0, nx)).2.1) C1))), (eA, .inl (cI, 2, .inl (tm_tw ((tm_ss P q (R0, C0, A0, k0, nI q, d0, e0, nx)).2.2.2.2.2.2.1) e1))), (pA, .inl (cI, 2, .inl (tm_tw ((tm_ss P q (R0, C0, A0, k0, nI q, d0, e0, nx)).2.2.2.2.1) h1))), (dA, .inl (cI, 2, .inl (tm_tw ((tm_ss P q (R0, C0, A0, k0, nI q, d0, e0, nx)).2.2.2.2.2.1) d1))), (kA, .inl (cI, 2, .inl (tm_tw (nI (tm_ss P q (R0, C0, A0, k0, nI q, d0, e0, nx)).2.2.2.1) (nI k1)))), (acA, .inl (cI, 240, .inl (tm_jn 120 ((tm_ss P q (R0, C0, A0, k0, nI q, d0, e0, nx)).2.2.1) A1)))] := by rw [← ew1, ← ew2, ← ew3, ← ew4, ← ew5, ← ew6, ← ew7, ← ew8]; exact hD
    exact W.vret hx hb hr (fun t9 ht9 hW9 => ⟨⟨(), rfl, trivial, by rw [ht9]; exact hP, hD⟩, hS.F ht9⟩) hS.2.2 d_Mo_source_392
  · have f13 : ¬ 13 < nI v := nI_nlt (a := 13) (b := v) (by omega) (by decide)
    have ee0 : ¬ nI v = 0 := xn_ne (w := 0) (by omega) (by decide) (by omega)
    have ee5 : nI v = 5 := by rw [hcase]; rfl
    have ee6 : ¬ nI v = 6 := xn_ne (w := 6) (by omega) (by decide) (by omega)
    have ee7 : ¬ nI v = 7 := xn_ne (w := 7) (by omega) (by decide) (by omega)
    have ee8 : ¬ nI v = 8 := xn_ne (w := 8) (by omega) (by decide) (by omega)
    have ee9 : ¬ nI v = 9 := xn_ne (w := 9) (by omega) (by decide) (by omega)
    have ee10 : ¬ nI v = 10 := xn_ne (w := 10) (by omega) (by decide) (by omega)
    have ee11 : ¬ nI v = 11 := xn_ne (w := 11) (by omega) (by decide) (by omega)
    have ee12 : ¬ nI v = 12 := xn_ne (w := 12) (by omega) (by decide) (by omega)
    have ee13 : ¬ nI v = 13 := xn_ne (w := 13) (by omega) (by decide) (by omega)
    have f7 : nI v < 7 := nI_lt (a := v) (b := 7) (by omega) (by decide)
    have f9 : nI v < 9 := nI_lt (a := v) (b := 9) (by omega) (by decide)
    have f4 : 4 < nI v := nI_lt (a := 4) (b := v) (by omega) (by omega)
    have f10 : ¬ 10 < nI v := nI_nlt (a := 10) (b := v) (by omega) (by decide)
    refine lv_aload_n hx hb d_Mo_source_0 rfl (lv_at hl 0 rfl) ?_
    refine va_get (D := D) (ci := 5) (v := .ref pA) (C := R_Mo) (T := F_Mo) (N := 21) hx hb hg f_Mo hown hK.1 hP 0 rfl rfl 16 (by decide) (hg _ q579) (fun _ h9 => h9) rfl d_Mo_source_1 ?_
    refine lv_iconst (v := 0) hx hb d_Mo_source_4 (by decide) ?_
    refine xa_ld hx hb hK hP 13 0 rfl rfl (kx := 0) (rfl) (by decide) (by decide) d_Mo_source_5 ?_
    have eq9 : ((tm_tw (nI q) h1) 0 : Int32) = nI q := rfl
    refine W.eq (g2 := F0 m 6 ls [.int (nI q)]) (by rw [eq9]) ?_
    refine lv_istore_n hx hb d_Mo_source_6 rfl hl (by decide) rfl (fun ls hl => ?_)
    have hl : lv_has ls 7 [(1, .int (nI q)), (0, .ref m0)] := hl
    refine lv_iload_n hx hb d_Mo_source_7 rfl (lv_at hl 0 rfl) ?_
    refine lv_iconst (v := 0) hx hb d_Mo_source_8 (by decide) ?_
    refine lv_aload_n hx hb d_Mo_source_9 rfl (lv_at hl 1 rfl) ?_
    refine va_get (D := D) (ci := 5) (v := .int (nI n)) (C := R_Mo) (T := F_Mo) (N := 21) hx hb hg f_Mo hown hK.1 hP 0 rfl rfl 1 (by decide) (hg _ q564) (fun _ h9 => h9) rfl d_Mo_source_10 ?_
    refine lv_iconst (v := 1) hx hb d_Mo_source_13 (by decide) ?_
    refine lv_isub hx hb d_Mo_source_14 ?_
    have eq9 : ((nI n) - 1 : Int32) = nI (n - 1) := pk_sub (a := n) (b := 1) (by omega)
    refine W.eq (g2 := F0 m 15 ls [.int (nI (n - 1)), .int 0, .int (nI q)]) (by rw [eq9]) ?_
    refine xr_S (As := [.int (nI q), .int 0, .int (nI (n - 1))]) (rest := []) ⟨hx, hb, hml, hown, hg⟩ (c_Mo_in l D cI cZ cJ (nI q) 0 (nI (n - 1))) m_Mo_in q636 ⟨rfl, rfl⟩ ⟨Nat.le_of_ble_eq_true rfl, Nat.le_of_ble_eq_true rfl⟩ hK hP [] rfl rfl hl.1 rfl (Nat.le_of_ble_eq_true rfl) d_Mo_source_15 ⟨Nat.zero_le _, Nat.zero_le _⟩ ?_
    refine lv_if_eq (tgt := 30) hx hb d_Mo_source_18 rfl (fun hz9 => absurd hz9 (tm_wi_y (nI_le (a := 0) (b := q) (by omega) (by omega)) (nI_le (a := q) (b := n - 1) (by omega) (by omega)))) (fun _ => ?_)
    refine lv_aload_n hx hb d_Mo_source_21 rfl (lv_at hl 1 rfl) ?_
    refine va_get (D := D) (ci := 5) (v := .ref oA) (C := R_Mo) (T := F_Mo) (N := 21) hx hb hg f_Mo hown hK.1 hP 0 rfl rfl 2 (by decide) (hg _ q565) (fun _ h9 => h9) rfl d_Mo_source_22 ?_
    refine lv_iload_n hx hb d_Mo_source_25 rfl (lv_at hl 0 rfl) ?_
    refine xa_ld hx hb hK hP 1 0 rfl rfl (kx := q) (rfl) (by omega) (by decide) d_Mo_source_26 ?_
    have eq9 : (Po q : Int32) = P (4 * q) := hPo q
    refine W.eq (g2 := F0 m 27 ls [.int (P (4 * q))]) (by rw [eq9]) ?_
    refine lv_goto (tgt := 32) hx hb d_Mo_source_27 rfl ?_
    have eq9 : (P (4 * q) : Int32) = nI v := hv
    refine W.eq (g2 := F0 m 32 ls [.int (nI v)]) (by rw [eq9]) ?_
    refine lv_istore_n hx hb d_Mo_source_32 rfl hl (by decide) rfl (fun ls hl => ?_)
    have hl : lv_has ls 7 [(2, .int (nI v)), (1, .int (nI q)), (0, .ref m0)] := hl
    refine lv_iload_n hx hb d_Mo_source_33 rfl (lv_at hl 0 rfl) ?_
    refine lv_bipush (v := 13) hx hb d_Mo_source_34 (by decide) ?_
    refine lv_icmp_le (tgt := 43) hx hb d_Mo_source_36 rfl (fun _ => ?_) (fun hz9 => absurd (nI_le (a := v) (b := 13) (by omega) (by decide)) hz9)
    refine lv_aload_n hx hb d_Mo_source_43 rfl (lv_at hl 2 rfl) ?_
    refine va_get (D := D) (ci := 5) (v := .ref rA) (C := R_Mo) (T := F_Mo) (N := 21) hx hb hg f_Mo hown hK.1 hP 0 rfl rfl 13 (by decide) (hg _ q576) (fun _ h9 => h9) rfl d_Mo_source_44 ?_
    refine lv_aload_n hx hb d_Mo_source_47 rfl (lv_at hl 2 rfl) ?_
    refine va_get (D := D) (ci := 5) (v := .ref aA) (C := R_Mo) (T := F_Mo) (N := 21) hx hb hg f_Mo hown hK.1 hP 0 rfl rfl 3 (by decide) (hg _ q566) (fun _ h9 => h9) rfl d_Mo_source_48 ?_
    refine lv_iload_n hx hb d_Mo_source_51 rfl (lv_at hl 1 rfl) ?_
    refine xa_ld hx hb hK hP 2 0 rfl rfl (kx := q) (rfl) (by omega) (by decide) d_Mo_source_52 ?_
    have eq9 : (Pa q : Int32) = P (4 * q + 1) := hPa q
    refine W.eq (g2 := F0 m 53 ls [.int (P (4 * q + 1)), .ref rA]) (by rw [eq9]) ?_
    refine xa_ld hx hb hK hP 10 0 rfl rfl (kx := a) (ha) (by omega) (by decide) d_Mo_source_53 ?_
    have eq9 : ((tm_jn 8 R0 R1) a : Int32) = R0 a := tm_jn_lo (by omega)
    refine W.eq (g2 := F0 m 54 ls [.int (R0 a)]) (by rw [eq9]) ?_
    refine lv_istore_n hx hb d_Mo_source_54 rfl hl (by decide) rfl (fun ls hl => ?_)
    have hl : lv_has ls 7 [(3, .int (R0 a)), (2, .int (nI v)), (1, .int (nI q)), (0, .ref m0)] := hl
    refine lv_iload_n hx hb d_Mo_source_55 rfl (lv_at hl 1 rfl) ?_
    refine lv_bipush (v := 13) hx hb d_Mo_source_56 (by decide) ?_
    refine lv_icmp_le (tgt := 65) hx hb d_Mo_source_58 rfl (fun _ => ?_) (fun hz9 => absurd (nI_le (a := v) (b := 13) (by omega) (by decide)) hz9)
    refine lv_aload_n hx hb d_Mo_source_65 rfl (lv_at hl 3 rfl) ?_
    refine va_get (D := D) (ci := 5) (v := .ref rA) (C := R_Mo) (T := F_Mo) (N := 21) hx hb hg f_Mo hown hK.1 hP 0 rfl rfl 13 (by decide) (hg _ q576) (fun _ h9 => h9) rfl d_Mo_source_66 ?_
    refine lv_aload_n hx hb d_Mo_source_69 rfl (lv_at hl 3 rfl) ?_
    refine va_get (D := D) (ci := 5) (v := .ref bB) (C := R_Mo) (T := F_Mo) (N := 21) hx hb hg f_Mo hown hK.1 hP 0 rfl rfl 4 (by decide) (hg _ q567) (fun _ h9 => h9) rfl d_Mo_source_70 ?_
    refine lv_iload_n hx hb d_Mo_source_73 rfl (lv_at hl 2 rfl) ?_
    refine xa_ld hx hb hK hP 3 0 rfl rfl (kx := q) (rfl) (by omega) (by decide) d_Mo_source_74 ?_
    have eq9 : (Pb q : Int32) = P (4 * q + 2) := hPb q
    refine W.eq (g2 := F0 m 75 ls [.int (P (4 * q + 2)), .ref rA]) (by rw [eq9]) ?_
    refine xa_ld hx hb hK hP 10 0 rfl rfl (kx := b) (hbb) (by omega) (by decide) d_Mo_source_75 ?_
    have eq9 : ((tm_jn 8 R0 R1) b : Int32) = R0 b := tm_jn_lo (by omega)
    refine W.eq (g2 := F0 m 76 ls [.int (R0 b)]) (by rw [eq9]) ?_
    refine lv_istore hx hb d_Mo_source_76 hl (by decide) rfl (fun ls hl => ?_)
    have hl : lv_has ls 7 [(4, .int (R0 b)), (3, .int (R0 a)), (2, .int (nI v)), (1, .int (nI q)), (0, .ref m0)] := hl
    refine lv_iload_n hx hb d_Mo_source_78 rfl (lv_at hl 2 rfl) ?_
    refine lv_bipush (v := 13) hx hb d_Mo_source_79 (by decide) ?_
    refine lv_icmp_le (tgt := 88) hx hb d_Mo_source_81 rfl (fun _ => ?_) (fun hz9 => absurd (nI_le (a := v) (b := 13) (by omega) (by decide)) hz9)
    refine lv_iload hx hb d_Mo_source_88 (lv_at hl 0 rfl) ?_
    refine lv_aload_n hx hb d_Mo_source_90 rfl (lv_at hl 4 rfl) ?_
    refine va_get (D := D) (ci := 5) (v := .ref cC) (C := R_Mo) (T := F_Mo) (N := 21) hx hb hg f_Mo hown hK.1 hP 0 rfl rfl 5 (by decide) (hg _ q568) (fun _ h9 => h9) rfl d_Mo_source_91 ?_
    refine lv_iload_n hx hb d_Mo_source_94 rfl (lv_at hl 3 rfl) ?_
    refine xa_ld hx hb hK hP 4 0 rfl rfl (kx := q) (rfl) (by omega) (by decide) d_Mo_source_95 ?_
    have eq9 : (Pc q : Int32) = P (4 * q + 3) := hPc q
    refine W.eq (g2 := F0 m 96 ls [.int (P (4 * q + 3)), .int (R0 b)]) (by rw [eq9]) ?_
    refine lv_iadd hx hb d_Mo_source_96 ?_
    refine xr_S (As := [.int ((R0 b) + (P (4 * q + 3)))]) (rest := []) ⟨hx, hb, hml, hown, hg⟩ (c_Mo_round l D cI cZ cJ ((R0 b) + (P (4 * q + 3)))) m_Mo_round q725 ⟨rfl, rfl⟩ ⟨Nat.le_of_ble_eq_true rfl, Nat.le_of_ble_eq_true rfl⟩ hK hP [] rfl rfl hl.1 rfl (Nat.le_of_ble_eq_true rfl) d_Mo_source_97 ⟨Nat.zero_le _, Nat.zero_le _⟩ ?_
    refine lv_istore hx hb d_Mo_source_100 hl (by decide) rfl (fun ls hl => ?_)
    have hl : lv_has ls 7 [(5, .int (tm_wr ((R0 b) + (P (4 * q + 3))))), (4, .int (R0 b)), (3, .int (R0 a)), (2, .int (nI v)), (1, .int (nI q)), (0, .ref m0)] := hl
    refine lv_iload_n hx hb d_Mo_source_102 rfl (lv_at hl 3 rfl) ?_
    refine lv_bipush (v := 13) hx hb d_Mo_source_103 (by decide) ?_
    refine lv_icmp_gt (tgt := 131) hx hb d_Mo_source_105 rfl (fun hz9 => absurd hz9 (f13)) (fun _ => ?_)
    refine lv_iload_n hx hb d_Mo_source_108 rfl (lv_at hl 3 rfl) ?_
    refine lv_bipush (v := 7) hx hb d_Mo_source_109 (by decide) ?_
    refine lv_icmp_eq (tgt := 120) hx hb d_Mo_source_111 rfl (fun hz9 => absurd hz9 (ee7)) (fun _ => ?_)
    refine lv_iload_n hx hb d_Mo_source_114 rfl (lv_at hl 3 rfl) ?_
    refine lv_bipush (v := 8) hx hb d_Mo_source_115 (by decide) ?_
    refine lv_icmp_ne (tgt := 139) hx hb d_Mo_source_117 rfl (fun _ => ?_) (fun hz9 => absurd hz9 (ee8))
    refine lv_aload_n hx hb d_Mo_source_139 rfl (lv_at hl 5 rfl) ?_
    refine va_get (D := D) (ci := 5) (v := .ref dA) (C := R_Mo) (T := F_Mo) (N := 21) hx hb hg f_Mo hown hK.1 hP 0 rfl rfl 17 (by decide) (hg _ q580) (fun _ h9 => h9) rfl d_Mo_source_140 ?_
    refine lv_iconst (v := 0) hx hb d_Mo_source_143 (by decide) ?_
    refine lv_dup2_11 hx hb d_Mo_source_144 rfl rfl ?_
    refine xa_ld hx hb hK hP 14 0 rfl rfl (kx := 0) (rfl) (by decide) (by decide) d_Mo_source_145 ?_
    have eq9 : ((tm_tw d0 d1) 0 : Int32) = d0 := rfl
    refine W.eq (g2 := F0 m 146 ls [.int d0, .int 0, .ref dA]) (by rw [eq9]) ?_
    refine lv_iconst (v := 1) hx hb d_Mo_source_146 (by decide) ?_
    refine lv_iadd hx hb d_Mo_source_147 ?_
    refine xa_st hx hb hK hP hD hS 14 0 rfl rfl (kx := 0) (rfl) (by decide) (by decide) d_Mo_source_148 (fun H locs hP hD hS => ?_)
    have hP : va_P D cls [(m0, .inr (5, [.int th, .int (nI n), .ref oA, .ref aA, .ref bB, .ref cC, .int tl, .int (nI k), .ref gA, .ref zA, .ref bA, .ref sR, .ref sD, .ref rA, .ref eC, .ref eA, .ref pA, .ref dA, .ref kA, .ref acA, .int nx])), (oA, .inl (cI, 24, .inl Po)), (aA, .inl (cI, 24, .inl Pa)), (bB, .inl (cI, 24, .inl Pb)), (cC, .inl (cI, 24, .inl Pc)), (gA, .inl (cI, 1600, .inl G)), (zA, .inl (cZ, 400, .inl O)), (bA, .inl (cI, 25, .inl B)), (sR, .inl (cI, 8, .inl sr)), (sD, .inl (cI, 32, .inl sd)), (rA, .inl (cI, 16, .inl (tm_jn 8 R0 R1))), (eC, .inl (cI, 128, .inl (tm_jn 64 C0 C1))), (eA, .inl (cI, 2, .inl (tm_tw e0 e1))), (pA, .inl (cI, 2, .inl (tm_tw (nI q) h1))), (dA, .inl (cI, 2, .inl (upd (tm_tw d0 d1) 0 (d0 + 1)))), (kA, .inl (cI, 2, .inl (tm_tw (nI k0) (nI k1)))), (acA, .inl (cI, 240, .inl (tm_jn 120 A0 A1)))] H := hP
    have hD : va_D A [(m0, .inr (5, [.int th, .int (nI n), .ref oA, .ref aA, .ref bB, .ref cC, .int tl, .int (nI k), .ref gA, .ref zA, .ref bA, .ref sR, .ref sD, .ref rA, .ref eC, .ref eA, .ref pA, .ref dA, .ref kA, .ref acA, .int nx])), (oA, .inl (cI, 24, .inl Po)), (aA, .inl (cI, 24, .inl Pa)), (bB, .inl (cI, 24, .inl Pb)), (cC, .inl (cI, 24, .inl Pc)), (gA, .inl (cI, 1600, .inl G)), (zA, .inl (cZ, 400, .inl O)), (bA, .inl (cI, 25, .inl B)), (sR, .inl (cI, 8, .inl sr)), (sD, .inl (cI, 32, .inl sd)), (rA, .inl (cI, 16, .inl (tm_jn 8 R0 R1))), (eC, .inl (cI, 128, .inl (tm_jn 64 C0 C1))), (eA, .inl (cI, 2, .inl (tm_tw e0 e1))), (pA, .inl (cI, 2, .inl (tm_tw (nI q) h1))), (dA, .inl (cI, 2, .inl (upd (tm_tw d0 d1) 0 (d0 + 1)))), (kA, .inl (cI, 2, .inl (tm_tw (nI k0) (nI k1)))), (acA, .inl (cI, 240, .inl (tm_jn 120 A0 A1)))] := hD
    rw [tm_tw_0] at hP hD
    have hP : va_P D cls [(m0, .inr (5, [.int th, .int (nI n), .ref oA, .ref aA, .ref bB, .ref cC, .int tl, .int (nI k), .ref gA, .ref zA, .ref bA, .ref sR, .ref sD, .ref rA, .ref eC, .ref eA, .ref pA, .ref dA, .ref kA, .ref acA, .int nx])), (oA, .inl (cI, 24, .inl Po)), (aA, .inl (cI, 24, .inl Pa)), (bB, .inl (cI, 24, .inl Pb)), (cC, .inl (cI, 24, .inl Pc)), (gA, .inl (cI, 1600, .inl G)), (zA, .inl (cZ, 400, .inl O)), (bA, .inl (cI, 25, .inl B)), (sR, .inl (cI, 8, .inl sr)), (sD, .inl (cI, 32, .inl sd)), (rA, .inl (cI, 16, .inl (tm_jn 8 R0 R1))), (eC, .inl (cI, 128, .inl (tm_jn 64 C0 C1))), (eA, .inl (cI, 2, .inl (tm_tw e0 e1))), (pA, .inl (cI, 2, .inl (tm_tw (nI q) h1))), (dA, .inl (cI, 2, .inl (tm_tw (d0 + 1) d1))), (kA, .inl (cI, 2, .inl (tm_tw (nI k0) (nI k1)))), (acA, .inl (cI, 240, .inl (tm_jn 120 A0 A1)))] H := hP
    have hD : va_D A [(m0, .inr (5, [.int th, .int (nI n), .ref oA, .ref aA, .ref bB, .ref cC, .int tl, .int (nI k), .ref gA, .ref zA, .ref bA, .ref sR, .ref sD, .ref rA, .ref eC, .ref eA, .ref pA, .ref dA, .ref kA, .ref acA, .int nx])), (oA, .inl (cI, 24, .inl Po)), (aA, .inl (cI, 24, .inl Pa)), (bB, .inl (cI, 24, .inl Pb)), (cC, .inl (cI, 24, .inl Pc)), (gA, .inl (cI, 1600, .inl G)), (zA, .inl (cZ, 400, .inl O)), (bA, .inl (cI, 25, .inl B)), (sR, .inl (cI, 8, .inl sr)), (sD, .inl (cI, 32, .inl sd)), (rA, .inl (cI, 16, .inl (tm_jn 8 R0 R1))), (eC, .inl (cI, 128, .inl (tm_jn 64 C0 C1))), (eA, .inl (cI, 2, .inl (tm_tw e0 e1))), (pA, .inl (cI, 2, .inl (tm_tw (nI q) h1))), (dA, .inl (cI, 2, .inl (tm_tw (d0 + 1) d1))), (kA, .inl (cI, 2, .inl (tm_tw (nI k0) (nI k1)))), (acA, .inl (cI, 240, .inl (tm_jn 120 A0 A1)))] := hD
    refine lv_iload_n hx hb d_Mo_source_149 rfl (lv_at hl 3 rfl) ?_
    refine lv_if_ne (tgt := 161) hx hb d_Mo_source_150 rfl (fun _ => ?_) (fun hz9 => absurd hz9 (ee0))
    refine lv_aload_n hx hb d_Mo_source_161 rfl (lv_at hl 5 rfl) ?_
    refine va_get (D := D) (ci := 5) (v := .int nx) (C := R_Mo) (T := F_Mo) (N := 21) hx hb hg f_Mo hown hK.1 hP 0 rfl rfl 20 (by decide) (hg _ q583) (fun _ h9 => h9) rfl d_Mo_source_162 ?_
    refine lv_iconst (v := 1) hx hb d_Mo_source_165 (by decide) ?_
    refine lv_iadd hx hb d_Mo_source_166 ?_
    refine lv_istore hx hb d_Mo_source_167 hl (by decide) rfl (fun ls hl => ?_)
    have hl : lv_has ls 7 [(6, .int (nx + 1)), (5, .int (tm_wr ((R0 b) + (P (4 * q + 3))))), (4, .int (R0 b)), (3, .int (R0 a)), (2, .int (nI v)), (1, .int (nI q)), (0, .ref m0)] := hl
    refine lv_iload_n hx hb d_Mo_source_169 rfl (lv_at hl 4 rfl) ?_
    refine lv_iconst (v := 5) hx hb d_Mo_source_170 (by decide) ?_
    refine lv_icmp_gt (tgt := 222) hx hb d_Mo_source_171 rfl (fun hz9 => absurd hz9 (nI_nlt (a := 5) (b := v) (by omega) (by decide))) (fun _ => ?_)
    refine lv_aload_n hx hb d_Mo_source_174 rfl (lv_at hl 6 rfl) ?_
    refine va_get (D := D) (ci := 5) (v := .ref rA) (C := R_Mo) (T := F_Mo) (N := 21) hx hb hg f_Mo hown hK.1 hP 0 rfl rfl 13 (by decide) (hg _ q576) (fun _ h9 => h9) rfl d_Mo_source_175 ?_
    refine lv_aload_n hx hb d_Mo_source_178 rfl (lv_at hl 6 rfl) ?_
    refine va_get (D := D) (ci := 5) (v := .ref aA) (C := R_Mo) (T := F_Mo) (N := 21) hx hb hg f_Mo hown hK.1 hP 0 rfl rfl 3 (by decide) (hg _ q566) (fun _ h9 => h9) rfl d_Mo_source_179 ?_
    refine lv_iload_n hx hb d_Mo_source_182 rfl (lv_at hl 5 rfl) ?_
    refine xa_ld hx hb hK hP 2 0 rfl rfl (kx := q) (rfl) (by omega) (by decide) d_Mo_source_183 ?_
    have eq9 : (Pa q : Int32) = P (4 * q + 1) := hPa q
    refine W.eq (g2 := F0 m 184 ls [.int (P (4 * q + 1)), .ref rA]) (by rw [eq9]) ?_
    refine lv_iload_n hx hb d_Mo_source_184 rfl (lv_at hl 4 rfl) ?_
    refine lv_iload hx hb d_Mo_source_185 (lv_at hl 2 rfl) ?_
    refine lv_iload_n hx hb d_Mo_source_187 rfl (lv_at hl 4 rfl) ?_
    refine lv_iconst (v := 5) hx hb d_Mo_source_188 (by decide) ?_
    refine lv_icmp_ne (tgt := 201) hx hb d_Mo_source_189 rfl (fun hz9 => absurd (ee5) hz9) (fun _ => ?_)
    refine lv_aload_n hx hb d_Mo_source_192 rfl (lv_at hl 6 rfl) ?_
    refine va_get (D := D) (ci := 5) (v := .ref cC) (C := R_Mo) (T := F_Mo) (N := 21) hx hb hg f_Mo hown hK.1 hP 0 rfl rfl 5 (by decide) (hg _ q568) (fun _ h9 => h9) rfl d_Mo_source_193 ?_
    refine lv_iload_n hx hb d_Mo_source_196 rfl (lv_at hl 5 rfl) ?_
    refine xa_ld hx hb hK hP 4 0 rfl rfl (kx := q) (rfl) (by omega) (by decide) d_Mo_source_197 ?_
    have eq9 : (Pc q : Int32) = P (4 * q + 3) := hPc q
    refine W.eq (g2 := F0 m 198 ls [.int (P (4 * q + 3)), .int (R0 b), .int (nI v), .int (P (4 * q + 1)), .ref rA]) (by rw [eq9]) ?_
    refine lv_goto (tgt := 215) hx hb d_Mo_source_198 rfl ?_
    refine xr_S (As := [.int (nI v), .int (R0 b), .int (P (4 * q + 3))]) (rest := [.int (P (4 * q + 1)), .ref rA]) ⟨hx, hb, hml, hown, hg⟩ (c_Mo_made l D cI cZ cJ (nI v) (R0 b) (P (4 * q + 3))) m_Mo_made q728 ⟨rfl, rfl⟩ ⟨Nat.le_of_ble_eq_true rfl, Nat.le_of_ble_eq_true rfl⟩ hK hP [] rfl rfl hl.1 rfl (Nat.le_of_ble_eq_true rfl) d_Mo_source_215 ⟨Nat.zero_le _, Nat.zero_le _⟩ ?_
    refine xa_st hx hb hK hP hD hS 10 0 rfl rfl (kx := a) (ha) (by omega) (by decide) d_Mo_source_218 (fun H locs hP hD hS => ?_)
    have hP : va_P D cls [(m0, .inr (5, [.int th, .int (nI n), .ref oA, .ref aA, .ref bB, .ref cC, .int tl, .int (nI k), .ref gA, .ref zA, .ref bA, .ref sR, .ref sD, .ref rA, .ref eC, .ref eA, .ref pA, .ref dA, .ref kA, .ref acA, .int nx])), (oA, .inl (cI, 24, .inl Po)), (aA, .inl (cI, 24, .inl Pa)), (bB, .inl (cI, 24, .inl Pb)), (cC, .inl (cI, 24, .inl Pc)), (gA, .inl (cI, 1600, .inl G)), (zA, .inl (cZ, 400, .inl O)), (bA, .inl (cI, 25, .inl B)), (sR, .inl (cI, 8, .inl sr)), (sD, .inl (cI, 32, .inl sd)), (rA, .inl (cI, 16, .inl (upd (tm_jn 8 R0 R1) a (tm_mk (nI v) (R0 b) (P (4 * q + 3)))))), (eC, .inl (cI, 128, .inl (tm_jn 64 C0 C1))), (eA, .inl (cI, 2, .inl (tm_tw e0 e1))), (pA, .inl (cI, 2, .inl (tm_tw (nI q) h1))), (dA, .inl (cI, 2, .inl (tm_tw (d0 + 1) d1))), (kA, .inl (cI, 2, .inl (tm_tw (nI k0) (nI k1)))), (acA, .inl (cI, 240, .inl (tm_jn 120 A0 A1)))] H := hP
    have hD : va_D A [(m0, .inr (5, [.int th, .int (nI n), .ref oA, .ref aA, .ref bB, .ref cC, .int tl, .int (nI k), .ref gA, .ref zA, .ref bA, .ref sR, .ref sD, .ref rA, .ref eC, .ref eA, .ref pA, .ref dA, .ref kA, .ref acA, .int nx])), (oA, .inl (cI, 24, .inl Po)), (aA, .inl (cI, 24, .inl Pa)), (bB, .inl (cI, 24, .inl Pb)), (cC, .inl (cI, 24, .inl Pc)), (gA, .inl (cI, 1600, .inl G)), (zA, .inl (cZ, 400, .inl O)), (bA, .inl (cI, 25, .inl B)), (sR, .inl (cI, 8, .inl sr)), (sD, .inl (cI, 32, .inl sd)), (rA, .inl (cI, 16, .inl (upd (tm_jn 8 R0 R1) a (tm_mk (nI v) (R0 b) (P (4 * q + 3)))))), (eC, .inl (cI, 128, .inl (tm_jn 64 C0 C1))), (eA, .inl (cI, 2, .inl (tm_tw e0 e1))), (pA, .inl (cI, 2, .inl (tm_tw (nI q) h1))), (dA, .inl (cI, 2, .inl (tm_tw (d0 + 1) d1))), (kA, .inl (cI, 2, .inl (tm_tw (nI k0) (nI k1)))), (acA, .inl (cI, 240, .inl (tm_jn 120 A0 A1)))] := hD
    rw [tm_jn_ul (by omega)] at hP hD
    have hP : va_P D cls [(m0, .inr (5, [.int th, .int (nI n), .ref oA, .ref aA, .ref bB, .ref cC, .int tl, .int (nI k), .ref gA, .ref zA, .ref bA, .ref sR, .ref sD, .ref rA, .ref eC, .ref eA, .ref pA, .ref dA, .ref kA, .ref acA, .int nx])), (oA, .inl (cI, 24, .inl Po)), (aA, .inl (cI, 24, .inl Pa)), (bB, .inl (cI, 24, .inl Pb)), (cC, .inl (cI, 24, .inl Pc)), (gA, .inl (cI, 1600, .inl G)), (zA, .inl (cZ, 400, .inl O)), (bA, .inl (cI, 25, .inl B)), (sR, .inl (cI, 8, .inl sr)), (sD, .inl (cI, 32, .inl sd)), (rA, .inl (cI, 16, .inl (tm_jn 8 (upd R0 a (tm_mk (nI v) (R0 b) (P (4 * q + 3)))) R1))), (eC, .inl (cI, 128, .inl (tm_jn 64 C0 C1))), (eA, .inl (cI, 2, .inl (tm_tw e0 e1))), (pA, .inl (cI, 2, .inl (tm_tw (nI q) h1))), (dA, .inl (cI, 2, .inl (tm_tw (d0 + 1) d1))), (kA, .inl (cI, 2, .inl (tm_tw (nI k0) (nI k1)))), (acA, .inl (cI, 240, .inl (tm_jn 120 A0 A1)))] H := hP
    have hD : va_D A [(m0, .inr (5, [.int th, .int (nI n), .ref oA, .ref aA, .ref bB, .ref cC, .int tl, .int (nI k), .ref gA, .ref zA, .ref bA, .ref sR, .ref sD, .ref rA, .ref eC, .ref eA, .ref pA, .ref dA, .ref kA, .ref acA, .int nx])), (oA, .inl (cI, 24, .inl Po)), (aA, .inl (cI, 24, .inl Pa)), (bB, .inl (cI, 24, .inl Pb)), (cC, .inl (cI, 24, .inl Pc)), (gA, .inl (cI, 1600, .inl G)), (zA, .inl (cZ, 400, .inl O)), (bA, .inl (cI, 25, .inl B)), (sR, .inl (cI, 8, .inl sr)), (sD, .inl (cI, 32, .inl sd)), (rA, .inl (cI, 16, .inl (tm_jn 8 (upd R0 a (tm_mk (nI v) (R0 b) (P (4 * q + 3)))) R1))), (eC, .inl (cI, 128, .inl (tm_jn 64 C0 C1))), (eA, .inl (cI, 2, .inl (tm_tw e0 e1))), (pA, .inl (cI, 2, .inl (tm_tw (nI q) h1))), (dA, .inl (cI, 2, .inl (tm_tw (d0 + 1) d1))), (kA, .inl (cI, 2, .inl (tm_tw (nI k0) (nI k1)))), (acA, .inl (cI, 240, .inl (tm_jn 120 A0 A1)))] := hD
    refine lv_goto (tgt := 350) hx hb d_Mo_source_219 rfl ?_
    refine lv_iload_n hx hb d_Mo_source_350 rfl (lv_at hl 4 rfl) ?_
    refine lv_bipush (v := 12) hx hb d_Mo_source_351 (by decide) ?_
    refine lv_icmp_ne (tgt := 369) hx hb d_Mo_source_353 rfl (fun _ => ?_) (fun hz9 => absurd hz9 (ee12))
    refine lv_aload_n hx hb d_Mo_source_369 rfl (lv_at hl 6 rfl) ?_
    refine va_get (D := D) (ci := 5) (v := .ref rA) (C := R_Mo) (T := F_Mo) (N := 21) hx hb hg f_Mo hown hK.1 hP 0 rfl rfl 13 (by decide) (hg _ q576) (fun _ h9 => h9) rfl d_Mo_source_370 ?_
    refine lv_iconst (v := 0) hx hb d_Mo_source_373 (by decide) ?_
    refine lv_iconst (v := 0) hx hb d_Mo_source_374 (by decide) ?_
    refine xa_st hx hb hK hP hD hS 10 0 rfl rfl (kx := 0) (rfl) (by decide) (by decide) d_Mo_source_375 (fun H locs hP hD hS => ?_)
    have hP : va_P D cls [(m0, .inr (5, [.int th, .int (nI n), .ref oA, .ref aA, .ref bB, .ref cC, .int tl, .int (nI k), .ref gA, .ref zA, .ref bA, .ref sR, .ref sD, .ref rA, .ref eC, .ref eA, .ref pA, .ref dA, .ref kA, .ref acA, .int nx])), (oA, .inl (cI, 24, .inl Po)), (aA, .inl (cI, 24, .inl Pa)), (bB, .inl (cI, 24, .inl Pb)), (cC, .inl (cI, 24, .inl Pc)), (gA, .inl (cI, 1600, .inl G)), (zA, .inl (cZ, 400, .inl O)), (bA, .inl (cI, 25, .inl B)), (sR, .inl (cI, 8, .inl sr)), (sD, .inl (cI, 32, .inl sd)), (rA, .inl (cI, 16, .inl (upd (tm_jn 8 (upd R0 a (tm_mk (nI v) (R0 b) (P (4 * q + 3)))) R1) 0 0))), (eC, .inl (cI, 128, .inl (tm_jn 64 C0 C1))), (eA, .inl (cI, 2, .inl (tm_tw e0 e1))), (pA, .inl (cI, 2, .inl (tm_tw (nI q) h1))), (dA, .inl (cI, 2, .inl (tm_tw (d0 + 1) d1))), (kA, .inl (cI, 2, .inl (tm_tw (nI k0) (nI k1)))), (acA, .inl (cI, 240, .inl (tm_jn 120 A0 A1)))] H := hP
    have hD : va_D A [(m0, .inr (5, [.int th, .int (nI n), .ref oA, .ref aA, .ref bB, .ref cC, .int tl, .int (nI k), .ref gA, .ref zA, .ref bA, .ref sR, .ref sD, .ref rA, .ref eC, .ref eA, .ref pA, .ref dA, .ref kA, .ref acA, .int nx])), (oA, .inl (cI, 24, .inl Po)), (aA, .inl (cI, 24, .inl Pa)), (bB, .inl (cI, 24, .inl Pb)), (cC, .inl (cI, 24, .inl Pc)), (gA, .inl (cI, 1600, .inl G)), (zA, .inl (cZ, 400, .inl O)), (bA, .inl (cI, 25, .inl B)), (sR, .inl (cI, 8, .inl sr)), (sD, .inl (cI, 32, .inl sd)), (rA, .inl (cI, 16, .inl (upd (tm_jn 8 (upd R0 a (tm_mk (nI v) (R0 b) (P (4 * q + 3)))) R1) 0 0))), (eC, .inl (cI, 128, .inl (tm_jn 64 C0 C1))), (eA, .inl (cI, 2, .inl (tm_tw e0 e1))), (pA, .inl (cI, 2, .inl (tm_tw (nI q) h1))), (dA, .inl (cI, 2, .inl (tm_tw (d0 + 1) d1))), (kA, .inl (cI, 2, .inl (tm_tw (nI k0) (nI k1)))), (acA, .inl (cI, 240, .inl (tm_jn 120 A0 A1)))] := hD
    rw [tm_jn_ul (by omega)] at hP hD
    have hP : va_P D cls [(m0, .inr (5, [.int th, .int (nI n), .ref oA, .ref aA, .ref bB, .ref cC, .int tl, .int (nI k), .ref gA, .ref zA, .ref bA, .ref sR, .ref sD, .ref rA, .ref eC, .ref eA, .ref pA, .ref dA, .ref kA, .ref acA, .int nx])), (oA, .inl (cI, 24, .inl Po)), (aA, .inl (cI, 24, .inl Pa)), (bB, .inl (cI, 24, .inl Pb)), (cC, .inl (cI, 24, .inl Pc)), (gA, .inl (cI, 1600, .inl G)), (zA, .inl (cZ, 400, .inl O)), (bA, .inl (cI, 25, .inl B)), (sR, .inl (cI, 8, .inl sr)), (sD, .inl (cI, 32, .inl sd)), (rA, .inl (cI, 16, .inl (tm_jn 8 (upd (upd R0 a (tm_mk (nI v) (R0 b) (P (4 * q + 3)))) 0 0) R1))), (eC, .inl (cI, 128, .inl (tm_jn 64 C0 C1))), (eA, .inl (cI, 2, .inl (tm_tw e0 e1))), (pA, .inl (cI, 2, .inl (tm_tw (nI q) h1))), (dA, .inl (cI, 2, .inl (tm_tw (d0 + 1) d1))), (kA, .inl (cI, 2, .inl (tm_tw (nI k0) (nI k1)))), (acA, .inl (cI, 240, .inl (tm_jn 120 A0 A1)))] H := hP
    have hD : va_D A [(m0, .inr (5, [.int th, .int (nI n), .ref oA, .ref aA, .ref bB, .ref cC, .int tl, .int (nI k), .ref gA, .ref zA, .ref bA, .ref sR, .ref sD, .ref rA, .ref eC, .ref eA, .ref pA, .ref dA, .ref kA, .ref acA, .int nx])), (oA, .inl (cI, 24, .inl Po)), (aA, .inl (cI, 24, .inl Pa)), (bB, .inl (cI, 24, .inl Pb)), (cC, .inl (cI, 24, .inl Pc)), (gA, .inl (cI, 1600, .inl G)), (zA, .inl (cZ, 400, .inl O)), (bA, .inl (cI, 25, .inl B)), (sR, .inl (cI, 8, .inl sr)), (sD, .inl (cI, 32, .inl sd)), (rA, .inl (cI, 16, .inl (tm_jn 8 (upd (upd R0 a (tm_mk (nI v) (R0 b) (P (4 * q + 3)))) 0 0) R1))), (eC, .inl (cI, 128, .inl (tm_jn 64 C0 C1))), (eA, .inl (cI, 2, .inl (tm_tw e0 e1))), (pA, .inl (cI, 2, .inl (tm_tw (nI q) h1))), (dA, .inl (cI, 2, .inl (tm_tw (d0 + 1) d1))), (kA, .inl (cI, 2, .inl (tm_tw (nI k0) (nI k1)))), (acA, .inl (cI, 240, .inl (tm_jn 120 A0 A1)))] := hD
    refine lv_aload_n hx hb d_Mo_source_376 rfl (lv_at hl 6 rfl) ?_
    refine va_get (D := D) (ci := 5) (v := .ref pA) (C := R_Mo) (T := F_Mo) (N := 21) hx hb hg f_Mo hown hK.1 hP 0 rfl rfl 16 (by decide) (hg _ q579) (fun _ h9 => h9) rfl d_Mo_source_377 ?_
    refine lv_iconst (v := 0) hx hb d_Mo_source_380 (by decide) ?_
    refine lv_aload_n hx hb d_Mo_source_381 rfl (lv_at hl 6 rfl) ?_
    refine va_get (D := D) (ci := 5) (v := .int nx) (C := R_Mo) (T := F_Mo) (N := 21) hx hb hg f_Mo hown hK.1 hP 0 rfl rfl 20 (by decide) (hg _ q583) (fun _ h9 => h9) rfl d_Mo_source_382 ?_
    refine xa_st hx hb hK hP hD hS 13 0 rfl rfl (kx := 0) (rfl) (by decide) (by decide) d_Mo_source_385 (fun H locs hP hD hS => ?_)
    have hP : va_P D cls [(m0, .inr (5, [.int th, .int (nI n), .ref oA, .ref aA, .ref bB, .ref cC, .int tl, .int (nI k), .ref gA, .ref zA, .ref bA, .ref sR, .ref sD, .ref rA, .ref eC, .ref eA, .ref pA, .ref dA, .ref kA, .ref acA, .int nx])), (oA, .inl (cI, 24, .inl Po)), (aA, .inl (cI, 24, .inl Pa)), (bB, .inl (cI, 24, .inl Pb)), (cC, .inl (cI, 24, .inl Pc)), (gA, .inl (cI, 1600, .inl G)), (zA, .inl (cZ, 400, .inl O)), (bA, .inl (cI, 25, .inl B)), (sR, .inl (cI, 8, .inl sr)), (sD, .inl (cI, 32, .inl sd)), (rA, .inl (cI, 16, .inl (tm_jn 8 (upd (upd R0 a (tm_mk (nI v) (R0 b) (P (4 * q + 3)))) 0 0) R1))), (eC, .inl (cI, 128, .inl (tm_jn 64 C0 C1))), (eA, .inl (cI, 2, .inl (tm_tw e0 e1))), (pA, .inl (cI, 2, .inl (upd (tm_tw (nI q) h1) 0 nx))), (dA, .inl (cI, 2, .inl (tm_tw (d0 + 1) d1))), (kA, .inl (cI, 2, .inl (tm_tw (nI k0) (nI k1)))), (acA, .inl (cI, 240, .inl (tm_jn 120 A0 A1)))] H := hP
    have hD : va_D A [(m0, .inr (5, [.int th, .int (nI n), .ref oA, .ref aA, .ref bB, .ref cC, .int tl, .int (nI k), .ref gA, .ref zA, .ref bA, .ref sR, .ref sD, .ref rA, .ref eC, .ref eA, .ref pA, .ref dA, .ref kA, .ref acA, .int nx])), (oA, .inl (cI, 24, .inl Po)), (aA, .inl (cI, 24, .inl Pa)), (bB, .inl (cI, 24, .inl Pb)), (cC, .inl (cI, 24, .inl Pc)), (gA, .inl (cI, 1600, .inl G)), (zA, .inl (cZ, 400, .inl O)), (bA, .inl (cI, 25, .inl B)), (sR, .inl (cI, 8, .inl sr)), (sD, .inl (cI, 32, .inl sd)), (rA, .inl (cI, 16, .inl (tm_jn 8 (upd (upd R0 a (tm_mk (nI v) (R0 b) (P (4 * q + 3)))) 0 0) R1))), (eC, .inl (cI, 128, .inl (tm_jn 64 C0 C1))), (eA, .inl (cI, 2, .inl (tm_tw e0 e1))), (pA, .inl (cI, 2, .inl (upd (tm_tw (nI q) h1) 0 nx))), (dA, .inl (cI, 2, .inl (tm_tw (d0 + 1) d1))), (kA, .inl (cI, 2, .inl (tm_tw (nI k0) (nI k1)))), (acA, .inl (cI, 240, .inl (tm_jn 120 A0 A1)))] := hD
    rw [tm_tw_0] at hP hD
    have hP : va_P D cls [(m0, .inr (5, [.int th, .int (nI n), .ref oA, .ref aA, .ref bB, .ref cC, .int tl, .int (nI k), .ref gA, .ref zA, .ref bA, .ref sR, .ref sD, .ref rA, .ref eC, .ref eA, .ref pA, .ref dA, .ref kA, .ref acA, .int nx])), (oA, .inl (cI, 24, .inl Po)), (aA, .inl (cI, 24, .inl Pa)), (bB, .inl (cI, 24, .inl Pb)), (cC, .inl (cI, 24, .inl Pc)), (gA, .inl (cI, 1600, .inl G)), (zA, .inl (cZ, 400, .inl O)), (bA, .inl (cI, 25, .inl B)), (sR, .inl (cI, 8, .inl sr)), (sD, .inl (cI, 32, .inl sd)), (rA, .inl (cI, 16, .inl (tm_jn 8 (upd (upd R0 a (tm_mk (nI v) (R0 b) (P (4 * q + 3)))) 0 0) R1))), (eC, .inl (cI, 128, .inl (tm_jn 64 C0 C1))), (eA, .inl (cI, 2, .inl (tm_tw e0 e1))), (pA, .inl (cI, 2, .inl (tm_tw nx h1))), (dA, .inl (cI, 2, .inl (tm_tw (d0 + 1) d1))), (kA, .inl (cI, 2, .inl (tm_tw (nI k0) (nI k1)))), (acA, .inl (cI, 240, .inl (tm_jn 120 A0 A1)))] H := hP
    have hD : va_D A [(m0, .inr (5, [.int th, .int (nI n), .ref oA, .ref aA, .ref bB, .ref cC, .int tl, .int (nI k), .ref gA, .ref zA, .ref bA, .ref sR, .ref sD, .ref rA, .ref eC, .ref eA, .ref pA, .ref dA, .ref kA, .ref acA, .int nx])), (oA, .inl (cI, 24, .inl Po)), (aA, .inl (cI, 24, .inl Pa)), (bB, .inl (cI, 24, .inl Pb)), (cC, .inl (cI, 24, .inl Pc)), (gA, .inl (cI, 1600, .inl G)), (zA, .inl (cZ, 400, .inl O)), (bA, .inl (cI, 25, .inl B)), (sR, .inl (cI, 8, .inl sr)), (sD, .inl (cI, 32, .inl sd)), (rA, .inl (cI, 16, .inl (tm_jn 8 (upd (upd R0 a (tm_mk (nI v) (R0 b) (P (4 * q + 3)))) 0 0) R1))), (eC, .inl (cI, 128, .inl (tm_jn 64 C0 C1))), (eA, .inl (cI, 2, .inl (tm_tw e0 e1))), (pA, .inl (cI, 2, .inl (tm_tw nx h1))), (dA, .inl (cI, 2, .inl (tm_tw (d0 + 1) d1))), (kA, .inl (cI, 2, .inl (tm_tw (nI k0) (nI k1)))), (acA, .inl (cI, 240, .inl (tm_jn 120 A0 A1)))] := hD
    refine lv_aload_n hx hb d_Mo_source_386 rfl (lv_at hl 6 rfl) ?_
    refine lv_iload hx hb d_Mo_source_387 (lv_at hl 0 rfl) ?_
    refine va_put (D := D) (ci := 5) (v := .int (nx + 1)) (ty := .int) (C := R_Mo) (T := F_Mo) (N := 21) hx hb hg f_Mo t_Mo t_Mo_ok n_Mo hown hK.1 hP hD hS 0 rfl rfl 20 (by decide) (hg _ q583) (fun _ h9 => h9) rfl (by decide +kernel) rfl rfl (Nat.le_of_ble_eq_true rfl) d_Mo_source_389 (fun H locs hP hD hS => ?_)
    have hP : va_P D cls [(m0, .inr (5, [.int th, .int (nI n), .ref oA, .ref aA, .ref bB, .ref cC, .int tl, .int (nI k), .ref gA, .ref zA, .ref bA, .ref sR, .ref sD, .ref rA, .ref eC, .ref eA, .ref pA, .ref dA, .ref kA, .ref acA, .int (nx + 1)])), (oA, .inl (cI, 24, .inl Po)), (aA, .inl (cI, 24, .inl Pa)), (bB, .inl (cI, 24, .inl Pb)), (cC, .inl (cI, 24, .inl Pc)), (gA, .inl (cI, 1600, .inl G)), (zA, .inl (cZ, 400, .inl O)), (bA, .inl (cI, 25, .inl B)), (sR, .inl (cI, 8, .inl sr)), (sD, .inl (cI, 32, .inl sd)), (rA, .inl (cI, 16, .inl (tm_jn 8 (upd (upd R0 a (tm_mk (nI v) (R0 b) (P (4 * q + 3)))) 0 0) R1))), (eC, .inl (cI, 128, .inl (tm_jn 64 C0 C1))), (eA, .inl (cI, 2, .inl (tm_tw e0 e1))), (pA, .inl (cI, 2, .inl (tm_tw nx h1))), (dA, .inl (cI, 2, .inl (tm_tw (d0 + 1) d1))), (kA, .inl (cI, 2, .inl (tm_tw (nI k0) (nI k1)))), (acA, .inl (cI, 240, .inl (tm_jn 120 A0 A1)))] H := hP
    have hD : va_D A [(m0, .inr (5, [.int th, .int (nI n), .ref oA, .ref aA, .ref bB, .ref cC, .int tl, .int (nI k), .ref gA, .ref zA, .ref bA, .ref sR, .ref sD, .ref rA, .ref eC, .ref eA, .ref pA, .ref dA, .ref kA, .ref acA, .int (nx + 1)])), (oA, .inl (cI, 24, .inl Po)), (aA, .inl (cI, 24, .inl Pa)), (bB, .inl (cI, 24, .inl Pb)), (cC, .inl (cI, 24, .inl Pc)), (gA, .inl (cI, 1600, .inl G)), (zA, .inl (cZ, 400, .inl O)), (bA, .inl (cI, 25, .inl B)), (sR, .inl (cI, 8, .inl sr)), (sD, .inl (cI, 32, .inl sd)), (rA, .inl (cI, 16, .inl (tm_jn 8 (upd (upd R0 a (tm_mk (nI v) (R0 b) (P (4 * q + 3)))) 0 0) R1))), (eC, .inl (cI, 128, .inl (tm_jn 64 C0 C1))), (eA, .inl (cI, 2, .inl (tm_tw e0 e1))), (pA, .inl (cI, 2, .inl (tm_tw nx h1))), (dA, .inl (cI, 2, .inl (tm_tw (d0 + 1) d1))), (kA, .inl (cI, 2, .inl (tm_tw (nI k0) (nI k1)))), (acA, .inl (cI, 240, .inl (tm_jn 120 A0 A1)))] := hD
    have ew1 : nx + 1 = (tm_ss P q (R0, C0, A0, k0, nI q, d0, e0, nx)).2.2.2.2.2.2.2 := by first | rfl | (simp [tm_ss, hv, f13, ee0, ee5, ee6, ee7, ee8, ee9, ee10, ee11, ee12, ee13, f7, f9, f4, f10]; done) | (simp [tm_ss, hv, f13, ee0, ee5, ee6, ee7, ee8, ee9, ee10, ee11, ee12, ee13, f7, f9, f4, f10, Nat.add_assoc]; done)
    have ew2_0 : (upd (upd R0 a (tm_mk (nI v) (R0 b) (P (4 * q + 3)))) 0 0) = ((tm_ss P q (R0, C0, A0, k0, nI q, d0, e0, nx)).1) := by rw [tm_set_m hR0 ha8, tm_mk_calc (by omega) (hsh b hb8) hcs]; simp [tm_ss, tm_alu, hv, ha, hbb, hc_b, f13, ee0, ee5, ee6, ee7, ee8, ee9, ee10, ee11, ee12, ee13, f7, f9, f4, f10]
    have ew2 : tm_jn 8 (upd (upd R0 a (tm_mk (nI v) (R0 b) (P (4 * q + 3)))) 0 0) R1 = tm_jn 8 ((tm_ss P q (R0, C0, A0, k0, nI q, d0, e0, nx)).1) R1 := congr (congrArg (tm_jn 8) ew2_0) rfl
    have ew3_0 : C0 = ((tm_ss P q (R0, C0, A0, k0, nI q, d0, e0, nx)).2.1) := by first | rfl | (simp [tm_ss, hv, f13, ee0, ee5, ee6, ee7, ee8, ee9, ee10, ee11, ee12, ee13, f7, f9, f4, f10]; done)
    have ew3 : tm_jn 64 C0 C1 = tm_jn 64 ((tm_ss P q (R0, C0, A0, k0, nI q, d0, e0, nx)).2.1) C1 := congr (congrArg (tm_jn 64) ew3_0) rfl
    have ew4_0 : e0 = ((tm_ss P q (R0, C0, A0, k0, nI q, d0, e0, nx)).2.2.2.2.2.2.1) := by first | rfl | (simp [tm_ss, hv, f13, ee0, ee5, ee6, ee7, ee8, ee9, ee10, ee11, ee12, ee13, f7, f9, f4, f10]; done)
    have ew4 : tm_tw e0 e1 = tm_tw ((tm_ss P q (R0, C0, A0, k0, nI q, d0, e0, nx)).2.2.2.2.2.2.1) e1 := congr (congrArg (tm_tw) ew4_0) rfl
    have ew5_0 : nx = ((tm_ss P q (R0, C0, A0, k0, nI q, d0, e0, nx)).2.2.2.2.1) := by first | rfl | (simp [tm_ss, hv, f13, ee0, ee5, ee6, ee7, ee8, ee9, ee10, ee11, ee12, ee13, f7, f9, f4, f10]; done)
    have ew5 : tm_tw nx h1 = tm_tw ((tm_ss P q (R0, C0, A0, k0, nI q, d0, e0, nx)).2.2.2.2.1) h1 := congr (congrArg (tm_tw) ew5_0) rfl
    have ew6_0 : (d0 + 1) = ((tm_ss P q (R0, C0, A0, k0, nI q, d0, e0, nx)).2.2.2.2.2.1) := by first | rfl | (simp [tm_ss, hv, f13, ee0, ee5, ee6, ee7, ee8, ee9, ee10, ee11, ee12, ee13, f7, f9, f4, f10]; done)
    have ew6 : tm_tw (d0 + 1) d1 = tm_tw ((tm_ss P q (R0, C0, A0, k0, nI q, d0, e0, nx)).2.2.2.2.2.1) d1 := congr (congrArg (tm_tw) ew6_0) rfl
    have ew7_0 : (nI k0) = (nI (tm_ss P q (R0, C0, A0, k0, nI q, d0, e0, nx)).2.2.2.1) := congrArg nI (by first | (simp [tm_ss, hv, f13, ee0, ee5, ee6, ee7, ee8, ee9, ee10, ee11, ee12, ee13, f7, f9, f4, f10]; done) | (simp [tm_ss, hv, f13, ee0, ee5, ee6, ee7, ee8, ee9, ee10, ee11, ee12, ee13, f7, f9, f4, f10]; omega) | omega)
    have ew7 : tm_tw (nI k0) (nI k1) = tm_tw (nI (tm_ss P q (R0, C0, A0, k0, nI q, d0, e0, nx)).2.2.2.1) (nI k1) := congr (congrArg (tm_tw) ew7_0) rfl
    have ew8_0 : A0 = ((tm_ss P q (R0, C0, A0, k0, nI q, d0, e0, nx)).2.2.1) := by first | rfl | (simp [tm_ss, hv, f13, ee0, ee5, ee6, ee7, ee8, ee9, ee10, ee11, ee12, ee13, f7, f9, f4, f10]; done)
    have ew8 : tm_jn 120 A0 A1 = tm_jn 120 ((tm_ss P q (R0, C0, A0, k0, nI q, d0, e0, nx)).2.2.1) A1 := congr (congrArg (tm_jn 120) ew8_0) rfl
    have hP : va_P D cls [(m0, .inr (5, [.int th, .int (nI n), .ref oA, .ref aA, .ref bB, .ref cC, .int tl, .int (nI k), .ref gA, .ref zA, .ref bA, .ref sR, .ref sD, .ref rA, .ref eC, .ref eA, .ref pA, .ref dA, .ref kA, .ref acA, .int ((tm_ss P q (R0, C0, A0, k0, nI q, d0, e0, nx)).2.2.2.2.2.2.2)])), (oA, .inl (cI, 24, .inl Po)), (aA, .inl (cI, 24, .inl Pa)), (bB, .inl (cI, 24, .inl Pb)), (cC, .inl (cI, 24, .inl Pc)), (gA, .inl (cI, 1600, .inl G)), (zA, .inl (cZ, 400, .inl O)), (bA, .inl (cI, 25, .inl B)), (sR, .inl (cI, 8, .inl sr)), (sD, .inl (cI, 32, .inl sd)), (rA, .inl (cI, 16, .inl (tm_jn 8 ((tm_ss P q (R0, C0, A0, k0, nI q, d0, e0, nx)).1) R1))), (eC, .inl (cI, 128, .inl (tm_jn 64 ((tm_ss P q (R0, C0, A0, k0, nI q, d0, e0, nx)).2.1) C1))), (eA, .inl (cI, 2, .inl (tm_tw ((tm_ss P q (R0, C0, A0, k0, nI q, d0, e0, nx)).2.2.2.2.2.2.1) e1))), (pA, .inl (cI, 2, .inl (tm_tw ((tm_ss P q (R0, C0, A0, k0, nI q, d0, e0, nx)).2.2.2.2.1) h1))), (dA, .inl (cI, 2, .inl (tm_tw ((tm_ss P q (R0, C0, A0, k0, nI q, d0, e0, nx)).2.2.2.2.2.1) d1))), (kA, .inl (cI, 2, .inl (tm_tw (nI (tm_ss P q (R0, C0, A0, k0, nI q, d0, e0, nx)).2.2.2.1) (nI k1)))), (acA, .inl (cI, 240, .inl (tm_jn 120 ((tm_ss P q (R0, C0, A0, k0, nI q, d0, e0, nx)).2.2.1) A1)))] H := by rw [← ew1, ← ew2, ← ew3, ← ew4, ← ew5, ← ew6, ← ew7, ← ew8]; exact hP
    have hD : va_D A [(m0, .inr (5, [.int th, .int (nI n), .ref oA, .ref aA, .ref bB, .ref cC, .int tl, .int (nI k), .ref gA, .ref zA, .ref bA, .ref sR, .ref sD, .ref rA, .ref eC, .ref eA, .ref pA, .ref dA, .ref kA, .ref acA, .int ((tm_ss P q (R0, C0, A0, k0, nI q, d0, e0, nx)).2.2.2.2.2.2.2)])), (oA, .inl (cI, 24, .inl Po)), (aA, .inl (cI, 24, .inl Pa)), (bB, .inl (cI, 24, .inl Pb)), (cC, .inl (cI, 24, .inl Pc)), (gA, .inl (cI, 1600, .inl G)), (zA, .inl (cZ, 400, .inl O)), (bA, .inl (cI, 25, .inl B)), (sR, .inl (cI, 8, .inl sr)), (sD, .inl (cI, 32, .inl sd)), (rA, .inl (cI, 16, .inl (tm_jn 8 ((tm_ss P q (R0, C0, A0, k0, nI q, d0, e0, nx)).1) R1))), (eC, .inl (cI, 128, .inl (tm_jn 64 ((tm_ss P q (R0, C0, A0, k0, nI q, d0, e0, nx)).2.1) C1))), (eA, .inl (cI, 2, .inl (tm_tw ((tm_ss P q (R0, C0, A0, k0, nI q, d0, e0, nx)).2.2.2.2.2.2.1) e1))), (pA, .inl (cI, 2, .inl (tm_tw ((tm_ss P q (R0, C0, A0, k0, nI q, d0, e0, nx)).2.2.2.2.1) h1))), (dA, .inl (cI, 2, .inl (tm_tw ((tm_ss P q (R0, C0, A0, k0, nI q, d0, e0, nx)).2.2.2.2.2.1) d1))), (kA, .inl (cI, 2, .inl (tm_tw (nI (tm_ss P q (R0, C0, A0, k0, nI q, d0, e0, nx)).2.2.2.1) (nI k1)))), (acA, .inl (cI, 240, .inl (tm_jn 120 ((tm_ss P q (R0, C0, A0, k0, nI q, d0, e0, nx)).2.2.1) A1)))] := by rw [← ew1, ← ew2, ← ew3, ← ew4, ← ew5, ← ew6, ← ew7, ← ew8]; exact hD
    exact W.vret hx hb hr (fun t9 ht9 hW9 => ⟨⟨(), rfl, trivial, by rw [ht9]; exact hP, hD⟩, hS.F ht9⟩) hS.2.2 d_Mo_source_392
  · have f13 : ¬ 13 < nI v := nI_nlt (a := 13) (b := v) (by omega) (by decide)
    have ee0 : ¬ nI v = 0 := xn_ne (w := 0) (by omega) (by decide) (by omega)
    have ee5 : ¬ nI v = 5 := xn_ne (w := 5) (by omega) (by decide) (by omega)
    have ee6 : nI v = 6 := by rw [hcase]; rfl
    have ee7 : ¬ nI v = 7 := xn_ne (w := 7) (by omega) (by decide) (by omega)
    have ee8 : ¬ nI v = 8 := xn_ne (w := 8) (by omega) (by decide) (by omega)
    have ee9 : ¬ nI v = 9 := xn_ne (w := 9) (by omega) (by decide) (by omega)
    have ee10 : ¬ nI v = 10 := xn_ne (w := 10) (by omega) (by decide) (by omega)
    have ee11 : ¬ nI v = 11 := xn_ne (w := 11) (by omega) (by decide) (by omega)
    have ee12 : ¬ nI v = 12 := xn_ne (w := 12) (by omega) (by decide) (by omega)
    have ee13 : ¬ nI v = 13 := xn_ne (w := 13) (by omega) (by decide) (by omega)
    have f7 : nI v < 7 := nI_lt (a := v) (b := 7) (by omega) (by decide)
    have f9 : nI v < 9 := nI_lt (a := v) (b := 9) (by omega) (by decide)
    have f4 : 4 < nI v := nI_lt (a := 4) (b := v) (by omega) (by omega)
    have f10 : ¬ 10 < nI v := nI_nlt (a := 10) (b := v) (by omega) (by decide)
    refine lv_aload_n hx hb d_Mo_source_0 rfl (lv_at hl 0 rfl) ?_
    refine va_get (D := D) (ci := 5) (v := .ref pA) (C := R_Mo) (T := F_Mo) (N := 21) hx hb hg f_Mo hown hK.1 hP 0 rfl rfl 16 (by decide) (hg _ q579) (fun _ h9 => h9) rfl d_Mo_source_1 ?_
    refine lv_iconst (v := 0) hx hb d_Mo_source_4 (by decide) ?_
    refine xa_ld hx hb hK hP 13 0 rfl rfl (kx := 0) (rfl) (by decide) (by decide) d_Mo_source_5 ?_
    have eq9 : ((tm_tw (nI q) h1) 0 : Int32) = nI q := rfl
    refine W.eq (g2 := F0 m 6 ls [.int (nI q)]) (by rw [eq9]) ?_
    refine lv_istore_n hx hb d_Mo_source_6 rfl hl (by decide) rfl (fun ls hl => ?_)
    have hl : lv_has ls 7 [(1, .int (nI q)), (0, .ref m0)] := hl
    refine lv_iload_n hx hb d_Mo_source_7 rfl (lv_at hl 0 rfl) ?_
    refine lv_iconst (v := 0) hx hb d_Mo_source_8 (by decide) ?_
    refine lv_aload_n hx hb d_Mo_source_9 rfl (lv_at hl 1 rfl) ?_
    refine va_get (D := D) (ci := 5) (v := .int (nI n)) (C := R_Mo) (T := F_Mo) (N := 21) hx hb hg f_Mo hown hK.1 hP 0 rfl rfl 1 (by decide) (hg _ q564) (fun _ h9 => h9) rfl d_Mo_source_10 ?_
    refine lv_iconst (v := 1) hx hb d_Mo_source_13 (by decide) ?_
    refine lv_isub hx hb d_Mo_source_14 ?_
    have eq9 : ((nI n) - 1 : Int32) = nI (n - 1) := pk_sub (a := n) (b := 1) (by omega)
    refine W.eq (g2 := F0 m 15 ls [.int (nI (n - 1)), .int 0, .int (nI q)]) (by rw [eq9]) ?_
    refine xr_S (As := [.int (nI q), .int 0, .int (nI (n - 1))]) (rest := []) ⟨hx, hb, hml, hown, hg⟩ (c_Mo_in l D cI cZ cJ (nI q) 0 (nI (n - 1))) m_Mo_in q636 ⟨rfl, rfl⟩ ⟨Nat.le_of_ble_eq_true rfl, Nat.le_of_ble_eq_true rfl⟩ hK hP [] rfl rfl hl.1 rfl (Nat.le_of_ble_eq_true rfl) d_Mo_source_15 ⟨Nat.zero_le _, Nat.zero_le _⟩ ?_
    refine lv_if_eq (tgt := 30) hx hb d_Mo_source_18 rfl (fun hz9 => absurd hz9 (tm_wi_y (nI_le (a := 0) (b := q) (by omega) (by omega)) (nI_le (a := q) (b := n - 1) (by omega) (by omega)))) (fun _ => ?_)
    refine lv_aload_n hx hb d_Mo_source_21 rfl (lv_at hl 1 rfl) ?_
    refine va_get (D := D) (ci := 5) (v := .ref oA) (C := R_Mo) (T := F_Mo) (N := 21) hx hb hg f_Mo hown hK.1 hP 0 rfl rfl 2 (by decide) (hg _ q565) (fun _ h9 => h9) rfl d_Mo_source_22 ?_
    refine lv_iload_n hx hb d_Mo_source_25 rfl (lv_at hl 0 rfl) ?_
    refine xa_ld hx hb hK hP 1 0 rfl rfl (kx := q) (rfl) (by omega) (by decide) d_Mo_source_26 ?_
    have eq9 : (Po q : Int32) = P (4 * q) := hPo q
    refine W.eq (g2 := F0 m 27 ls [.int (P (4 * q))]) (by rw [eq9]) ?_
    refine lv_goto (tgt := 32) hx hb d_Mo_source_27 rfl ?_
    have eq9 : (P (4 * q) : Int32) = nI v := hv
    refine W.eq (g2 := F0 m 32 ls [.int (nI v)]) (by rw [eq9]) ?_
    refine lv_istore_n hx hb d_Mo_source_32 rfl hl (by decide) rfl (fun ls hl => ?_)
    have hl : lv_has ls 7 [(2, .int (nI v)), (1, .int (nI q)), (0, .ref m0)] := hl
    refine lv_iload_n hx hb d_Mo_source_33 rfl (lv_at hl 0 rfl) ?_
    refine lv_bipush (v := 13) hx hb d_Mo_source_34 (by decide) ?_
    refine lv_icmp_le (tgt := 43) hx hb d_Mo_source_36 rfl (fun _ => ?_) (fun hz9 => absurd (nI_le (a := v) (b := 13) (by omega) (by decide)) hz9)
    refine lv_aload_n hx hb d_Mo_source_43 rfl (lv_at hl 2 rfl) ?_
    refine va_get (D := D) (ci := 5) (v := .ref rA) (C := R_Mo) (T := F_Mo) (N := 21) hx hb hg f_Mo hown hK.1 hP 0 rfl rfl 13 (by decide) (hg _ q576) (fun _ h9 => h9) rfl d_Mo_source_44 ?_
    refine lv_aload_n hx hb d_Mo_source_47 rfl (lv_at hl 2 rfl) ?_
    refine va_get (D := D) (ci := 5) (v := .ref aA) (C := R_Mo) (T := F_Mo) (N := 21) hx hb hg f_Mo hown hK.1 hP 0 rfl rfl 3 (by decide) (hg _ q566) (fun _ h9 => h9) rfl d_Mo_source_48 ?_
    refine lv_iload_n hx hb d_Mo_source_51 rfl (lv_at hl 1 rfl) ?_
    refine xa_ld hx hb hK hP 2 0 rfl rfl (kx := q) (rfl) (by omega) (by decide) d_Mo_source_52 ?_
    have eq9 : (Pa q : Int32) = P (4 * q + 1) := hPa q
    refine W.eq (g2 := F0 m 53 ls [.int (P (4 * q + 1)), .ref rA]) (by rw [eq9]) ?_
    refine xa_ld hx hb hK hP 10 0 rfl rfl (kx := a) (ha) (by omega) (by decide) d_Mo_source_53 ?_
    have eq9 : ((tm_jn 8 R0 R1) a : Int32) = R0 a := tm_jn_lo (by omega)
    refine W.eq (g2 := F0 m 54 ls [.int (R0 a)]) (by rw [eq9]) ?_
    refine lv_istore_n hx hb d_Mo_source_54 rfl hl (by decide) rfl (fun ls hl => ?_)
    have hl : lv_has ls 7 [(3, .int (R0 a)), (2, .int (nI v)), (1, .int (nI q)), (0, .ref m0)] := hl
    refine lv_iload_n hx hb d_Mo_source_55 rfl (lv_at hl 1 rfl) ?_
    refine lv_bipush (v := 13) hx hb d_Mo_source_56 (by decide) ?_
    refine lv_icmp_le (tgt := 65) hx hb d_Mo_source_58 rfl (fun _ => ?_) (fun hz9 => absurd (nI_le (a := v) (b := 13) (by omega) (by decide)) hz9)
    refine lv_aload_n hx hb d_Mo_source_65 rfl (lv_at hl 3 rfl) ?_
    refine va_get (D := D) (ci := 5) (v := .ref rA) (C := R_Mo) (T := F_Mo) (N := 21) hx hb hg f_Mo hown hK.1 hP 0 rfl rfl 13 (by decide) (hg _ q576) (fun _ h9 => h9) rfl d_Mo_source_66 ?_
    refine lv_aload_n hx hb d_Mo_source_69 rfl (lv_at hl 3 rfl) ?_
    refine va_get (D := D) (ci := 5) (v := .ref bB) (C := R_Mo) (T := F_Mo) (N := 21) hx hb hg f_Mo hown hK.1 hP 0 rfl rfl 4 (by decide) (hg _ q567) (fun _ h9 => h9) rfl d_Mo_source_70 ?_
    refine lv_iload_n hx hb d_Mo_source_73 rfl (lv_at hl 2 rfl) ?_
    refine xa_ld hx hb hK hP 3 0 rfl rfl (kx := q) (rfl) (by omega) (by decide) d_Mo_source_74 ?_
    have eq9 : (Pb q : Int32) = P (4 * q + 2) := hPb q
    refine W.eq (g2 := F0 m 75 ls [.int (P (4 * q + 2)), .ref rA]) (by rw [eq9]) ?_
    refine xa_ld hx hb hK hP 10 0 rfl rfl (kx := b) (hbb) (by omega) (by decide) d_Mo_source_75 ?_
    have eq9 : ((tm_jn 8 R0 R1) b : Int32) = R0 b := tm_jn_lo (by omega)
    refine W.eq (g2 := F0 m 76 ls [.int (R0 b)]) (by rw [eq9]) ?_
    refine lv_istore hx hb d_Mo_source_76 hl (by decide) rfl (fun ls hl => ?_)
    have hl : lv_has ls 7 [(4, .int (R0 b)), (3, .int (R0 a)), (2, .int (nI v)), (1, .int (nI q)), (0, .ref m0)] := hl
    refine lv_iload_n hx hb d_Mo_source_78 rfl (lv_at hl 2 rfl) ?_
    refine lv_bipush (v := 13) hx hb d_Mo_source_79 (by decide) ?_
    refine lv_icmp_le (tgt := 88) hx hb d_Mo_source_81 rfl (fun _ => ?_) (fun hz9 => absurd (nI_le (a := v) (b := 13) (by omega) (by decide)) hz9)
    refine lv_iload hx hb d_Mo_source_88 (lv_at hl 0 rfl) ?_
    refine lv_aload_n hx hb d_Mo_source_90 rfl (lv_at hl 4 rfl) ?_
    refine va_get (D := D) (ci := 5) (v := .ref cC) (C := R_Mo) (T := F_Mo) (N := 21) hx hb hg f_Mo hown hK.1 hP 0 rfl rfl 5 (by decide) (hg _ q568) (fun _ h9 => h9) rfl d_Mo_source_91 ?_
    refine lv_iload_n hx hb d_Mo_source_94 rfl (lv_at hl 3 rfl) ?_
    refine xa_ld hx hb hK hP 4 0 rfl rfl (kx := q) (rfl) (by omega) (by decide) d_Mo_source_95 ?_
    have eq9 : (Pc q : Int32) = P (4 * q + 3) := hPc q
    refine W.eq (g2 := F0 m 96 ls [.int (P (4 * q + 3)), .int (R0 b)]) (by rw [eq9]) ?_
    refine lv_iadd hx hb d_Mo_source_96 ?_
    refine xr_S (As := [.int ((R0 b) + (P (4 * q + 3)))]) (rest := []) ⟨hx, hb, hml, hown, hg⟩ (c_Mo_round l D cI cZ cJ ((R0 b) + (P (4 * q + 3)))) m_Mo_round q725 ⟨rfl, rfl⟩ ⟨Nat.le_of_ble_eq_true rfl, Nat.le_of_ble_eq_true rfl⟩ hK hP [] rfl rfl hl.1 rfl (Nat.le_of_ble_eq_true rfl) d_Mo_source_97 ⟨Nat.zero_le _, Nat.zero_le _⟩ ?_
    refine lv_istore hx hb d_Mo_source_100 hl (by decide) rfl (fun ls hl => ?_)
    have hl : lv_has ls 7 [(5, .int (tm_wr ((R0 b) + (P (4 * q + 3))))), (4, .int (R0 b)), (3, .int (R0 a)), (2, .int (nI v)), (1, .int (nI q)), (0, .ref m0)] := hl
    refine lv_iload_n hx hb d_Mo_source_102 rfl (lv_at hl 3 rfl) ?_
    refine lv_bipush (v := 13) hx hb d_Mo_source_103 (by decide) ?_
    refine lv_icmp_gt (tgt := 131) hx hb d_Mo_source_105 rfl (fun hz9 => absurd hz9 (f13)) (fun _ => ?_)
    refine lv_iload_n hx hb d_Mo_source_108 rfl (lv_at hl 3 rfl) ?_
    refine lv_bipush (v := 7) hx hb d_Mo_source_109 (by decide) ?_
    refine lv_icmp_eq (tgt := 120) hx hb d_Mo_source_111 rfl (fun hz9 => absurd hz9 (ee7)) (fun _ => ?_)
    refine lv_iload_n hx hb d_Mo_source_114 rfl (lv_at hl 3 rfl) ?_
    refine lv_bipush (v := 8) hx hb d_Mo_source_115 (by decide) ?_
    refine lv_icmp_ne (tgt := 139) hx hb d_Mo_source_117 rfl (fun _ => ?_) (fun hz9 => absurd hz9 (ee8))
    refine lv_aload_n hx hb d_Mo_source_139 rfl (lv_at hl 5 rfl) ?_
    refine va_get (D := D) (ci := 5) (v := .ref dA) (C := R_Mo) (T := F_Mo) (N := 21) hx hb hg f_Mo hown hK.1 hP 0 rfl rfl 17 (by decide) (hg _ q580) (fun _ h9 => h9) rfl d_Mo_source_140 ?_
    refine lv_iconst (v := 0) hx hb d_Mo_source_143 (by decide) ?_
    refine lv_dup2_11 hx hb d_Mo_source_144 rfl rfl ?_
    refine xa_ld hx hb hK hP 14 0 rfl rfl (kx := 0) (rfl) (by decide) (by decide) d_Mo_source_145 ?_
    have eq9 : ((tm_tw d0 d1) 0 : Int32) = d0 := rfl
    refine W.eq (g2 := F0 m 146 ls [.int d0, .int 0, .ref dA]) (by rw [eq9]) ?_
    refine lv_iconst (v := 1) hx hb d_Mo_source_146 (by decide) ?_
    refine lv_iadd hx hb d_Mo_source_147 ?_
    refine xa_st hx hb hK hP hD hS 14 0 rfl rfl (kx := 0) (rfl) (by decide) (by decide) d_Mo_source_148 (fun H locs hP hD hS => ?_)
    have hP : va_P D cls [(m0, .inr (5, [.int th, .int (nI n), .ref oA, .ref aA, .ref bB, .ref cC, .int tl, .int (nI k), .ref gA, .ref zA, .ref bA, .ref sR, .ref sD, .ref rA, .ref eC, .ref eA, .ref pA, .ref dA, .ref kA, .ref acA, .int nx])), (oA, .inl (cI, 24, .inl Po)), (aA, .inl (cI, 24, .inl Pa)), (bB, .inl (cI, 24, .inl Pb)), (cC, .inl (cI, 24, .inl Pc)), (gA, .inl (cI, 1600, .inl G)), (zA, .inl (cZ, 400, .inl O)), (bA, .inl (cI, 25, .inl B)), (sR, .inl (cI, 8, .inl sr)), (sD, .inl (cI, 32, .inl sd)), (rA, .inl (cI, 16, .inl (tm_jn 8 R0 R1))), (eC, .inl (cI, 128, .inl (tm_jn 64 C0 C1))), (eA, .inl (cI, 2, .inl (tm_tw e0 e1))), (pA, .inl (cI, 2, .inl (tm_tw (nI q) h1))), (dA, .inl (cI, 2, .inl (upd (tm_tw d0 d1) 0 (d0 + 1)))), (kA, .inl (cI, 2, .inl (tm_tw (nI k0) (nI k1)))), (acA, .inl (cI, 240, .inl (tm_jn 120 A0 A1)))] H := hP
    have hD : va_D A [(m0, .inr (5, [.int th, .int (nI n), .ref oA, .ref aA, .ref bB, .ref cC, .int tl, .int (nI k), .ref gA, .ref zA, .ref bA, .ref sR, .ref sD, .ref rA, .ref eC, .ref eA, .ref pA, .ref dA, .ref kA, .ref acA, .int nx])), (oA, .inl (cI, 24, .inl Po)), (aA, .inl (cI, 24, .inl Pa)), (bB, .inl (cI, 24, .inl Pb)), (cC, .inl (cI, 24, .inl Pc)), (gA, .inl (cI, 1600, .inl G)), (zA, .inl (cZ, 400, .inl O)), (bA, .inl (cI, 25, .inl B)), (sR, .inl (cI, 8, .inl sr)), (sD, .inl (cI, 32, .inl sd)), (rA, .inl (cI, 16, .inl (tm_jn 8 R0 R1))), (eC, .inl (cI, 128, .inl (tm_jn 64 C0 C1))), (eA, .inl (cI, 2, .inl (tm_tw e0 e1))), (pA, .inl (cI, 2, .inl (tm_tw (nI q) h1))), (dA, .inl (cI, 2, .inl (upd (tm_tw d0 d1) 0 (d0 + 1)))), (kA, .inl (cI, 2, .inl (tm_tw (nI k0) (nI k1)))), (acA, .inl (cI, 240, .inl (tm_jn 120 A0 A1)))] := hD
    rw [tm_tw_0] at hP hD
    have hP : va_P D cls [(m0, .inr (5, [.int th, .int (nI n), .ref oA, .ref aA, .ref bB, .ref cC, .int tl, .int (nI k), .ref gA, .ref zA, .ref bA, .ref sR, .ref sD, .ref rA, .ref eC, .ref eA, .ref pA, .ref dA, .ref kA, .ref acA, .int nx])), (oA, .inl (cI, 24, .inl Po)), (aA, .inl (cI, 24, .inl Pa)), (bB, .inl (cI, 24, .inl Pb)), (cC, .inl (cI, 24, .inl Pc)), (gA, .inl (cI, 1600, .inl G)), (zA, .inl (cZ, 400, .inl O)), (bA, .inl (cI, 25, .inl B)), (sR, .inl (cI, 8, .inl sr)), (sD, .inl (cI, 32, .inl sd)), (rA, .inl (cI, 16, .inl (tm_jn 8 R0 R1))), (eC, .inl (cI, 128, .inl (tm_jn 64 C0 C1))), (eA, .inl (cI, 2, .inl (tm_tw e0 e1))), (pA, .inl (cI, 2, .inl (tm_tw (nI q) h1))), (dA, .inl (cI, 2, .inl (tm_tw (d0 + 1) d1))), (kA, .inl (cI, 2, .inl (tm_tw (nI k0) (nI k1)))), (acA, .inl (cI, 240, .inl (tm_jn 120 A0 A1)))] H := hP
    have hD : va_D A [(m0, .inr (5, [.int th, .int (nI n), .ref oA, .ref aA, .ref bB, .ref cC, .int tl, .int (nI k), .ref gA, .ref zA, .ref bA, .ref sR, .ref sD, .ref rA, .ref eC, .ref eA, .ref pA, .ref dA, .ref kA, .ref acA, .int nx])), (oA, .inl (cI, 24, .inl Po)), (aA, .inl (cI, 24, .inl Pa)), (bB, .inl (cI, 24, .inl Pb)), (cC, .inl (cI, 24, .inl Pc)), (gA, .inl (cI, 1600, .inl G)), (zA, .inl (cZ, 400, .inl O)), (bA, .inl (cI, 25, .inl B)), (sR, .inl (cI, 8, .inl sr)), (sD, .inl (cI, 32, .inl sd)), (rA, .inl (cI, 16, .inl (tm_jn 8 R0 R1))), (eC, .inl (cI, 128, .inl (tm_jn 64 C0 C1))), (eA, .inl (cI, 2, .inl (tm_tw e0 e1))), (pA, .inl (cI, 2, .inl (tm_tw (nI q) h1))), (dA, .inl (cI, 2, .inl (tm_tw (d0 + 1) d1))), (kA, .inl (cI, 2, .inl (tm_tw (nI k0) (nI k1)))), (acA, .inl (cI, 240, .inl (tm_jn 120 A0 A1)))] := hD
    refine lv_iload_n hx hb d_Mo_source_149 rfl (lv_at hl 3 rfl) ?_
    refine lv_if_ne (tgt := 161) hx hb d_Mo_source_150 rfl (fun _ => ?_) (fun hz9 => absurd hz9 (ee0))
    refine lv_aload_n hx hb d_Mo_source_161 rfl (lv_at hl 5 rfl) ?_
    refine va_get (D := D) (ci := 5) (v := .int nx) (C := R_Mo) (T := F_Mo) (N := 21) hx hb hg f_Mo hown hK.1 hP 0 rfl rfl 20 (by decide) (hg _ q583) (fun _ h9 => h9) rfl d_Mo_source_162 ?_
    refine lv_iconst (v := 1) hx hb d_Mo_source_165 (by decide) ?_
    refine lv_iadd hx hb d_Mo_source_166 ?_
    refine lv_istore hx hb d_Mo_source_167 hl (by decide) rfl (fun ls hl => ?_)
    have hl : lv_has ls 7 [(6, .int (nx + 1)), (5, .int (tm_wr ((R0 b) + (P (4 * q + 3))))), (4, .int (R0 b)), (3, .int (R0 a)), (2, .int (nI v)), (1, .int (nI q)), (0, .ref m0)] := hl
    refine lv_iload_n hx hb d_Mo_source_169 rfl (lv_at hl 4 rfl) ?_
    refine lv_iconst (v := 5) hx hb d_Mo_source_170 (by decide) ?_
    refine lv_icmp_gt (tgt := 222) hx hb d_Mo_source_171 rfl (fun _ => ?_) (fun hz9 => absurd (nI_lt (a := 5) (b := v) (by omega) (by omega)) hz9)
    refine lv_iload_n hx hb d_Mo_source_222 rfl (lv_at hl 4 rfl) ?_
    refine lv_bipush (v := 6) hx hb d_Mo_source_223 (by decide) ?_
    refine lv_icmp_ne (tgt := 255) hx hb d_Mo_source_225 rfl (fun hz9 => absurd (ee6) hz9) (fun _ => ?_)
    refine lv_aload_n hx hb d_Mo_source_228 rfl (lv_at hl 6 rfl) ?_
    refine va_get (D := D) (ci := 5) (v := .ref rA) (C := R_Mo) (T := F_Mo) (N := 21) hx hb hg f_Mo hown hK.1 hP 0 rfl rfl 13 (by decide) (hg _ q576) (fun _ h9 => h9) rfl d_Mo_source_229 ?_
    refine lv_aload_n hx hb d_Mo_source_232 rfl (lv_at hl 6 rfl) ?_
    refine va_get (D := D) (ci := 5) (v := .ref aA) (C := R_Mo) (T := F_Mo) (N := 21) hx hb hg f_Mo hown hK.1 hP 0 rfl rfl 3 (by decide) (hg _ q566) (fun _ h9 => h9) rfl d_Mo_source_233 ?_
    refine lv_iload_n hx hb d_Mo_source_236 rfl (lv_at hl 5 rfl) ?_
    refine xa_ld hx hb hK hP 2 0 rfl rfl (kx := q) (rfl) (by omega) (by decide) d_Mo_source_237 ?_
    have eq9 : (Pa q : Int32) = P (4 * q + 1) := hPa q
    refine W.eq (g2 := F0 m 238 ls [.int (P (4 * q + 1)), .ref rA]) (by rw [eq9]) ?_
    refine lv_sipush (v := 256) hx hb d_Mo_source_238 (by decide) ?_
    refine lv_aload_n hx hb d_Mo_source_241 rfl (lv_at hl 6 rfl) ?_
    refine va_get (D := D) (ci := 5) (v := .ref cC) (C := R_Mo) (T := F_Mo) (N := 21) hx hb hg f_Mo hown hK.1 hP 0 rfl rfl 5 (by decide) (hg _ q568) (fun _ h9 => h9) rfl d_Mo_source_242 ?_
    refine lv_iload_n hx hb d_Mo_source_245 rfl (lv_at hl 5 rfl) ?_
    refine xa_ld hx hb hK hP 4 0 rfl rfl (kx := q) (rfl) (by omega) (by decide) d_Mo_source_246 ?_
    have eq9 : (Pc q : Int32) = P (4 * q + 3) := hPc q
    refine W.eq (g2 := F0 m 247 ls [.int (P (4 * q + 3)), .int 256, .int (P (4 * q + 1)), .ref rA]) (by rw [eq9]) ?_
    refine lv_imul hx hb d_Mo_source_247 ?_
    refine xr_S (As := [.int (256 * (P (4 * q + 3)))]) (rest := [.int (P (4 * q + 1)), .ref rA]) ⟨hx, hb, hml, hown, hg⟩ (c_Mo_round l D cI cZ cJ (256 * (P (4 * q + 3)))) m_Mo_round q725 ⟨rfl, rfl⟩ ⟨Nat.le_of_ble_eq_true rfl, Nat.le_of_ble_eq_true rfl⟩ hK hP [] rfl rfl hl.1 rfl (Nat.le_of_ble_eq_true rfl) d_Mo_source_248 ⟨Nat.zero_le _, Nat.zero_le _⟩ ?_
    refine xa_st hx hb hK hP hD hS 10 0 rfl rfl (kx := a) (ha) (by omega) (by decide) d_Mo_source_251 (fun H locs hP hD hS => ?_)
    have hP : va_P D cls [(m0, .inr (5, [.int th, .int (nI n), .ref oA, .ref aA, .ref bB, .ref cC, .int tl, .int (nI k), .ref gA, .ref zA, .ref bA, .ref sR, .ref sD, .ref rA, .ref eC, .ref eA, .ref pA, .ref dA, .ref kA, .ref acA, .int nx])), (oA, .inl (cI, 24, .inl Po)), (aA, .inl (cI, 24, .inl Pa)), (bB, .inl (cI, 24, .inl Pb)), (cC, .inl (cI, 24, .inl Pc)), (gA, .inl (cI, 1600, .inl G)), (zA, .inl (cZ, 400, .inl O)), (bA, .inl (cI, 25, .inl B)), (sR, .inl (cI, 8, .inl sr)), (sD, .inl (cI, 32, .inl sd)), (rA, .inl (cI, 16, .inl (upd (tm_jn 8 R0 R1) a (tm_wr (256 * (P (4 * q + 3))))))), (eC, .inl (cI, 128, .inl (tm_jn 64 C0 C1))), (eA, .inl (cI, 2, .inl (tm_tw e0 e1))), (pA, .inl (cI, 2, .inl (tm_tw (nI q) h1))), (dA, .inl (cI, 2, .inl (tm_tw (d0 + 1) d1))), (kA, .inl (cI, 2, .inl (tm_tw (nI k0) (nI k1)))), (acA, .inl (cI, 240, .inl (tm_jn 120 A0 A1)))] H := hP
    have hD : va_D A [(m0, .inr (5, [.int th, .int (nI n), .ref oA, .ref aA, .ref bB, .ref cC, .int tl, .int (nI k), .ref gA, .ref zA, .ref bA, .ref sR, .ref sD, .ref rA, .ref eC, .ref eA, .ref pA, .ref dA, .ref kA, .ref acA, .int nx])), (oA, .inl (cI, 24, .inl Po)), (aA, .inl (cI, 24, .inl Pa)), (bB, .inl (cI, 24, .inl Pb)), (cC, .inl (cI, 24, .inl Pc)), (gA, .inl (cI, 1600, .inl G)), (zA, .inl (cZ, 400, .inl O)), (bA, .inl (cI, 25, .inl B)), (sR, .inl (cI, 8, .inl sr)), (sD, .inl (cI, 32, .inl sd)), (rA, .inl (cI, 16, .inl (upd (tm_jn 8 R0 R1) a (tm_wr (256 * (P (4 * q + 3))))))), (eC, .inl (cI, 128, .inl (tm_jn 64 C0 C1))), (eA, .inl (cI, 2, .inl (tm_tw e0 e1))), (pA, .inl (cI, 2, .inl (tm_tw (nI q) h1))), (dA, .inl (cI, 2, .inl (tm_tw (d0 + 1) d1))), (kA, .inl (cI, 2, .inl (tm_tw (nI k0) (nI k1)))), (acA, .inl (cI, 240, .inl (tm_jn 120 A0 A1)))] := hD
    rw [tm_jn_ul (by omega)] at hP hD
    have hP : va_P D cls [(m0, .inr (5, [.int th, .int (nI n), .ref oA, .ref aA, .ref bB, .ref cC, .int tl, .int (nI k), .ref gA, .ref zA, .ref bA, .ref sR, .ref sD, .ref rA, .ref eC, .ref eA, .ref pA, .ref dA, .ref kA, .ref acA, .int nx])), (oA, .inl (cI, 24, .inl Po)), (aA, .inl (cI, 24, .inl Pa)), (bB, .inl (cI, 24, .inl Pb)), (cC, .inl (cI, 24, .inl Pc)), (gA, .inl (cI, 1600, .inl G)), (zA, .inl (cZ, 400, .inl O)), (bA, .inl (cI, 25, .inl B)), (sR, .inl (cI, 8, .inl sr)), (sD, .inl (cI, 32, .inl sd)), (rA, .inl (cI, 16, .inl (tm_jn 8 (upd R0 a (tm_wr (256 * (P (4 * q + 3))))) R1))), (eC, .inl (cI, 128, .inl (tm_jn 64 C0 C1))), (eA, .inl (cI, 2, .inl (tm_tw e0 e1))), (pA, .inl (cI, 2, .inl (tm_tw (nI q) h1))), (dA, .inl (cI, 2, .inl (tm_tw (d0 + 1) d1))), (kA, .inl (cI, 2, .inl (tm_tw (nI k0) (nI k1)))), (acA, .inl (cI, 240, .inl (tm_jn 120 A0 A1)))] H := hP
    have hD : va_D A [(m0, .inr (5, [.int th, .int (nI n), .ref oA, .ref aA, .ref bB, .ref cC, .int tl, .int (nI k), .ref gA, .ref zA, .ref bA, .ref sR, .ref sD, .ref rA, .ref eC, .ref eA, .ref pA, .ref dA, .ref kA, .ref acA, .int nx])), (oA, .inl (cI, 24, .inl Po)), (aA, .inl (cI, 24, .inl Pa)), (bB, .inl (cI, 24, .inl Pb)), (cC, .inl (cI, 24, .inl Pc)), (gA, .inl (cI, 1600, .inl G)), (zA, .inl (cZ, 400, .inl O)), (bA, .inl (cI, 25, .inl B)), (sR, .inl (cI, 8, .inl sr)), (sD, .inl (cI, 32, .inl sd)), (rA, .inl (cI, 16, .inl (tm_jn 8 (upd R0 a (tm_wr (256 * (P (4 * q + 3))))) R1))), (eC, .inl (cI, 128, .inl (tm_jn 64 C0 C1))), (eA, .inl (cI, 2, .inl (tm_tw e0 e1))), (pA, .inl (cI, 2, .inl (tm_tw (nI q) h1))), (dA, .inl (cI, 2, .inl (tm_tw (d0 + 1) d1))), (kA, .inl (cI, 2, .inl (tm_tw (nI k0) (nI k1)))), (acA, .inl (cI, 240, .inl (tm_jn 120 A0 A1)))] := hD
    refine lv_goto (tgt := 350) hx hb d_Mo_source_252 rfl ?_
    refine lv_iload_n hx hb d_Mo_source_350 rfl (lv_at hl 4 rfl) ?_
    refine lv_bipush (v := 12) hx hb d_Mo_source_351 (by decide) ?_
    refine lv_icmp_ne (tgt := 369) hx hb d_Mo_source_353 rfl (fun _ => ?_) (fun hz9 => absurd hz9 (ee12))
    refine lv_aload_n hx hb d_Mo_source_369 rfl (lv_at hl 6 rfl) ?_
    refine va_get (D := D) (ci := 5) (v := .ref rA) (C := R_Mo) (T := F_Mo) (N := 21) hx hb hg f_Mo hown hK.1 hP 0 rfl rfl 13 (by decide) (hg _ q576) (fun _ h9 => h9) rfl d_Mo_source_370 ?_
    refine lv_iconst (v := 0) hx hb d_Mo_source_373 (by decide) ?_
    refine lv_iconst (v := 0) hx hb d_Mo_source_374 (by decide) ?_
    refine xa_st hx hb hK hP hD hS 10 0 rfl rfl (kx := 0) (rfl) (by decide) (by decide) d_Mo_source_375 (fun H locs hP hD hS => ?_)
    have hP : va_P D cls [(m0, .inr (5, [.int th, .int (nI n), .ref oA, .ref aA, .ref bB, .ref cC, .int tl, .int (nI k), .ref gA, .ref zA, .ref bA, .ref sR, .ref sD, .ref rA, .ref eC, .ref eA, .ref pA, .ref dA, .ref kA, .ref acA, .int nx])), (oA, .inl (cI, 24, .inl Po)), (aA, .inl (cI, 24, .inl Pa)), (bB, .inl (cI, 24, .inl Pb)), (cC, .inl (cI, 24, .inl Pc)), (gA, .inl (cI, 1600, .inl G)), (zA, .inl (cZ, 400, .inl O)), (bA, .inl (cI, 25, .inl B)), (sR, .inl (cI, 8, .inl sr)), (sD, .inl (cI, 32, .inl sd)), (rA, .inl (cI, 16, .inl (upd (tm_jn 8 (upd R0 a (tm_wr (256 * (P (4 * q + 3))))) R1) 0 0))), (eC, .inl (cI, 128, .inl (tm_jn 64 C0 C1))), (eA, .inl (cI, 2, .inl (tm_tw e0 e1))), (pA, .inl (cI, 2, .inl (tm_tw (nI q) h1))), (dA, .inl (cI, 2, .inl (tm_tw (d0 + 1) d1))), (kA, .inl (cI, 2, .inl (tm_tw (nI k0) (nI k1)))), (acA, .inl (cI, 240, .inl (tm_jn 120 A0 A1)))] H := hP
    have hD : va_D A [(m0, .inr (5, [.int th, .int (nI n), .ref oA, .ref aA, .ref bB, .ref cC, .int tl, .int (nI k), .ref gA, .ref zA, .ref bA, .ref sR, .ref sD, .ref rA, .ref eC, .ref eA, .ref pA, .ref dA, .ref kA, .ref acA, .int nx])), (oA, .inl (cI, 24, .inl Po)), (aA, .inl (cI, 24, .inl Pa)), (bB, .inl (cI, 24, .inl Pb)), (cC, .inl (cI, 24, .inl Pc)), (gA, .inl (cI, 1600, .inl G)), (zA, .inl (cZ, 400, .inl O)), (bA, .inl (cI, 25, .inl B)), (sR, .inl (cI, 8, .inl sr)), (sD, .inl (cI, 32, .inl sd)), (rA, .inl (cI, 16, .inl (upd (tm_jn 8 (upd R0 a (tm_wr (256 * (P (4 * q + 3))))) R1) 0 0))), (eC, .inl (cI, 128, .inl (tm_jn 64 C0 C1))), (eA, .inl (cI, 2, .inl (tm_tw e0 e1))), (pA, .inl (cI, 2, .inl (tm_tw (nI q) h1))), (dA, .inl (cI, 2, .inl (tm_tw (d0 + 1) d1))), (kA, .inl (cI, 2, .inl (tm_tw (nI k0) (nI k1)))), (acA, .inl (cI, 240, .inl (tm_jn 120 A0 A1)))] := hD
    rw [tm_jn_ul (by omega)] at hP hD
    have hP : va_P D cls [(m0, .inr (5, [.int th, .int (nI n), .ref oA, .ref aA, .ref bB, .ref cC, .int tl, .int (nI k), .ref gA, .ref zA, .ref bA, .ref sR, .ref sD, .ref rA, .ref eC, .ref eA, .ref pA, .ref dA, .ref kA, .ref acA, .int nx])), (oA, .inl (cI, 24, .inl Po)), (aA, .inl (cI, 24, .inl Pa)), (bB, .inl (cI, 24, .inl Pb)), (cC, .inl (cI, 24, .inl Pc)), (gA, .inl (cI, 1600, .inl G)), (zA, .inl (cZ, 400, .inl O)), (bA, .inl (cI, 25, .inl B)), (sR, .inl (cI, 8, .inl sr)), (sD, .inl (cI, 32, .inl sd)), (rA, .inl (cI, 16, .inl (tm_jn 8 (upd (upd R0 a (tm_wr (256 * (P (4 * q + 3))))) 0 0) R1))), (eC, .inl (cI, 128, .inl (tm_jn 64 C0 C1))), (eA, .inl (cI, 2, .inl (tm_tw e0 e1))), (pA, .inl (cI, 2, .inl (tm_tw (nI q) h1))), (dA, .inl (cI, 2, .inl (tm_tw (d0 + 1) d1))), (kA, .inl (cI, 2, .inl (tm_tw (nI k0) (nI k1)))), (acA, .inl (cI, 240, .inl (tm_jn 120 A0 A1)))] H := hP
    have hD : va_D A [(m0, .inr (5, [.int th, .int (nI n), .ref oA, .ref aA, .ref bB, .ref cC, .int tl, .int (nI k), .ref gA, .ref zA, .ref bA, .ref sR, .ref sD, .ref rA, .ref eC, .ref eA, .ref pA, .ref dA, .ref kA, .ref acA, .int nx])), (oA, .inl (cI, 24, .inl Po)), (aA, .inl (cI, 24, .inl Pa)), (bB, .inl (cI, 24, .inl Pb)), (cC, .inl (cI, 24, .inl Pc)), (gA, .inl (cI, 1600, .inl G)), (zA, .inl (cZ, 400, .inl O)), (bA, .inl (cI, 25, .inl B)), (sR, .inl (cI, 8, .inl sr)), (sD, .inl (cI, 32, .inl sd)), (rA, .inl (cI, 16, .inl (tm_jn 8 (upd (upd R0 a (tm_wr (256 * (P (4 * q + 3))))) 0 0) R1))), (eC, .inl (cI, 128, .inl (tm_jn 64 C0 C1))), (eA, .inl (cI, 2, .inl (tm_tw e0 e1))), (pA, .inl (cI, 2, .inl (tm_tw (nI q) h1))), (dA, .inl (cI, 2, .inl (tm_tw (d0 + 1) d1))), (kA, .inl (cI, 2, .inl (tm_tw (nI k0) (nI k1)))), (acA, .inl (cI, 240, .inl (tm_jn 120 A0 A1)))] := hD
    refine lv_aload_n hx hb d_Mo_source_376 rfl (lv_at hl 6 rfl) ?_
    refine va_get (D := D) (ci := 5) (v := .ref pA) (C := R_Mo) (T := F_Mo) (N := 21) hx hb hg f_Mo hown hK.1 hP 0 rfl rfl 16 (by decide) (hg _ q579) (fun _ h9 => h9) rfl d_Mo_source_377 ?_
    refine lv_iconst (v := 0) hx hb d_Mo_source_380 (by decide) ?_
    refine lv_aload_n hx hb d_Mo_source_381 rfl (lv_at hl 6 rfl) ?_
    refine va_get (D := D) (ci := 5) (v := .int nx) (C := R_Mo) (T := F_Mo) (N := 21) hx hb hg f_Mo hown hK.1 hP 0 rfl rfl 20 (by decide) (hg _ q583) (fun _ h9 => h9) rfl d_Mo_source_382 ?_
    refine xa_st hx hb hK hP hD hS 13 0 rfl rfl (kx := 0) (rfl) (by decide) (by decide) d_Mo_source_385 (fun H locs hP hD hS => ?_)
    have hP : va_P D cls [(m0, .inr (5, [.int th, .int (nI n), .ref oA, .ref aA, .ref bB, .ref cC, .int tl, .int (nI k), .ref gA, .ref zA, .ref bA, .ref sR, .ref sD, .ref rA, .ref eC, .ref eA, .ref pA, .ref dA, .ref kA, .ref acA, .int nx])), (oA, .inl (cI, 24, .inl Po)), (aA, .inl (cI, 24, .inl Pa)), (bB, .inl (cI, 24, .inl Pb)), (cC, .inl (cI, 24, .inl Pc)), (gA, .inl (cI, 1600, .inl G)), (zA, .inl (cZ, 400, .inl O)), (bA, .inl (cI, 25, .inl B)), (sR, .inl (cI, 8, .inl sr)), (sD, .inl (cI, 32, .inl sd)), (rA, .inl (cI, 16, .inl (tm_jn 8 (upd (upd R0 a (tm_wr (256 * (P (4 * q + 3))))) 0 0) R1))), (eC, .inl (cI, 128, .inl (tm_jn 64 C0 C1))), (eA, .inl (cI, 2, .inl (tm_tw e0 e1))), (pA, .inl (cI, 2, .inl (upd (tm_tw (nI q) h1) 0 nx))), (dA, .inl (cI, 2, .inl (tm_tw (d0 + 1) d1))), (kA, .inl (cI, 2, .inl (tm_tw (nI k0) (nI k1)))), (acA, .inl (cI, 240, .inl (tm_jn 120 A0 A1)))] H := hP
    have hD : va_D A [(m0, .inr (5, [.int th, .int (nI n), .ref oA, .ref aA, .ref bB, .ref cC, .int tl, .int (nI k), .ref gA, .ref zA, .ref bA, .ref sR, .ref sD, .ref rA, .ref eC, .ref eA, .ref pA, .ref dA, .ref kA, .ref acA, .int nx])), (oA, .inl (cI, 24, .inl Po)), (aA, .inl (cI, 24, .inl Pa)), (bB, .inl (cI, 24, .inl Pb)), (cC, .inl (cI, 24, .inl Pc)), (gA, .inl (cI, 1600, .inl G)), (zA, .inl (cZ, 400, .inl O)), (bA, .inl (cI, 25, .inl B)), (sR, .inl (cI, 8, .inl sr)), (sD, .inl (cI, 32, .inl sd)), (rA, .inl (cI, 16, .inl (tm_jn 8 (upd (upd R0 a (tm_wr (256 * (P (4 * q + 3))))) 0 0) R1))), (eC, .inl (cI, 128, .inl (tm_jn 64 C0 C1))), (eA, .inl (cI, 2, .inl (tm_tw e0 e1))), (pA, .inl (cI, 2, .inl (upd (tm_tw (nI q) h1) 0 nx))), (dA, .inl (cI, 2, .inl (tm_tw (d0 + 1) d1))), (kA, .inl (cI, 2, .inl (tm_tw (nI k0) (nI k1)))), (acA, .inl (cI, 240, .inl (tm_jn 120 A0 A1)))] := hD
    rw [tm_tw_0] at hP hD
    have hP : va_P D cls [(m0, .inr (5, [.int th, .int (nI n), .ref oA, .ref aA, .ref bB, .ref cC, .int tl, .int (nI k), .ref gA, .ref zA, .ref bA, .ref sR, .ref sD, .ref rA, .ref eC, .ref eA, .ref pA, .ref dA, .ref kA, .ref acA, .int nx])), (oA, .inl (cI, 24, .inl Po)), (aA, .inl (cI, 24, .inl Pa)), (bB, .inl (cI, 24, .inl Pb)), (cC, .inl (cI, 24, .inl Pc)), (gA, .inl (cI, 1600, .inl G)), (zA, .inl (cZ, 400, .inl O)), (bA, .inl (cI, 25, .inl B)), (sR, .inl (cI, 8, .inl sr)), (sD, .inl (cI, 32, .inl sd)), (rA, .inl (cI, 16, .inl (tm_jn 8 (upd (upd R0 a (tm_wr (256 * (P (4 * q + 3))))) 0 0) R1))), (eC, .inl (cI, 128, .inl (tm_jn 64 C0 C1))), (eA, .inl (cI, 2, .inl (tm_tw e0 e1))), (pA, .inl (cI, 2, .inl (tm_tw nx h1))), (dA, .inl (cI, 2, .inl (tm_tw (d0 + 1) d1))), (kA, .inl (cI, 2, .inl (tm_tw (nI k0) (nI k1)))), (acA, .inl (cI, 240, .inl (tm_jn 120 A0 A1)))] H := hP
    have hD : va_D A [(m0, .inr (5, [.int th, .int (nI n), .ref oA, .ref aA, .ref bB, .ref cC, .int tl, .int (nI k), .ref gA, .ref zA, .ref bA, .ref sR, .ref sD, .ref rA, .ref eC, .ref eA, .ref pA, .ref dA, .ref kA, .ref acA, .int nx])), (oA, .inl (cI, 24, .inl Po)), (aA, .inl (cI, 24, .inl Pa)), (bB, .inl (cI, 24, .inl Pb)), (cC, .inl (cI, 24, .inl Pc)), (gA, .inl (cI, 1600, .inl G)), (zA, .inl (cZ, 400, .inl O)), (bA, .inl (cI, 25, .inl B)), (sR, .inl (cI, 8, .inl sr)), (sD, .inl (cI, 32, .inl sd)), (rA, .inl (cI, 16, .inl (tm_jn 8 (upd (upd R0 a (tm_wr (256 * (P (4 * q + 3))))) 0 0) R1))), (eC, .inl (cI, 128, .inl (tm_jn 64 C0 C1))), (eA, .inl (cI, 2, .inl (tm_tw e0 e1))), (pA, .inl (cI, 2, .inl (tm_tw nx h1))), (dA, .inl (cI, 2, .inl (tm_tw (d0 + 1) d1))), (kA, .inl (cI, 2, .inl (tm_tw (nI k0) (nI k1)))), (acA, .inl (cI, 240, .inl (tm_jn 120 A0 A1)))] := hD
    refine lv_aload_n hx hb d_Mo_source_386 rfl (lv_at hl 6 rfl) ?_
    refine lv_iload hx hb d_Mo_source_387 (lv_at hl 0 rfl) ?_
    refine va_put (D := D) (ci := 5) (v := .int (nx + 1)) (ty := .int) (C := R_Mo) (T := F_Mo) (N := 21) hx hb hg f_Mo t_Mo t_Mo_ok n_Mo hown hK.1 hP hD hS 0 rfl rfl 20 (by decide) (hg _ q583) (fun _ h9 => h9) rfl (by decide +kernel) rfl rfl (Nat.le_of_ble_eq_true rfl) d_Mo_source_389 (fun H locs hP hD hS => ?_)
    have hP : va_P D cls [(m0, .inr (5, [.int th, .int (nI n), .ref oA, .ref aA, .ref bB, .ref cC, .int tl, .int (nI k), .ref gA, .ref zA, .ref bA, .ref sR, .ref sD, .ref rA, .ref eC, .ref eA, .ref pA, .ref dA, .ref kA, .ref acA, .int (nx + 1)])), (oA, .inl (cI, 24, .inl Po)), (aA, .inl (cI, 24, .inl Pa)), (bB, .inl (cI, 24, .inl Pb)), (cC, .inl (cI, 24, .inl Pc)), (gA, .inl (cI, 1600, .inl G)), (zA, .inl (cZ, 400, .inl O)), (bA, .inl (cI, 25, .inl B)), (sR, .inl (cI, 8, .inl sr)), (sD, .inl (cI, 32, .inl sd)), (rA, .inl (cI, 16, .inl (tm_jn 8 (upd (upd R0 a (tm_wr (256 * (P (4 * q + 3))))) 0 0) R1))), (eC, .inl (cI, 128, .inl (tm_jn 64 C0 C1))), (eA, .inl (cI, 2, .inl (tm_tw e0 e1))), (pA, .inl (cI, 2, .inl (tm_tw nx h1))), (dA, .inl (cI, 2, .inl (tm_tw (d0 + 1) d1))), (kA, .inl (cI, 2, .inl (tm_tw (nI k0) (nI k1)))), (acA, .inl (cI, 240, .inl (tm_jn 120 A0 A1)))] H := hP
    have hD : va_D A [(m0, .inr (5, [.int th, .int (nI n), .ref oA, .ref aA, .ref bB, .ref cC, .int tl, .int (nI k), .ref gA, .ref zA, .ref bA, .ref sR, .ref sD, .ref rA, .ref eC, .ref eA, .ref pA, .ref dA, .ref kA, .ref acA, .int (nx + 1)])), (oA, .inl (cI, 24, .inl Po)), (aA, .inl (cI, 24, .inl Pa)), (bB, .inl (cI, 24, .inl Pb)), (cC, .inl (cI, 24, .inl Pc)), (gA, .inl (cI, 1600, .inl G)), (zA, .inl (cZ, 400, .inl O)), (bA, .inl (cI, 25, .inl B)), (sR, .inl (cI, 8, .inl sr)), (sD, .inl (cI, 32, .inl sd)), (rA, .inl (cI, 16, .inl (tm_jn 8 (upd (upd R0 a (tm_wr (256 * (P (4 * q + 3))))) 0 0) R1))), (eC, .inl (cI, 128, .inl (tm_jn 64 C0 C1))), (eA, .inl (cI, 2, .inl (tm_tw e0 e1))), (pA, .inl (cI, 2, .inl (tm_tw nx h1))), (dA, .inl (cI, 2, .inl (tm_tw (d0 + 1) d1))), (kA, .inl (cI, 2, .inl (tm_tw (nI k0) (nI k1)))), (acA, .inl (cI, 240, .inl (tm_jn 120 A0 A1)))] := hD
    have ew1 : nx + 1 = (tm_ss P q (R0, C0, A0, k0, nI q, d0, e0, nx)).2.2.2.2.2.2.2 := by first | rfl | (simp [tm_ss, hv, f13, ee0, ee5, ee6, ee7, ee8, ee9, ee10, ee11, ee12, ee13, f7, f9, f4, f10]; done) | (simp [tm_ss, hv, f13, ee0, ee5, ee6, ee7, ee8, ee9, ee10, ee11, ee12, ee13, f7, f9, f4, f10, Nat.add_assoc]; done)
    have ew2_0 : (upd (upd R0 a (tm_wr (256 * (P (4 * q + 3))))) 0 0) = ((tm_ss P q (R0, C0, A0, k0, nI q, d0, e0, nx)).1) := by rw [tm_set_m hR0 ha8]; simp [tm_ss, tm_alu, tm_calc, hv, ha, hbb, hc_b, f13, ee0, ee5, ee6, ee7, ee8, ee9, ee10, ee11, ee12, ee13, f7, f9, f4, f10]
    have ew2 : tm_jn 8 (upd (upd R0 a (tm_wr (256 * (P (4 * q + 3))))) 0 0) R1 = tm_jn 8 ((tm_ss P q (R0, C0, A0, k0, nI q, d0, e0, nx)).1) R1 := congr (congrArg (tm_jn 8) ew2_0) rfl
    have ew3_0 : C0 = ((tm_ss P q (R0, C0, A0, k0, nI q, d0, e0, nx)).2.1) := by first | rfl | (simp [tm_ss, hv, f13, ee0, ee5, ee6, ee7, ee8, ee9, ee10, ee11, ee12, ee13, f7, f9, f4, f10]; done)
    have ew3 : tm_jn 64 C0 C1 = tm_jn 64 ((tm_ss P q (R0, C0, A0, k0, nI q, d0, e0, nx)).2.1) C1 := congr (congrArg (tm_jn 64) ew3_0) rfl
    have ew4_0 : e0 = ((tm_ss P q (R0, C0, A0, k0, nI q, d0, e0, nx)).2.2.2.2.2.2.1) := by first | rfl | (simp [tm_ss, hv, f13, ee0, ee5, ee6, ee7, ee8, ee9, ee10, ee11, ee12, ee13, f7, f9, f4, f10]; done)
    have ew4 : tm_tw e0 e1 = tm_tw ((tm_ss P q (R0, C0, A0, k0, nI q, d0, e0, nx)).2.2.2.2.2.2.1) e1 := congr (congrArg (tm_tw) ew4_0) rfl
    have ew5_0 : nx = ((tm_ss P q (R0, C0, A0, k0, nI q, d0, e0, nx)).2.2.2.2.1) := by first | rfl | (simp [tm_ss, hv, f13, ee0, ee5, ee6, ee7, ee8, ee9, ee10, ee11, ee12, ee13, f7, f9, f4, f10]; done)
    have ew5 : tm_tw nx h1 = tm_tw ((tm_ss P q (R0, C0, A0, k0, nI q, d0, e0, nx)).2.2.2.2.1) h1 := congr (congrArg (tm_tw) ew5_0) rfl
    have ew6_0 : (d0 + 1) = ((tm_ss P q (R0, C0, A0, k0, nI q, d0, e0, nx)).2.2.2.2.2.1) := by first | rfl | (simp [tm_ss, hv, f13, ee0, ee5, ee6, ee7, ee8, ee9, ee10, ee11, ee12, ee13, f7, f9, f4, f10]; done)
    have ew6 : tm_tw (d0 + 1) d1 = tm_tw ((tm_ss P q (R0, C0, A0, k0, nI q, d0, e0, nx)).2.2.2.2.2.1) d1 := congr (congrArg (tm_tw) ew6_0) rfl
    have ew7_0 : (nI k0) = (nI (tm_ss P q (R0, C0, A0, k0, nI q, d0, e0, nx)).2.2.2.1) := congrArg nI (by first | (simp [tm_ss, hv, f13, ee0, ee5, ee6, ee7, ee8, ee9, ee10, ee11, ee12, ee13, f7, f9, f4, f10]; done) | (simp [tm_ss, hv, f13, ee0, ee5, ee6, ee7, ee8, ee9, ee10, ee11, ee12, ee13, f7, f9, f4, f10]; omega) | omega)
    have ew7 : tm_tw (nI k0) (nI k1) = tm_tw (nI (tm_ss P q (R0, C0, A0, k0, nI q, d0, e0, nx)).2.2.2.1) (nI k1) := congr (congrArg (tm_tw) ew7_0) rfl
    have ew8_0 : A0 = ((tm_ss P q (R0, C0, A0, k0, nI q, d0, e0, nx)).2.2.1) := by first | rfl | (simp [tm_ss, hv, f13, ee0, ee5, ee6, ee7, ee8, ee9, ee10, ee11, ee12, ee13, f7, f9, f4, f10]; done)
    have ew8 : tm_jn 120 A0 A1 = tm_jn 120 ((tm_ss P q (R0, C0, A0, k0, nI q, d0, e0, nx)).2.2.1) A1 := congr (congrArg (tm_jn 120) ew8_0) rfl
    have hP : va_P D cls [(m0, .inr (5, [.int th, .int (nI n), .ref oA, .ref aA, .ref bB, .ref cC, .int tl, .int (nI k), .ref gA, .ref zA, .ref bA, .ref sR, .ref sD, .ref rA, .ref eC, .ref eA, .ref pA, .ref dA, .ref kA, .ref acA, .int ((tm_ss P q (R0, C0, A0, k0, nI q, d0, e0, nx)).2.2.2.2.2.2.2)])), (oA, .inl (cI, 24, .inl Po)), (aA, .inl (cI, 24, .inl Pa)), (bB, .inl (cI, 24, .inl Pb)), (cC, .inl (cI, 24, .inl Pc)), (gA, .inl (cI, 1600, .inl G)), (zA, .inl (cZ, 400, .inl O)), (bA, .inl (cI, 25, .inl B)), (sR, .inl (cI, 8, .inl sr)), (sD, .inl (cI, 32, .inl sd)), (rA, .inl (cI, 16, .inl (tm_jn 8 ((tm_ss P q (R0, C0, A0, k0, nI q, d0, e0, nx)).1) R1))), (eC, .inl (cI, 128, .inl (tm_jn 64 ((tm_ss P q (R0, C0, A0, k0, nI q, d0, e0, nx)).2.1) C1))), (eA, .inl (cI, 2, .inl (tm_tw ((tm_ss P q (R0, C0, A0, k0, nI q, d0, e0, nx)).2.2.2.2.2.2.1) e1))), (pA, .inl (cI, 2, .inl (tm_tw ((tm_ss P q (R0, C0, A0, k0, nI q, d0, e0, nx)).2.2.2.2.1) h1))), (dA, .inl (cI, 2, .inl (tm_tw ((tm_ss P q (R0, C0, A0, k0, nI q, d0, e0, nx)).2.2.2.2.2.1) d1))), (kA, .inl (cI, 2, .inl (tm_tw (nI (tm_ss P q (R0, C0, A0, k0, nI q, d0, e0, nx)).2.2.2.1) (nI k1)))), (acA, .inl (cI, 240, .inl (tm_jn 120 ((tm_ss P q (R0, C0, A0, k0, nI q, d0, e0, nx)).2.2.1) A1)))] H := by rw [← ew1, ← ew2, ← ew3, ← ew4, ← ew5, ← ew6, ← ew7, ← ew8]; exact hP
    have hD : va_D A [(m0, .inr (5, [.int th, .int (nI n), .ref oA, .ref aA, .ref bB, .ref cC, .int tl, .int (nI k), .ref gA, .ref zA, .ref bA, .ref sR, .ref sD, .ref rA, .ref eC, .ref eA, .ref pA, .ref dA, .ref kA, .ref acA, .int ((tm_ss P q (R0, C0, A0, k0, nI q, d0, e0, nx)).2.2.2.2.2.2.2)])), (oA, .inl (cI, 24, .inl Po)), (aA, .inl (cI, 24, .inl Pa)), (bB, .inl (cI, 24, .inl Pb)), (cC, .inl (cI, 24, .inl Pc)), (gA, .inl (cI, 1600, .inl G)), (zA, .inl (cZ, 400, .inl O)), (bA, .inl (cI, 25, .inl B)), (sR, .inl (cI, 8, .inl sr)), (sD, .inl (cI, 32, .inl sd)), (rA, .inl (cI, 16, .inl (tm_jn 8 ((tm_ss P q (R0, C0, A0, k0, nI q, d0, e0, nx)).1) R1))), (eC, .inl (cI, 128, .inl (tm_jn 64 ((tm_ss P q (R0, C0, A0, k0, nI q, d0, e0, nx)).2.1) C1))), (eA, .inl (cI, 2, .inl (tm_tw ((tm_ss P q (R0, C0, A0, k0, nI q, d0, e0, nx)).2.2.2.2.2.2.1) e1))), (pA, .inl (cI, 2, .inl (tm_tw ((tm_ss P q (R0, C0, A0, k0, nI q, d0, e0, nx)).2.2.2.2.1) h1))), (dA, .inl (cI, 2, .inl (tm_tw ((tm_ss P q (R0, C0, A0, k0, nI q, d0, e0, nx)).2.2.2.2.2.1) d1))), (kA, .inl (cI, 2, .inl (tm_tw (nI (tm_ss P q (R0, C0, A0, k0, nI q, d0, e0, nx)).2.2.2.1) (nI k1)))), (acA, .inl (cI, 240, .inl (tm_jn 120 ((tm_ss P q (R0, C0, A0, k0, nI q, d0, e0, nx)).2.2.1) A1)))] := by rw [← ew1, ← ew2, ← ew3, ← ew4, ← ew5, ← ew6, ← ew7, ← ew8]; exact hD
    exact W.vret hx hb hr (fun t9 ht9 hW9 => ⟨⟨(), rfl, trivial, by rw [ht9]; exact hP, hD⟩, hS.F ht9⟩) hS.2.2 d_Mo_source_392
  · have f13 : ¬ 13 < nI v := nI_nlt (a := 13) (b := v) (by omega) (by decide)
    have ee0 : ¬ nI v = 0 := xn_ne (w := 0) (by omega) (by decide) (by omega)
    have ee5 : ¬ nI v = 5 := xn_ne (w := 5) (by omega) (by decide) (by omega)
    have ee6 : ¬ nI v = 6 := xn_ne (w := 6) (by omega) (by decide) (by omega)
    have ee7 : nI v = 7 := by rw [hcase]; rfl
    have ee8 : ¬ nI v = 8 := xn_ne (w := 8) (by omega) (by decide) (by omega)
    have ee9 : ¬ nI v = 9 := xn_ne (w := 9) (by omega) (by decide) (by omega)
    have ee10 : ¬ nI v = 10 := xn_ne (w := 10) (by omega) (by decide) (by omega)
    have ee11 : ¬ nI v = 11 := xn_ne (w := 11) (by omega) (by decide) (by omega)
    have ee12 : ¬ nI v = 12 := xn_ne (w := 12) (by omega) (by decide) (by omega)
    have ee13 : ¬ nI v = 13 := xn_ne (w := 13) (by omega) (by decide) (by omega)
    have f7 : ¬ nI v < 7 := nI_nlt (a := v) (b := 7) (by omega) (by omega)
    have f9 : nI v < 9 := nI_lt (a := v) (b := 9) (by omega) (by decide)
    have f4 : 4 < nI v := nI_lt (a := 4) (b := v) (by omega) (by omega)
    have f10 : ¬ 10 < nI v := nI_nlt (a := 10) (b := v) (by omega) (by decide)
    by_cases ho : tm_adr P q R0 < 0 ∨ nI 32 ≤ tm_adr P q R0
    · have hz : tm_wi (tm_adr P q R0) 0 31 = 0 := tm_wi_0 (ho.imp id (fun h => xn_31 h))
      refine lv_aload_n hx hb d_Mo_source_0 rfl (lv_at hl 0 rfl) ?_
      refine va_get (D := D) (ci := 5) (v := .ref pA) (C := R_Mo) (T := F_Mo) (N := 21) hx hb hg f_Mo hown hK.1 hP 0 rfl rfl 16 (by decide) (hg _ q579) (fun _ h9 => h9) rfl d_Mo_source_1 ?_
      refine lv_iconst (v := 0) hx hb d_Mo_source_4 (by decide) ?_
      refine xa_ld hx hb hK hP 13 0 rfl rfl (kx := 0) (rfl) (by decide) (by decide) d_Mo_source_5 ?_
      have eq9 : ((tm_tw (nI q) h1) 0 : Int32) = nI q := rfl
      refine W.eq (g2 := F0 m 6 ls [.int (nI q)]) (by rw [eq9]) ?_
      refine lv_istore_n hx hb d_Mo_source_6 rfl hl (by decide) rfl (fun ls hl => ?_)
      have hl : lv_has ls 7 [(1, .int (nI q)), (0, .ref m0)] := hl
      refine lv_iload_n hx hb d_Mo_source_7 rfl (lv_at hl 0 rfl) ?_
      refine lv_iconst (v := 0) hx hb d_Mo_source_8 (by decide) ?_
      refine lv_aload_n hx hb d_Mo_source_9 rfl (lv_at hl 1 rfl) ?_
      refine va_get (D := D) (ci := 5) (v := .int (nI n)) (C := R_Mo) (T := F_Mo) (N := 21) hx hb hg f_Mo hown hK.1 hP 0 rfl rfl 1 (by decide) (hg _ q564) (fun _ h9 => h9) rfl d_Mo_source_10 ?_
      refine lv_iconst (v := 1) hx hb d_Mo_source_13 (by decide) ?_
      refine lv_isub hx hb d_Mo_source_14 ?_
      have eq9 : ((nI n) - 1 : Int32) = nI (n - 1) := pk_sub (a := n) (b := 1) (by omega)
      refine W.eq (g2 := F0 m 15 ls [.int (nI (n - 1)), .int 0, .int (nI q)]) (by rw [eq9]) ?_
      refine xr_S (As := [.int (nI q), .int 0, .int (nI (n - 1))]) (rest := []) ⟨hx, hb, hml, hown, hg⟩ (c_Mo_in l D cI cZ cJ (nI q) 0 (nI (n - 1))) m_Mo_in q636 ⟨rfl, rfl⟩ ⟨Nat.le_of_ble_eq_true rfl, Nat.le_of_ble_eq_true rfl⟩ hK hP [] rfl rfl hl.1 rfl (Nat.le_of_ble_eq_true rfl) d_Mo_source_15 ⟨Nat.zero_le _, Nat.zero_le _⟩ ?_
      refine lv_if_eq (tgt := 30) hx hb d_Mo_source_18 rfl (fun hz9 => absurd hz9 (tm_wi_y (nI_le (a := 0) (b := q) (by omega) (by omega)) (nI_le (a := q) (b := n - 1) (by omega) (by omega)))) (fun _ => ?_)
      refine lv_aload_n hx hb d_Mo_source_21 rfl (lv_at hl 1 rfl) ?_
      refine va_get (D := D) (ci := 5) (v := .ref oA) (C := R_Mo) (T := F_Mo) (N := 21) hx hb hg f_Mo hown hK.1 hP 0 rfl rfl 2 (by decide) (hg _ q565) (fun _ h9 => h9) rfl d_Mo_source_22 ?_
      refine lv_iload_n hx hb d_Mo_source_25 rfl (lv_at hl 0 rfl) ?_
      refine xa_ld hx hb hK hP 1 0 rfl rfl (kx := q) (rfl) (by omega) (by decide) d_Mo_source_26 ?_
      have eq9 : (Po q : Int32) = P (4 * q) := hPo q
      refine W.eq (g2 := F0 m 27 ls [.int (P (4 * q))]) (by rw [eq9]) ?_
      refine lv_goto (tgt := 32) hx hb d_Mo_source_27 rfl ?_
      have eq9 : (P (4 * q) : Int32) = nI v := hv
      refine W.eq (g2 := F0 m 32 ls [.int (nI v)]) (by rw [eq9]) ?_
      refine lv_istore_n hx hb d_Mo_source_32 rfl hl (by decide) rfl (fun ls hl => ?_)
      have hl : lv_has ls 7 [(2, .int (nI v)), (1, .int (nI q)), (0, .ref m0)] := hl
      refine lv_iload_n hx hb d_Mo_source_33 rfl (lv_at hl 0 rfl) ?_
      refine lv_bipush (v := 13) hx hb d_Mo_source_34 (by decide) ?_
      refine lv_icmp_le (tgt := 43) hx hb d_Mo_source_36 rfl (fun _ => ?_) (fun hz9 => absurd (nI_le (a := v) (b := 13) (by omega) (by decide)) hz9)
      refine lv_aload_n hx hb d_Mo_source_43 rfl (lv_at hl 2 rfl) ?_
      refine va_get (D := D) (ci := 5) (v := .ref rA) (C := R_Mo) (T := F_Mo) (N := 21) hx hb hg f_Mo hown hK.1 hP 0 rfl rfl 13 (by decide) (hg _ q576) (fun _ h9 => h9) rfl d_Mo_source_44 ?_
      refine lv_aload_n hx hb d_Mo_source_47 rfl (lv_at hl 2 rfl) ?_
      refine va_get (D := D) (ci := 5) (v := .ref aA) (C := R_Mo) (T := F_Mo) (N := 21) hx hb hg f_Mo hown hK.1 hP 0 rfl rfl 3 (by decide) (hg _ q566) (fun _ h9 => h9) rfl d_Mo_source_48 ?_
      refine lv_iload_n hx hb d_Mo_source_51 rfl (lv_at hl 1 rfl) ?_
      refine xa_ld hx hb hK hP 2 0 rfl rfl (kx := q) (rfl) (by omega) (by decide) d_Mo_source_52 ?_
      have eq9 : (Pa q : Int32) = P (4 * q + 1) := hPa q
      refine W.eq (g2 := F0 m 53 ls [.int (P (4 * q + 1)), .ref rA]) (by rw [eq9]) ?_
      refine xa_ld hx hb hK hP 10 0 rfl rfl (kx := a) (ha) (by omega) (by decide) d_Mo_source_53 ?_
      have eq9 : ((tm_jn 8 R0 R1) a : Int32) = R0 a := tm_jn_lo (by omega)
      refine W.eq (g2 := F0 m 54 ls [.int (R0 a)]) (by rw [eq9]) ?_
      refine lv_istore_n hx hb d_Mo_source_54 rfl hl (by decide) rfl (fun ls hl => ?_)
      have hl : lv_has ls 7 [(3, .int (R0 a)), (2, .int (nI v)), (1, .int (nI q)), (0, .ref m0)] := hl
      refine lv_iload_n hx hb d_Mo_source_55 rfl (lv_at hl 1 rfl) ?_
      refine lv_bipush (v := 13) hx hb d_Mo_source_56 (by decide) ?_
      refine lv_icmp_le (tgt := 65) hx hb d_Mo_source_58 rfl (fun _ => ?_) (fun hz9 => absurd (nI_le (a := v) (b := 13) (by omega) (by decide)) hz9)
      refine lv_aload_n hx hb d_Mo_source_65 rfl (lv_at hl 3 rfl) ?_
      refine va_get (D := D) (ci := 5) (v := .ref rA) (C := R_Mo) (T := F_Mo) (N := 21) hx hb hg f_Mo hown hK.1 hP 0 rfl rfl 13 (by decide) (hg _ q576) (fun _ h9 => h9) rfl d_Mo_source_66 ?_
      refine lv_aload_n hx hb d_Mo_source_69 rfl (lv_at hl 3 rfl) ?_
      refine va_get (D := D) (ci := 5) (v := .ref bB) (C := R_Mo) (T := F_Mo) (N := 21) hx hb hg f_Mo hown hK.1 hP 0 rfl rfl 4 (by decide) (hg _ q567) (fun _ h9 => h9) rfl d_Mo_source_70 ?_
      refine lv_iload_n hx hb d_Mo_source_73 rfl (lv_at hl 2 rfl) ?_
      refine xa_ld hx hb hK hP 3 0 rfl rfl (kx := q) (rfl) (by omega) (by decide) d_Mo_source_74 ?_
      have eq9 : (Pb q : Int32) = P (4 * q + 2) := hPb q
      refine W.eq (g2 := F0 m 75 ls [.int (P (4 * q + 2)), .ref rA]) (by rw [eq9]) ?_
      refine xa_ld hx hb hK hP 10 0 rfl rfl (kx := b) (hbb) (by omega) (by decide) d_Mo_source_75 ?_
      have eq9 : ((tm_jn 8 R0 R1) b : Int32) = R0 b := tm_jn_lo (by omega)
      refine W.eq (g2 := F0 m 76 ls [.int (R0 b)]) (by rw [eq9]) ?_
      refine lv_istore hx hb d_Mo_source_76 hl (by decide) rfl (fun ls hl => ?_)
      have hl : lv_has ls 7 [(4, .int (R0 b)), (3, .int (R0 a)), (2, .int (nI v)), (1, .int (nI q)), (0, .ref m0)] := hl
      refine lv_iload_n hx hb d_Mo_source_78 rfl (lv_at hl 2 rfl) ?_
      refine lv_bipush (v := 13) hx hb d_Mo_source_79 (by decide) ?_
      refine lv_icmp_le (tgt := 88) hx hb d_Mo_source_81 rfl (fun _ => ?_) (fun hz9 => absurd (nI_le (a := v) (b := 13) (by omega) (by decide)) hz9)
      refine lv_iload hx hb d_Mo_source_88 (lv_at hl 0 rfl) ?_
      refine lv_aload_n hx hb d_Mo_source_90 rfl (lv_at hl 4 rfl) ?_
      refine va_get (D := D) (ci := 5) (v := .ref cC) (C := R_Mo) (T := F_Mo) (N := 21) hx hb hg f_Mo hown hK.1 hP 0 rfl rfl 5 (by decide) (hg _ q568) (fun _ h9 => h9) rfl d_Mo_source_91 ?_
      refine lv_iload_n hx hb d_Mo_source_94 rfl (lv_at hl 3 rfl) ?_
      refine xa_ld hx hb hK hP 4 0 rfl rfl (kx := q) (rfl) (by omega) (by decide) d_Mo_source_95 ?_
      have eq9 : (Pc q : Int32) = P (4 * q + 3) := hPc q
      refine W.eq (g2 := F0 m 96 ls [.int (P (4 * q + 3)), .int (R0 b)]) (by rw [eq9]) ?_
      refine lv_iadd hx hb d_Mo_source_96 ?_
      refine xr_S (As := [.int ((R0 b) + (P (4 * q + 3)))]) (rest := []) ⟨hx, hb, hml, hown, hg⟩ (c_Mo_round l D cI cZ cJ ((R0 b) + (P (4 * q + 3)))) m_Mo_round q725 ⟨rfl, rfl⟩ ⟨Nat.le_of_ble_eq_true rfl, Nat.le_of_ble_eq_true rfl⟩ hK hP [] rfl rfl hl.1 rfl (Nat.le_of_ble_eq_true rfl) d_Mo_source_97 ⟨Nat.zero_le _, Nat.zero_le _⟩ ?_
      have eq9 : (tm_wr ((R0 b) + (P (4 * q + 3))) : Int32) = tm_adr P q R0 := by simp [tm_adr, hbb, hc_b]
      refine W.eq (g2 := F0 m 100 ls [.int (tm_adr P q R0)]) (by rw [eq9]) ?_
      refine lv_istore hx hb d_Mo_source_100 hl (by decide) rfl (fun ls hl => ?_)
      have hl : lv_has ls 7 [(5, .int (tm_adr P q R0)), (4, .int (R0 b)), (3, .int (R0 a)), (2, .int (nI v)), (1, .int (nI q)), (0, .ref m0)] := hl
      refine lv_iload_n hx hb d_Mo_source_102 rfl (lv_at hl 3 rfl) ?_
      refine lv_bipush (v := 13) hx hb d_Mo_source_103 (by decide) ?_
      refine lv_icmp_gt (tgt := 131) hx hb d_Mo_source_105 rfl (fun hz9 => absurd hz9 (f13)) (fun _ => ?_)
      refine lv_iload_n hx hb d_Mo_source_108 rfl (lv_at hl 3 rfl) ?_
      refine lv_bipush (v := 7) hx hb d_Mo_source_109 (by decide) ?_
      refine lv_icmp_eq (tgt := 120) hx hb d_Mo_source_111 rfl (fun _ => ?_) (fun hz9 => absurd (ee7) hz9)
      refine lv_iload hx hb d_Mo_source_120 (lv_at hl 0 rfl) ?_
      refine lv_iconst (v := 0) hx hb d_Mo_source_122 (by decide) ?_
      refine lv_bipush (v := 31) hx hb d_Mo_source_123 (by decide) ?_
      refine xr_S (As := [.int (tm_adr P q R0), .int 0, .int 31]) (rest := []) ⟨hx, hb, hml, hown, hg⟩ (c_Mo_in l D cI cZ cJ (tm_adr P q R0) 0 31) m_Mo_in q636 ⟨rfl, rfl⟩ ⟨Nat.le_of_ble_eq_true rfl, Nat.le_of_ble_eq_true rfl⟩ hK hP [] rfl rfl hl.1 rfl (Nat.le_of_ble_eq_true rfl) d_Mo_source_125 ⟨Nat.zero_le _, Nat.zero_le _⟩ ?_
      refine lv_if_ne (tgt := 139) hx hb d_Mo_source_128 rfl (fun hz9 => absurd (hz) hz9) (fun _ => ?_)
      refine lv_aload_n hx hb d_Mo_source_131 rfl (lv_at hl 5 rfl) ?_
      refine va_get (D := D) (ci := 5) (v := .ref eA) (C := R_Mo) (T := F_Mo) (N := 21) hx hb hg f_Mo hown hK.1 hP 0 rfl rfl 15 (by decide) (hg _ q578) (fun _ h9 => h9) rfl d_Mo_source_132 ?_
      refine lv_iconst (v := 0) hx hb d_Mo_source_135 (by decide) ?_
      refine lv_iconst (v := 2) hx hb d_Mo_source_136 (by decide) ?_
      refine xa_st hx hb hK hP hD hS 12 0 rfl rfl (kx := 0) (rfl) (by decide) (by decide) d_Mo_source_137 (fun H locs hP hD hS => ?_)
      have hP : va_P D cls [(m0, .inr (5, [.int th, .int (nI n), .ref oA, .ref aA, .ref bB, .ref cC, .int tl, .int (nI k), .ref gA, .ref zA, .ref bA, .ref sR, .ref sD, .ref rA, .ref eC, .ref eA, .ref pA, .ref dA, .ref kA, .ref acA, .int nx])), (oA, .inl (cI, 24, .inl Po)), (aA, .inl (cI, 24, .inl Pa)), (bB, .inl (cI, 24, .inl Pb)), (cC, .inl (cI, 24, .inl Pc)), (gA, .inl (cI, 1600, .inl G)), (zA, .inl (cZ, 400, .inl O)), (bA, .inl (cI, 25, .inl B)), (sR, .inl (cI, 8, .inl sr)), (sD, .inl (cI, 32, .inl sd)), (rA, .inl (cI, 16, .inl (tm_jn 8 R0 R1))), (eC, .inl (cI, 128, .inl (tm_jn 64 C0 C1))), (eA, .inl (cI, 2, .inl (upd (tm_tw e0 e1) 0 2))), (pA, .inl (cI, 2, .inl (tm_tw (nI q) h1))), (dA, .inl (cI, 2, .inl (tm_tw d0 d1))), (kA, .inl (cI, 2, .inl (tm_tw (nI k0) (nI k1)))), (acA, .inl (cI, 240, .inl (tm_jn 120 A0 A1)))] H := hP
      have hD : va_D A [(m0, .inr (5, [.int th, .int (nI n), .ref oA, .ref aA, .ref bB, .ref cC, .int tl, .int (nI k), .ref gA, .ref zA, .ref bA, .ref sR, .ref sD, .ref rA, .ref eC, .ref eA, .ref pA, .ref dA, .ref kA, .ref acA, .int nx])), (oA, .inl (cI, 24, .inl Po)), (aA, .inl (cI, 24, .inl Pa)), (bB, .inl (cI, 24, .inl Pb)), (cC, .inl (cI, 24, .inl Pc)), (gA, .inl (cI, 1600, .inl G)), (zA, .inl (cZ, 400, .inl O)), (bA, .inl (cI, 25, .inl B)), (sR, .inl (cI, 8, .inl sr)), (sD, .inl (cI, 32, .inl sd)), (rA, .inl (cI, 16, .inl (tm_jn 8 R0 R1))), (eC, .inl (cI, 128, .inl (tm_jn 64 C0 C1))), (eA, .inl (cI, 2, .inl (upd (tm_tw e0 e1) 0 2))), (pA, .inl (cI, 2, .inl (tm_tw (nI q) h1))), (dA, .inl (cI, 2, .inl (tm_tw d0 d1))), (kA, .inl (cI, 2, .inl (tm_tw (nI k0) (nI k1)))), (acA, .inl (cI, 240, .inl (tm_jn 120 A0 A1)))] := hD
      rw [tm_tw_0] at hP hD
      have hP : va_P D cls [(m0, .inr (5, [.int th, .int (nI n), .ref oA, .ref aA, .ref bB, .ref cC, .int tl, .int (nI k), .ref gA, .ref zA, .ref bA, .ref sR, .ref sD, .ref rA, .ref eC, .ref eA, .ref pA, .ref dA, .ref kA, .ref acA, .int nx])), (oA, .inl (cI, 24, .inl Po)), (aA, .inl (cI, 24, .inl Pa)), (bB, .inl (cI, 24, .inl Pb)), (cC, .inl (cI, 24, .inl Pc)), (gA, .inl (cI, 1600, .inl G)), (zA, .inl (cZ, 400, .inl O)), (bA, .inl (cI, 25, .inl B)), (sR, .inl (cI, 8, .inl sr)), (sD, .inl (cI, 32, .inl sd)), (rA, .inl (cI, 16, .inl (tm_jn 8 R0 R1))), (eC, .inl (cI, 128, .inl (tm_jn 64 C0 C1))), (eA, .inl (cI, 2, .inl (tm_tw 2 e1))), (pA, .inl (cI, 2, .inl (tm_tw (nI q) h1))), (dA, .inl (cI, 2, .inl (tm_tw d0 d1))), (kA, .inl (cI, 2, .inl (tm_tw (nI k0) (nI k1)))), (acA, .inl (cI, 240, .inl (tm_jn 120 A0 A1)))] H := hP
      have hD : va_D A [(m0, .inr (5, [.int th, .int (nI n), .ref oA, .ref aA, .ref bB, .ref cC, .int tl, .int (nI k), .ref gA, .ref zA, .ref bA, .ref sR, .ref sD, .ref rA, .ref eC, .ref eA, .ref pA, .ref dA, .ref kA, .ref acA, .int nx])), (oA, .inl (cI, 24, .inl Po)), (aA, .inl (cI, 24, .inl Pa)), (bB, .inl (cI, 24, .inl Pb)), (cC, .inl (cI, 24, .inl Pc)), (gA, .inl (cI, 1600, .inl G)), (zA, .inl (cZ, 400, .inl O)), (bA, .inl (cI, 25, .inl B)), (sR, .inl (cI, 8, .inl sr)), (sD, .inl (cI, 32, .inl sd)), (rA, .inl (cI, 16, .inl (tm_jn 8 R0 R1))), (eC, .inl (cI, 128, .inl (tm_jn 64 C0 C1))), (eA, .inl (cI, 2, .inl (tm_tw 2 e1))), (pA, .inl (cI, 2, .inl (tm_tw (nI q) h1))), (dA, .inl (cI, 2, .inl (tm_tw d0 d1))), (kA, .inl (cI, 2, .inl (tm_tw (nI k0) (nI k1)))), (acA, .inl (cI, 240, .inl (tm_jn 120 A0 A1)))] := hD
      have ew1 : nx = (tm_ss P q (R0, C0, A0, k0, nI q, d0, e0, nx)).2.2.2.2.2.2.2 := by first | rfl | (simp [tm_ss, hv, f13, ee0, ee5, ee6, ee7, ee8, ee9, ee10, ee11, ee12, ee13, f7, f9, f4, f10, ho]; done) | (simp [tm_ss, hv, f13, ee0, ee5, ee6, ee7, ee8, ee9, ee10, ee11, ee12, ee13, f7, f9, f4, f10, ho, Nat.add_assoc]; done)
      have ew2_0 : R0 = ((tm_ss P q (R0, C0, A0, k0, nI q, d0, e0, nx)).1) := by first | rfl | (simp [tm_ss, hv, f13, ee0, ee5, ee6, ee7, ee8, ee9, ee10, ee11, ee12, ee13, f7, f9, f4, f10, ho]; done)
      have ew2 : tm_jn 8 R0 R1 = tm_jn 8 ((tm_ss P q (R0, C0, A0, k0, nI q, d0, e0, nx)).1) R1 := congr (congrArg (tm_jn 8) ew2_0) rfl
      have ew3_0 : C0 = ((tm_ss P q (R0, C0, A0, k0, nI q, d0, e0, nx)).2.1) := by first | rfl | (simp [tm_ss, hv, f13, ee0, ee5, ee6, ee7, ee8, ee9, ee10, ee11, ee12, ee13, f7, f9, f4, f10, ho]; done)
      have ew3 : tm_jn 64 C0 C1 = tm_jn 64 ((tm_ss P q (R0, C0, A0, k0, nI q, d0, e0, nx)).2.1) C1 := congr (congrArg (tm_jn 64) ew3_0) rfl
      have ew4_0 : 2 = ((tm_ss P q (R0, C0, A0, k0, nI q, d0, e0, nx)).2.2.2.2.2.2.1) := by first | rfl | (simp [tm_ss, hv, f13, ee0, ee5, ee6, ee7, ee8, ee9, ee10, ee11, ee12, ee13, f7, f9, f4, f10, ho]; done)
      have ew4 : tm_tw 2 e1 = tm_tw ((tm_ss P q (R0, C0, A0, k0, nI q, d0, e0, nx)).2.2.2.2.2.2.1) e1 := congr (congrArg (tm_tw) ew4_0) rfl
      have ew5_0 : (nI q) = ((tm_ss P q (R0, C0, A0, k0, nI q, d0, e0, nx)).2.2.2.2.1) := by first | rfl | (simp [tm_ss, hv, f13, ee0, ee5, ee6, ee7, ee8, ee9, ee10, ee11, ee12, ee13, f7, f9, f4, f10, ho]; done)
      have ew5 : tm_tw (nI q) h1 = tm_tw ((tm_ss P q (R0, C0, A0, k0, nI q, d0, e0, nx)).2.2.2.2.1) h1 := congr (congrArg (tm_tw) ew5_0) rfl
      have ew6_0 : d0 = ((tm_ss P q (R0, C0, A0, k0, nI q, d0, e0, nx)).2.2.2.2.2.1) := by first | rfl | (simp [tm_ss, hv, f13, ee0, ee5, ee6, ee7, ee8, ee9, ee10, ee11, ee12, ee13, f7, f9, f4, f10, ho]; done)
      have ew6 : tm_tw d0 d1 = tm_tw ((tm_ss P q (R0, C0, A0, k0, nI q, d0, e0, nx)).2.2.2.2.2.1) d1 := congr (congrArg (tm_tw) ew6_0) rfl
      have ew7_0 : (nI k0) = (nI (tm_ss P q (R0, C0, A0, k0, nI q, d0, e0, nx)).2.2.2.1) := congrArg nI (by first | (simp [tm_ss, hv, f13, ee0, ee5, ee6, ee7, ee8, ee9, ee10, ee11, ee12, ee13, f7, f9, f4, f10, ho]; done) | (simp [tm_ss, hv, f13, ee0, ee5, ee6, ee7, ee8, ee9, ee10, ee11, ee12, ee13, f7, f9, f4, f10, ho]; omega) | omega)
      have ew7 : tm_tw (nI k0) (nI k1) = tm_tw (nI (tm_ss P q (R0, C0, A0, k0, nI q, d0, e0, nx)).2.2.2.1) (nI k1) := congr (congrArg (tm_tw) ew7_0) rfl
      have ew8_0 : A0 = ((tm_ss P q (R0, C0, A0, k0, nI q, d0, e0, nx)).2.2.1) := by first | rfl | (simp [tm_ss, hv, f13, ee0, ee5, ee6, ee7, ee8, ee9, ee10, ee11, ee12, ee13, f7, f9, f4, f10, ho]; done)
      have ew8 : tm_jn 120 A0 A1 = tm_jn 120 ((tm_ss P q (R0, C0, A0, k0, nI q, d0, e0, nx)).2.2.1) A1 := congr (congrArg (tm_jn 120) ew8_0) rfl
      have hP : va_P D cls [(m0, .inr (5, [.int th, .int (nI n), .ref oA, .ref aA, .ref bB, .ref cC, .int tl, .int (nI k), .ref gA, .ref zA, .ref bA, .ref sR, .ref sD, .ref rA, .ref eC, .ref eA, .ref pA, .ref dA, .ref kA, .ref acA, .int ((tm_ss P q (R0, C0, A0, k0, nI q, d0, e0, nx)).2.2.2.2.2.2.2)])), (oA, .inl (cI, 24, .inl Po)), (aA, .inl (cI, 24, .inl Pa)), (bB, .inl (cI, 24, .inl Pb)), (cC, .inl (cI, 24, .inl Pc)), (gA, .inl (cI, 1600, .inl G)), (zA, .inl (cZ, 400, .inl O)), (bA, .inl (cI, 25, .inl B)), (sR, .inl (cI, 8, .inl sr)), (sD, .inl (cI, 32, .inl sd)), (rA, .inl (cI, 16, .inl (tm_jn 8 ((tm_ss P q (R0, C0, A0, k0, nI q, d0, e0, nx)).1) R1))), (eC, .inl (cI, 128, .inl (tm_jn 64 ((tm_ss P q (R0, C0, A0, k0, nI q, d0, e0, nx)).2.1) C1))), (eA, .inl (cI, 2, .inl (tm_tw ((tm_ss P q (R0, C0, A0, k0, nI q, d0, e0, nx)).2.2.2.2.2.2.1) e1))), (pA, .inl (cI, 2, .inl (tm_tw ((tm_ss P q (R0, C0, A0, k0, nI q, d0, e0, nx)).2.2.2.2.1) h1))), (dA, .inl (cI, 2, .inl (tm_tw ((tm_ss P q (R0, C0, A0, k0, nI q, d0, e0, nx)).2.2.2.2.2.1) d1))), (kA, .inl (cI, 2, .inl (tm_tw (nI (tm_ss P q (R0, C0, A0, k0, nI q, d0, e0, nx)).2.2.2.1) (nI k1)))), (acA, .inl (cI, 240, .inl (tm_jn 120 ((tm_ss P q (R0, C0, A0, k0, nI q, d0, e0, nx)).2.2.1) A1)))] H := by rw [← ew1, ← ew2, ← ew3, ← ew4, ← ew5, ← ew6, ← ew7, ← ew8]; exact hP
      have hD : va_D A [(m0, .inr (5, [.int th, .int (nI n), .ref oA, .ref aA, .ref bB, .ref cC, .int tl, .int (nI k), .ref gA, .ref zA, .ref bA, .ref sR, .ref sD, .ref rA, .ref eC, .ref eA, .ref pA, .ref dA, .ref kA, .ref acA, .int ((tm_ss P q (R0, C0, A0, k0, nI q, d0, e0, nx)).2.2.2.2.2.2.2)])), (oA, .inl (cI, 24, .inl Po)), (aA, .inl (cI, 24, .inl Pa)), (bB, .inl (cI, 24, .inl Pb)), (cC, .inl (cI, 24, .inl Pc)), (gA, .inl (cI, 1600, .inl G)), (zA, .inl (cZ, 400, .inl O)), (bA, .inl (cI, 25, .inl B)), (sR, .inl (cI, 8, .inl sr)), (sD, .inl (cI, 32, .inl sd)), (rA, .inl (cI, 16, .inl (tm_jn 8 ((tm_ss P q (R0, C0, A0, k0, nI q, d0, e0, nx)).1) R1))), (eC, .inl (cI, 128, .inl (tm_jn 64 ((tm_ss P q (R0, C0, A0, k0, nI q, d0, e0, nx)).2.1) C1))), (eA, .inl (cI, 2, .inl (tm_tw ((tm_ss P q (R0, C0, A0, k0, nI q, d0, e0, nx)).2.2.2.2.2.2.1) e1))), (pA, .inl (cI, 2, .inl (tm_tw ((tm_ss P q (R0, C0, A0, k0, nI q, d0, e0, nx)).2.2.2.2.1) h1))), (dA, .inl (cI, 2, .inl (tm_tw ((tm_ss P q (R0, C0, A0, k0, nI q, d0, e0, nx)).2.2.2.2.2.1) d1))), (kA, .inl (cI, 2, .inl (tm_tw (nI (tm_ss P q (R0, C0, A0, k0, nI q, d0, e0, nx)).2.2.2.1) (nI k1)))), (acA, .inl (cI, 240, .inl (tm_jn 120 ((tm_ss P q (R0, C0, A0, k0, nI q, d0, e0, nx)).2.2.1) A1)))] := by rw [← ew1, ← ew2, ← ew3, ← ew4, ← ew5, ← ew6, ← ew7, ← ew8]; exact hD
      exact W.vret hx hb hr (fun t9 ht9 hW9 => ⟨⟨(), rfl, trivial, by rw [ht9]; exact hP, hD⟩, hS.F ht9⟩) hS.2.2 d_Mo_source_138
    · obtain ⟨dd, hdM, hd⟩ : ∃ dd : Nat, dd < 32 ∧ tm_adr P q R0 = nI dd := ((pk_ix (tm_adr P q R0) (n := 32) (by decide)).resolve_left (fun z => ho (Or.inl z))).resolve_left (fun z => ho (Or.inr z))
      have hc_dd : (nI dd).toNatClampNeg = dd := nI_clamp (by omega)
      have hod : ¬ (nI dd < 0 ∨ nI 32 ≤ nI dd) := by rw [← hd]; exact ho
      refine lv_aload_n hx hb d_Mo_source_0 rfl (lv_at hl 0 rfl) ?_
      refine va_get (D := D) (ci := 5) (v := .ref pA) (C := R_Mo) (T := F_Mo) (N := 21) hx hb hg f_Mo hown hK.1 hP 0 rfl rfl 16 (by decide) (hg _ q579) (fun _ h9 => h9) rfl d_Mo_source_1 ?_
      refine lv_iconst (v := 0) hx hb d_Mo_source_4 (by decide) ?_
      refine xa_ld hx hb hK hP 13 0 rfl rfl (kx := 0) (rfl) (by decide) (by decide) d_Mo_source_5 ?_
      have eq9 : ((tm_tw (nI q) h1) 0 : Int32) = nI q := rfl
      refine W.eq (g2 := F0 m 6 ls [.int (nI q)]) (by rw [eq9]) ?_
      refine lv_istore_n hx hb d_Mo_source_6 rfl hl (by decide) rfl (fun ls hl => ?_)
      have hl : lv_has ls 7 [(1, .int (nI q)), (0, .ref m0)] := hl
      refine lv_iload_n hx hb d_Mo_source_7 rfl (lv_at hl 0 rfl) ?_
      refine lv_iconst (v := 0) hx hb d_Mo_source_8 (by decide) ?_
      refine lv_aload_n hx hb d_Mo_source_9 rfl (lv_at hl 1 rfl) ?_
      refine va_get (D := D) (ci := 5) (v := .int (nI n)) (C := R_Mo) (T := F_Mo) (N := 21) hx hb hg f_Mo hown hK.1 hP 0 rfl rfl 1 (by decide) (hg _ q564) (fun _ h9 => h9) rfl d_Mo_source_10 ?_
      refine lv_iconst (v := 1) hx hb d_Mo_source_13 (by decide) ?_
      refine lv_isub hx hb d_Mo_source_14 ?_
      have eq9 : ((nI n) - 1 : Int32) = nI (n - 1) := pk_sub (a := n) (b := 1) (by omega)
      refine W.eq (g2 := F0 m 15 ls [.int (nI (n - 1)), .int 0, .int (nI q)]) (by rw [eq9]) ?_
      refine xr_S (As := [.int (nI q), .int 0, .int (nI (n - 1))]) (rest := []) ⟨hx, hb, hml, hown, hg⟩ (c_Mo_in l D cI cZ cJ (nI q) 0 (nI (n - 1))) m_Mo_in q636 ⟨rfl, rfl⟩ ⟨Nat.le_of_ble_eq_true rfl, Nat.le_of_ble_eq_true rfl⟩ hK hP [] rfl rfl hl.1 rfl (Nat.le_of_ble_eq_true rfl) d_Mo_source_15 ⟨Nat.zero_le _, Nat.zero_le _⟩ ?_
      refine lv_if_eq (tgt := 30) hx hb d_Mo_source_18 rfl (fun hz9 => absurd hz9 (tm_wi_y (nI_le (a := 0) (b := q) (by omega) (by omega)) (nI_le (a := q) (b := n - 1) (by omega) (by omega)))) (fun _ => ?_)
      refine lv_aload_n hx hb d_Mo_source_21 rfl (lv_at hl 1 rfl) ?_
      refine va_get (D := D) (ci := 5) (v := .ref oA) (C := R_Mo) (T := F_Mo) (N := 21) hx hb hg f_Mo hown hK.1 hP 0 rfl rfl 2 (by decide) (hg _ q565) (fun _ h9 => h9) rfl d_Mo_source_22 ?_
      refine lv_iload_n hx hb d_Mo_source_25 rfl (lv_at hl 0 rfl) ?_
      refine xa_ld hx hb hK hP 1 0 rfl rfl (kx := q) (rfl) (by omega) (by decide) d_Mo_source_26 ?_
      have eq9 : (Po q : Int32) = P (4 * q) := hPo q
      refine W.eq (g2 := F0 m 27 ls [.int (P (4 * q))]) (by rw [eq9]) ?_
      refine lv_goto (tgt := 32) hx hb d_Mo_source_27 rfl ?_
      have eq9 : (P (4 * q) : Int32) = nI v := hv
      refine W.eq (g2 := F0 m 32 ls [.int (nI v)]) (by rw [eq9]) ?_
      refine lv_istore_n hx hb d_Mo_source_32 rfl hl (by decide) rfl (fun ls hl => ?_)
      have hl : lv_has ls 7 [(2, .int (nI v)), (1, .int (nI q)), (0, .ref m0)] := hl
      refine lv_iload_n hx hb d_Mo_source_33 rfl (lv_at hl 0 rfl) ?_
      refine lv_bipush (v := 13) hx hb d_Mo_source_34 (by decide) ?_
      refine lv_icmp_le (tgt := 43) hx hb d_Mo_source_36 rfl (fun _ => ?_) (fun hz9 => absurd (nI_le (a := v) (b := 13) (by omega) (by decide)) hz9)
      refine lv_aload_n hx hb d_Mo_source_43 rfl (lv_at hl 2 rfl) ?_
      refine va_get (D := D) (ci := 5) (v := .ref rA) (C := R_Mo) (T := F_Mo) (N := 21) hx hb hg f_Mo hown hK.1 hP 0 rfl rfl 13 (by decide) (hg _ q576) (fun _ h9 => h9) rfl d_Mo_source_44 ?_
      refine lv_aload_n hx hb d_Mo_source_47 rfl (lv_at hl 2 rfl) ?_
      refine va_get (D := D) (ci := 5) (v := .ref aA) (C := R_Mo) (T := F_Mo) (N := 21) hx hb hg f_Mo hown hK.1 hP 0 rfl rfl 3 (by decide) (hg _ q566) (fun _ h9 => h9) rfl d_Mo_source_48 ?_
      refine lv_iload_n hx hb d_Mo_source_51 rfl (lv_at hl 1 rfl) ?_
      refine xa_ld hx hb hK hP 2 0 rfl rfl (kx := q) (rfl) (by omega) (by decide) d_Mo_source_52 ?_
      have eq9 : (Pa q : Int32) = P (4 * q + 1) := hPa q
      refine W.eq (g2 := F0 m 53 ls [.int (P (4 * q + 1)), .ref rA]) (by rw [eq9]) ?_
      refine xa_ld hx hb hK hP 10 0 rfl rfl (kx := a) (ha) (by omega) (by decide) d_Mo_source_53 ?_
      have eq9 : ((tm_jn 8 R0 R1) a : Int32) = R0 a := tm_jn_lo (by omega)
      refine W.eq (g2 := F0 m 54 ls [.int (R0 a)]) (by rw [eq9]) ?_
      refine lv_istore_n hx hb d_Mo_source_54 rfl hl (by decide) rfl (fun ls hl => ?_)
      have hl : lv_has ls 7 [(3, .int (R0 a)), (2, .int (nI v)), (1, .int (nI q)), (0, .ref m0)] := hl
      refine lv_iload_n hx hb d_Mo_source_55 rfl (lv_at hl 1 rfl) ?_
      refine lv_bipush (v := 13) hx hb d_Mo_source_56 (by decide) ?_
      refine lv_icmp_le (tgt := 65) hx hb d_Mo_source_58 rfl (fun _ => ?_) (fun hz9 => absurd (nI_le (a := v) (b := 13) (by omega) (by decide)) hz9)
      refine lv_aload_n hx hb d_Mo_source_65 rfl (lv_at hl 3 rfl) ?_
      refine va_get (D := D) (ci := 5) (v := .ref rA) (C := R_Mo) (T := F_Mo) (N := 21) hx hb hg f_Mo hown hK.1 hP 0 rfl rfl 13 (by decide) (hg _ q576) (fun _ h9 => h9) rfl d_Mo_source_66 ?_
      refine lv_aload_n hx hb d_Mo_source_69 rfl (lv_at hl 3 rfl) ?_
      refine va_get (D := D) (ci := 5) (v := .ref bB) (C := R_Mo) (T := F_Mo) (N := 21) hx hb hg f_Mo hown hK.1 hP 0 rfl rfl 4 (by decide) (hg _ q567) (fun _ h9 => h9) rfl d_Mo_source_70 ?_
      refine lv_iload_n hx hb d_Mo_source_73 rfl (lv_at hl 2 rfl) ?_
      refine xa_ld hx hb hK hP 3 0 rfl rfl (kx := q) (rfl) (by omega) (by decide) d_Mo_source_74 ?_
      have eq9 : (Pb q : Int32) = P (4 * q + 2) := hPb q
      refine W.eq (g2 := F0 m 75 ls [.int (P (4 * q + 2)), .ref rA]) (by rw [eq9]) ?_
      refine xa_ld hx hb hK hP 10 0 rfl rfl (kx := b) (hbb) (by omega) (by decide) d_Mo_source_75 ?_
      have eq9 : ((tm_jn 8 R0 R1) b : Int32) = R0 b := tm_jn_lo (by omega)
      refine W.eq (g2 := F0 m 76 ls [.int (R0 b)]) (by rw [eq9]) ?_
      refine lv_istore hx hb d_Mo_source_76 hl (by decide) rfl (fun ls hl => ?_)
      have hl : lv_has ls 7 [(4, .int (R0 b)), (3, .int (R0 a)), (2, .int (nI v)), (1, .int (nI q)), (0, .ref m0)] := hl
      refine lv_iload_n hx hb d_Mo_source_78 rfl (lv_at hl 2 rfl) ?_
      refine lv_bipush (v := 13) hx hb d_Mo_source_79 (by decide) ?_
      refine lv_icmp_le (tgt := 88) hx hb d_Mo_source_81 rfl (fun _ => ?_) (fun hz9 => absurd (nI_le (a := v) (b := 13) (by omega) (by decide)) hz9)
      refine lv_iload hx hb d_Mo_source_88 (lv_at hl 0 rfl) ?_
      refine lv_aload_n hx hb d_Mo_source_90 rfl (lv_at hl 4 rfl) ?_
      refine va_get (D := D) (ci := 5) (v := .ref cC) (C := R_Mo) (T := F_Mo) (N := 21) hx hb hg f_Mo hown hK.1 hP 0 rfl rfl 5 (by decide) (hg _ q568) (fun _ h9 => h9) rfl d_Mo_source_91 ?_
      refine lv_iload_n hx hb d_Mo_source_94 rfl (lv_at hl 3 rfl) ?_
      refine xa_ld hx hb hK hP 4 0 rfl rfl (kx := q) (rfl) (by omega) (by decide) d_Mo_source_95 ?_
      have eq9 : (Pc q : Int32) = P (4 * q + 3) := hPc q
      refine W.eq (g2 := F0 m 96 ls [.int (P (4 * q + 3)), .int (R0 b)]) (by rw [eq9]) ?_
      refine lv_iadd hx hb d_Mo_source_96 ?_
      refine xr_S (As := [.int ((R0 b) + (P (4 * q + 3)))]) (rest := []) ⟨hx, hb, hml, hown, hg⟩ (c_Mo_round l D cI cZ cJ ((R0 b) + (P (4 * q + 3)))) m_Mo_round q725 ⟨rfl, rfl⟩ ⟨Nat.le_of_ble_eq_true rfl, Nat.le_of_ble_eq_true rfl⟩ hK hP [] rfl rfl hl.1 rfl (Nat.le_of_ble_eq_true rfl) d_Mo_source_97 ⟨Nat.zero_le _, Nat.zero_le _⟩ ?_
      have eq9 : (tm_wr ((R0 b) + (P (4 * q + 3))) : Int32) = tm_adr P q R0 := by simp [tm_adr, hbb, hc_b]
      refine W.eq (g2 := F0 m 100 ls [.int (tm_adr P q R0)]) (by rw [eq9]) ?_
      have eq9 : (tm_adr P q R0 : Int32) = nI dd := hd
      refine W.eq (g2 := F0 m 100 ls [.int (nI dd)]) (by rw [eq9]) ?_
      refine lv_istore hx hb d_Mo_source_100 hl (by decide) rfl (fun ls hl => ?_)
      have hl : lv_has ls 7 [(5, .int (nI dd)), (4, .int (R0 b)), (3, .int (R0 a)), (2, .int (nI v)), (1, .int (nI q)), (0, .ref m0)] := hl
      refine lv_iload_n hx hb d_Mo_source_102 rfl (lv_at hl 3 rfl) ?_
      refine lv_bipush (v := 13) hx hb d_Mo_source_103 (by decide) ?_
      refine lv_icmp_gt (tgt := 131) hx hb d_Mo_source_105 rfl (fun hz9 => absurd hz9 (f13)) (fun _ => ?_)
      refine lv_iload_n hx hb d_Mo_source_108 rfl (lv_at hl 3 rfl) ?_
      refine lv_bipush (v := 7) hx hb d_Mo_source_109 (by decide) ?_
      refine lv_icmp_eq (tgt := 120) hx hb d_Mo_source_111 rfl (fun _ => ?_) (fun hz9 => absurd (ee7) hz9)
      refine lv_iload hx hb d_Mo_source_120 (lv_at hl 0 rfl) ?_
      refine lv_iconst (v := 0) hx hb d_Mo_source_122 (by decide) ?_
      refine lv_bipush (v := 31) hx hb d_Mo_source_123 (by decide) ?_
      refine xr_S (As := [.int (nI dd), .int 0, .int 31]) (rest := []) ⟨hx, hb, hml, hown, hg⟩ (c_Mo_in l D cI cZ cJ (nI dd) 0 31) m_Mo_in q636 ⟨rfl, rfl⟩ ⟨Nat.le_of_ble_eq_true rfl, Nat.le_of_ble_eq_true rfl⟩ hK hP [] rfl rfl hl.1 rfl (Nat.le_of_ble_eq_true rfl) d_Mo_source_125 ⟨Nat.zero_le _, Nat.zero_le _⟩ ?_
      refine lv_if_ne (tgt := 139) hx hb d_Mo_source_128 rfl (fun _ => ?_) (fun hz9 => absurd hz9 (tm_wi_y (nI_le (a := 0) (b := dd) (by omega) (by omega)) (nI_le (a := dd) (b := 31) (by omega) (by decide))))
      refine lv_aload_n hx hb d_Mo_source_139 rfl (lv_at hl 5 rfl) ?_
      refine va_get (D := D) (ci := 5) (v := .ref dA) (C := R_Mo) (T := F_Mo) (N := 21) hx hb hg f_Mo hown hK.1 hP 0 rfl rfl 17 (by decide) (hg _ q580) (fun _ h9 => h9) rfl d_Mo_source_140 ?_
      refine lv_iconst (v := 0) hx hb d_Mo_source_143 (by decide) ?_
      refine lv_dup2_11 hx hb d_Mo_source_144 rfl rfl ?_
      refine xa_ld hx hb hK hP 14 0 rfl rfl (kx := 0) (rfl) (by decide) (by decide) d_Mo_source_145 ?_
      have eq9 : ((tm_tw d0 d1) 0 : Int32) = d0 := rfl
      refine W.eq (g2 := F0 m 146 ls [.int d0, .int 0, .ref dA]) (by rw [eq9]) ?_
      refine lv_iconst (v := 1) hx hb d_Mo_source_146 (by decide) ?_
      refine lv_iadd hx hb d_Mo_source_147 ?_
      refine xa_st hx hb hK hP hD hS 14 0 rfl rfl (kx := 0) (rfl) (by decide) (by decide) d_Mo_source_148 (fun H locs hP hD hS => ?_)
      have hP : va_P D cls [(m0, .inr (5, [.int th, .int (nI n), .ref oA, .ref aA, .ref bB, .ref cC, .int tl, .int (nI k), .ref gA, .ref zA, .ref bA, .ref sR, .ref sD, .ref rA, .ref eC, .ref eA, .ref pA, .ref dA, .ref kA, .ref acA, .int nx])), (oA, .inl (cI, 24, .inl Po)), (aA, .inl (cI, 24, .inl Pa)), (bB, .inl (cI, 24, .inl Pb)), (cC, .inl (cI, 24, .inl Pc)), (gA, .inl (cI, 1600, .inl G)), (zA, .inl (cZ, 400, .inl O)), (bA, .inl (cI, 25, .inl B)), (sR, .inl (cI, 8, .inl sr)), (sD, .inl (cI, 32, .inl sd)), (rA, .inl (cI, 16, .inl (tm_jn 8 R0 R1))), (eC, .inl (cI, 128, .inl (tm_jn 64 C0 C1))), (eA, .inl (cI, 2, .inl (tm_tw e0 e1))), (pA, .inl (cI, 2, .inl (tm_tw (nI q) h1))), (dA, .inl (cI, 2, .inl (upd (tm_tw d0 d1) 0 (d0 + 1)))), (kA, .inl (cI, 2, .inl (tm_tw (nI k0) (nI k1)))), (acA, .inl (cI, 240, .inl (tm_jn 120 A0 A1)))] H := hP
      have hD : va_D A [(m0, .inr (5, [.int th, .int (nI n), .ref oA, .ref aA, .ref bB, .ref cC, .int tl, .int (nI k), .ref gA, .ref zA, .ref bA, .ref sR, .ref sD, .ref rA, .ref eC, .ref eA, .ref pA, .ref dA, .ref kA, .ref acA, .int nx])), (oA, .inl (cI, 24, .inl Po)), (aA, .inl (cI, 24, .inl Pa)), (bB, .inl (cI, 24, .inl Pb)), (cC, .inl (cI, 24, .inl Pc)), (gA, .inl (cI, 1600, .inl G)), (zA, .inl (cZ, 400, .inl O)), (bA, .inl (cI, 25, .inl B)), (sR, .inl (cI, 8, .inl sr)), (sD, .inl (cI, 32, .inl sd)), (rA, .inl (cI, 16, .inl (tm_jn 8 R0 R1))), (eC, .inl (cI, 128, .inl (tm_jn 64 C0 C1))), (eA, .inl (cI, 2, .inl (tm_tw e0 e1))), (pA, .inl (cI, 2, .inl (tm_tw (nI q) h1))), (dA, .inl (cI, 2, .inl (upd (tm_tw d0 d1) 0 (d0 + 1)))), (kA, .inl (cI, 2, .inl (tm_tw (nI k0) (nI k1)))), (acA, .inl (cI, 240, .inl (tm_jn 120 A0 A1)))] := hD
      rw [tm_tw_0] at hP hD
      have hP : va_P D cls [(m0, .inr (5, [.int th, .int (nI n), .ref oA, .ref aA, .ref bB, .ref cC, .int tl, .int (nI k), .ref gA, .ref zA, .ref bA, .ref sR, .ref sD, .ref rA, .ref eC, .ref eA, .ref pA, .ref dA, .ref kA, .ref acA, .int nx])), (oA, .inl (cI, 24, .inl Po)), (aA, .inl (cI, 24, .inl Pa)), (bB, .inl (cI, 24, .inl Pb)), (cC, .inl (cI, 24, .inl Pc)), (gA, .inl (cI, 1600, .inl G)), (zA, .inl (cZ, 400, .inl O)), (bA, .inl (cI, 25, .inl B)), (sR, .inl (cI, 8, .inl sr)), (sD, .inl (cI, 32, .inl sd)), (rA, .inl (cI, 16, .inl (tm_jn 8 R0 R1))), (eC, .inl (cI, 128, .inl (tm_jn 64 C0 C1))), (eA, .inl (cI, 2, .inl (tm_tw e0 e1))), (pA, .inl (cI, 2, .inl (tm_tw (nI q) h1))), (dA, .inl (cI, 2, .inl (tm_tw (d0 + 1) d1))), (kA, .inl (cI, 2, .inl (tm_tw (nI k0) (nI k1)))), (acA, .inl (cI, 240, .inl (tm_jn 120 A0 A1)))] H := hP
      have hD : va_D A [(m0, .inr (5, [.int th, .int (nI n), .ref oA, .ref aA, .ref bB, .ref cC, .int tl, .int (nI k), .ref gA, .ref zA, .ref bA, .ref sR, .ref sD, .ref rA, .ref eC, .ref eA, .ref pA, .ref dA, .ref kA, .ref acA, .int nx])), (oA, .inl (cI, 24, .inl Po)), (aA, .inl (cI, 24, .inl Pa)), (bB, .inl (cI, 24, .inl Pb)), (cC, .inl (cI, 24, .inl Pc)), (gA, .inl (cI, 1600, .inl G)), (zA, .inl (cZ, 400, .inl O)), (bA, .inl (cI, 25, .inl B)), (sR, .inl (cI, 8, .inl sr)), (sD, .inl (cI, 32, .inl sd)), (rA, .inl (cI, 16, .inl (tm_jn 8 R0 R1))), (eC, .inl (cI, 128, .inl (tm_jn 64 C0 C1))), (eA, .inl (cI, 2, .inl (tm_tw e0 e1))), (pA, .inl (cI, 2, .inl (tm_tw (nI q) h1))), (dA, .inl (cI, 2, .inl (tm_tw (d0 + 1) d1))), (kA, .inl (cI, 2, .inl (tm_tw (nI k0) (nI k1)))), (acA, .inl (cI, 240, .inl (tm_jn 120 A0 A1)))] := hD
      refine lv_iload_n hx hb d_Mo_source_149 rfl (lv_at hl 3 rfl) ?_
      refine lv_if_ne (tgt := 161) hx hb d_Mo_source_150 rfl (fun _ => ?_) (fun hz9 => absurd hz9 (ee0))
      refine lv_aload_n hx hb d_Mo_source_161 rfl (lv_at hl 5 rfl) ?_
      refine va_get (D := D) (ci := 5) (v := .int nx) (C := R_Mo) (T := F_Mo) (N := 21) hx hb hg f_Mo hown hK.1 hP 0 rfl rfl 20 (by decide) (hg _ q583) (fun _ h9 => h9) rfl d_Mo_source_162 ?_
      refine lv_iconst (v := 1) hx hb d_Mo_source_165 (by decide) ?_
      refine lv_iadd hx hb d_Mo_source_166 ?_
      refine lv_istore hx hb d_Mo_source_167 hl (by decide) rfl (fun ls hl => ?_)
      have hl : lv_has ls 7 [(6, .int (nx + 1)), (5, .int (nI dd)), (4, .int (R0 b)), (3, .int (R0 a)), (2, .int (nI v)), (1, .int (nI q)), (0, .ref m0)] := hl
      refine lv_iload_n hx hb d_Mo_source_169 rfl (lv_at hl 4 rfl) ?_
      refine lv_iconst (v := 5) hx hb d_Mo_source_170 (by decide) ?_
      refine lv_icmp_gt (tgt := 222) hx hb d_Mo_source_171 rfl (fun _ => ?_) (fun hz9 => absurd (nI_lt (a := 5) (b := v) (by omega) (by omega)) hz9)
      refine lv_iload_n hx hb d_Mo_source_222 rfl (lv_at hl 4 rfl) ?_
      refine lv_bipush (v := 6) hx hb d_Mo_source_223 (by decide) ?_
      refine lv_icmp_ne (tgt := 255) hx hb d_Mo_source_225 rfl (fun _ => ?_) (fun hz9 => absurd hz9 (ee6))
      refine lv_iload_n hx hb d_Mo_source_255 rfl (lv_at hl 4 rfl) ?_
      refine lv_bipush (v := 7) hx hb d_Mo_source_256 (by decide) ?_
      refine lv_icmp_eq (tgt := 267) hx hb d_Mo_source_258 rfl (fun _ => ?_) (fun hz9 => absurd (ee7) hz9)
      refine lv_aload_n hx hb d_Mo_source_267 rfl (lv_at hl 6 rfl) ?_
      refine lv_iconst (v := 0) hx hb d_Mo_source_268 (by decide) ?_
      refine lv_aload_n hx hb d_Mo_source_269 rfl (lv_at hl 6 rfl) ?_
      refine va_get (D := D) (ci := 5) (v := .ref aA) (C := R_Mo) (T := F_Mo) (N := 21) hx hb hg f_Mo hown hK.1 hP 0 rfl rfl 3 (by decide) (hg _ q566) (fun _ h9 => h9) rfl d_Mo_source_270 ?_
      refine lv_iload_n hx hb d_Mo_source_273 rfl (lv_at hl 5 rfl) ?_
      refine xa_ld hx hb hK hP 2 0 rfl rfl (kx := q) (rfl) (by omega) (by decide) d_Mo_source_274 ?_
      have eq9 : (Pa q : Int32) = P (4 * q + 1) := hPa q
      refine W.eq (g2 := F0 m 275 ls [.int (P (4 * q + 1)), .int 0, .ref m0]) (by rw [eq9]) ?_
      refine lv_iload hx hb d_Mo_source_275 (lv_at hl 1 rfl) ?_
      refine lv_iload_n hx hb d_Mo_source_277 rfl (lv_at hl 4 rfl) ?_
      refine lv_bipush (v := 8) hx hb d_Mo_source_278 (by decide) ?_
      refine lv_icmp_ne (tgt := 287) hx hb d_Mo_source_280 rfl (fun _ => ?_) (fun hz9 => absurd hz9 (ee8))
      refine lv_iconst (v := 0) hx hb d_Mo_source_287 (by decide) ?_
      have eq9 : (P (4 * q + 1) : Int32) = nI a := ha
      refine W.eq (g2 := F0 m 288 ls [.int 0, .int (nI dd), .int (nI a), .int 0, .ref m0]) (by rw [eq9]) ?_
      refine xw_go (w2 := [(m0, .inr (5, [.int th, .int (nI n), .ref oA, .ref aA, .ref bB, .ref cC, .int tl, .int (nI k), .ref gA, .ref zA, .ref bA, .ref sR, .ref sD, .ref rA, .ref eC, .ref eA, .ref pA, .ref dA, .ref kA, .ref acA, .int nx])), (oA, .inl (cI, 24, .inl Po)), (aA, .inl (cI, 24, .inl Pa)), (bB, .inl (cI, 24, .inl Pb)), (cC, .inl (cI, 24, .inl Pc)), (gA, .inl (cI, 1600, .inl G)), (zA, .inl (cZ, 400, .inl O)), (bA, .inl (cI, 25, .inl B)), (sR, .inl (cI, 8, .inl sr)), (sD, .inl (cI, 32, .inl sd)), (rA, .inl (cI, 16, .inl (tm_jn 8 (upd (upd R0 a (C0 dd)) 0 0) R1))), (eC, .inl (cI, 128, .inl (tm_jn 64 C0 C1))), (eA, .inl (cI, 2, .inl (tm_tw e0 e1))), (pA, .inl (cI, 2, .inl (tm_tw (nI q) h1))), (dA, .inl (cI, 2, .inl (tm_tw (d0 + 1) d1))), (kA, .inl (cI, 2, .inl (tm_tw (nI (tm_dk k0 (nI dd))) (nI k1)))), (acA, .inl (cI, 240, .inl (tm_jn 120 (tm_da A0 k0 (nI dd) 0 (C0 dd)) A1)))]) (wr := []) (w1 := [(m0, .inr (5, [.int th, .int (nI n), .ref oA, .ref aA, .ref bB, .ref cC, .int tl, .int (nI k), .ref gA, .ref zA, .ref bA, .ref sR, .ref sD, .ref rA, .ref eC, .ref eA, .ref pA, .ref dA, .ref kA, .ref acA, .int nx])), (oA, .inl (cI, 24, .inl Po)), (aA, .inl (cI, 24, .inl Pa)), (bB, .inl (cI, 24, .inl Pb)), (cC, .inl (cI, 24, .inl Pc)), (gA, .inl (cI, 1600, .inl G)), (zA, .inl (cZ, 400, .inl O)), (bA, .inl (cI, 25, .inl B)), (sR, .inl (cI, 8, .inl sr)), (sD, .inl (cI, 32, .inl sd)), (rA, .inl (cI, 16, .inl (tm_jn 8 (upd (upd R0 a (C0 dd)) 0 0) R1))), (eC, .inl (cI, 128, .inl (tm_jn 64 C0 C1))), (eA, .inl (cI, 2, .inl (tm_tw e0 e1))), (pA, .inl (cI, 2, .inl (tm_tw (nI q) h1))), (dA, .inl (cI, 2, .inl (tm_tw (d0 + 1) d1))), (kA, .inl (cI, 2, .inl (tm_tw (nI (tm_dk k0 (nI dd))) (nI k1)))), (acA, .inl (cI, 240, .inl (tm_jn 120 (tm_da A0 k0 (nI dd) 0 (C0 dd)) A1)))]) (va_runV (As := [.int 0, .int (nI a), .int (nI dd), .int 0]) (rest := []) (C := R_Mo) ⟨hx, hb, hml, hown, hg⟩ (c_Mo_move00 l D cI cZ cJ m0 oA aA bB cC gA zA bA sR sD rA eC eA pA dA kA acA Po Pa Pb Pc G O B sr sd R0 R1 C0 C1 A0 A1 n k k0 k1 th tl nx e0 e1 (nI q) h1 (d0 + 1) d1 a dd (ha8) (by omega) (by omega) H.size) ⟨xg_B hg m_Mo_move.1 m_Mo_move.2.2.1 m_Mo_move.2.2.2.1 m_Mo_move.2.2.2.2 q731 rfl rfl ⟨Nat.le_of_ble_eq_true rfl, Nat.le_of_ble_eq_true rfl⟩, hg _ m_Mo_move.2.1, hg _ sp_Mo_move⟩ ⟨xw_blind, (va_recv (q0 := 0) hK.1 hP rfl rfl), xw_pre hK hP hD [0, 1, 2, 3, 4, 5, 6, 7, 8, 9, 10, 11, 12, 13, 14, 15, 16] (by decide) rfl⟩ rfl rfl hl.1 rfl (lv_room (Nat.le_of_ble_eq_true rfl)) d_Mo_source_288 ⟨Nat.zero_le _, Nat.zero_le _⟩) hP hD hS hA [0, 1, 2, 3, 4, 5, 6, 7, 8, 9, 10, 11, 12, 13, 14, 15, 16] [] [0, 1, 2, 3, 4, 5, 6, 7, 8, 9, 10, 11, 12, 13, 14, 15, 16] rfl rfl (by decide) (by decide) rfl (by decide) (fun H locs hP hD hS => ?_)
      refine lv_goto (tgt := 350) hx hb d_Mo_source_291 rfl ?_
      refine lv_iload_n hx hb d_Mo_source_350 rfl (lv_at hl 4 rfl) ?_
      refine lv_bipush (v := 12) hx hb d_Mo_source_351 (by decide) ?_
      refine lv_icmp_ne (tgt := 369) hx hb d_Mo_source_353 rfl (fun _ => ?_) (fun hz9 => absurd hz9 (ee12))
      refine lv_aload_n hx hb d_Mo_source_369 rfl (lv_at hl 6 rfl) ?_
      refine va_get (D := D) (ci := 5) (v := .ref rA) (C := R_Mo) (T := F_Mo) (N := 21) hx hb hg f_Mo hown hK.1 hP 0 rfl rfl 13 (by decide) (hg _ q576) (fun _ h9 => h9) rfl d_Mo_source_370 ?_
      refine lv_iconst (v := 0) hx hb d_Mo_source_373 (by decide) ?_
      refine lv_iconst (v := 0) hx hb d_Mo_source_374 (by decide) ?_
      refine xa_st hx hb hK hP hD hS 10 0 rfl rfl (kx := 0) (rfl) (by decide) (by decide) d_Mo_source_375 (fun H locs hP hD hS => ?_)
      have hP : va_P D cls [(m0, .inr (5, [.int th, .int (nI n), .ref oA, .ref aA, .ref bB, .ref cC, .int tl, .int (nI k), .ref gA, .ref zA, .ref bA, .ref sR, .ref sD, .ref rA, .ref eC, .ref eA, .ref pA, .ref dA, .ref kA, .ref acA, .int nx])), (oA, .inl (cI, 24, .inl Po)), (aA, .inl (cI, 24, .inl Pa)), (bB, .inl (cI, 24, .inl Pb)), (cC, .inl (cI, 24, .inl Pc)), (gA, .inl (cI, 1600, .inl G)), (zA, .inl (cZ, 400, .inl O)), (bA, .inl (cI, 25, .inl B)), (sR, .inl (cI, 8, .inl sr)), (sD, .inl (cI, 32, .inl sd)), (rA, .inl (cI, 16, .inl (upd (tm_jn 8 (upd (upd R0 a (C0 dd)) 0 0) R1) 0 0))), (eC, .inl (cI, 128, .inl (tm_jn 64 C0 C1))), (eA, .inl (cI, 2, .inl (tm_tw e0 e1))), (pA, .inl (cI, 2, .inl (tm_tw (nI q) h1))), (dA, .inl (cI, 2, .inl (tm_tw (d0 + 1) d1))), (kA, .inl (cI, 2, .inl (tm_tw (nI (tm_dk k0 (nI dd))) (nI k1)))), (acA, .inl (cI, 240, .inl (tm_jn 120 (tm_da A0 k0 (nI dd) 0 (C0 dd)) A1)))] H := hP
      have hD : va_D A [(m0, .inr (5, [.int th, .int (nI n), .ref oA, .ref aA, .ref bB, .ref cC, .int tl, .int (nI k), .ref gA, .ref zA, .ref bA, .ref sR, .ref sD, .ref rA, .ref eC, .ref eA, .ref pA, .ref dA, .ref kA, .ref acA, .int nx])), (oA, .inl (cI, 24, .inl Po)), (aA, .inl (cI, 24, .inl Pa)), (bB, .inl (cI, 24, .inl Pb)), (cC, .inl (cI, 24, .inl Pc)), (gA, .inl (cI, 1600, .inl G)), (zA, .inl (cZ, 400, .inl O)), (bA, .inl (cI, 25, .inl B)), (sR, .inl (cI, 8, .inl sr)), (sD, .inl (cI, 32, .inl sd)), (rA, .inl (cI, 16, .inl (upd (tm_jn 8 (upd (upd R0 a (C0 dd)) 0 0) R1) 0 0))), (eC, .inl (cI, 128, .inl (tm_jn 64 C0 C1))), (eA, .inl (cI, 2, .inl (tm_tw e0 e1))), (pA, .inl (cI, 2, .inl (tm_tw (nI q) h1))), (dA, .inl (cI, 2, .inl (tm_tw (d0 + 1) d1))), (kA, .inl (cI, 2, .inl (tm_tw (nI (tm_dk k0 (nI dd))) (nI k1)))), (acA, .inl (cI, 240, .inl (tm_jn 120 (tm_da A0 k0 (nI dd) 0 (C0 dd)) A1)))] := hD
      rw [tm_jn_ul (by omega)] at hP hD
      have hP : va_P D cls [(m0, .inr (5, [.int th, .int (nI n), .ref oA, .ref aA, .ref bB, .ref cC, .int tl, .int (nI k), .ref gA, .ref zA, .ref bA, .ref sR, .ref sD, .ref rA, .ref eC, .ref eA, .ref pA, .ref dA, .ref kA, .ref acA, .int nx])), (oA, .inl (cI, 24, .inl Po)), (aA, .inl (cI, 24, .inl Pa)), (bB, .inl (cI, 24, .inl Pb)), (cC, .inl (cI, 24, .inl Pc)), (gA, .inl (cI, 1600, .inl G)), (zA, .inl (cZ, 400, .inl O)), (bA, .inl (cI, 25, .inl B)), (sR, .inl (cI, 8, .inl sr)), (sD, .inl (cI, 32, .inl sd)), (rA, .inl (cI, 16, .inl (tm_jn 8 (upd (upd (upd R0 a (C0 dd)) 0 0) 0 0) R1))), (eC, .inl (cI, 128, .inl (tm_jn 64 C0 C1))), (eA, .inl (cI, 2, .inl (tm_tw e0 e1))), (pA, .inl (cI, 2, .inl (tm_tw (nI q) h1))), (dA, .inl (cI, 2, .inl (tm_tw (d0 + 1) d1))), (kA, .inl (cI, 2, .inl (tm_tw (nI (tm_dk k0 (nI dd))) (nI k1)))), (acA, .inl (cI, 240, .inl (tm_jn 120 (tm_da A0 k0 (nI dd) 0 (C0 dd)) A1)))] H := hP
      have hD : va_D A [(m0, .inr (5, [.int th, .int (nI n), .ref oA, .ref aA, .ref bB, .ref cC, .int tl, .int (nI k), .ref gA, .ref zA, .ref bA, .ref sR, .ref sD, .ref rA, .ref eC, .ref eA, .ref pA, .ref dA, .ref kA, .ref acA, .int nx])), (oA, .inl (cI, 24, .inl Po)), (aA, .inl (cI, 24, .inl Pa)), (bB, .inl (cI, 24, .inl Pb)), (cC, .inl (cI, 24, .inl Pc)), (gA, .inl (cI, 1600, .inl G)), (zA, .inl (cZ, 400, .inl O)), (bA, .inl (cI, 25, .inl B)), (sR, .inl (cI, 8, .inl sr)), (sD, .inl (cI, 32, .inl sd)), (rA, .inl (cI, 16, .inl (tm_jn 8 (upd (upd (upd R0 a (C0 dd)) 0 0) 0 0) R1))), (eC, .inl (cI, 128, .inl (tm_jn 64 C0 C1))), (eA, .inl (cI, 2, .inl (tm_tw e0 e1))), (pA, .inl (cI, 2, .inl (tm_tw (nI q) h1))), (dA, .inl (cI, 2, .inl (tm_tw (d0 + 1) d1))), (kA, .inl (cI, 2, .inl (tm_tw (nI (tm_dk k0 (nI dd))) (nI k1)))), (acA, .inl (cI, 240, .inl (tm_jn 120 (tm_da A0 k0 (nI dd) 0 (C0 dd)) A1)))] := hD
      refine lv_aload_n hx hb d_Mo_source_376 rfl (lv_at hl 6 rfl) ?_
      refine va_get (D := D) (ci := 5) (v := .ref pA) (C := R_Mo) (T := F_Mo) (N := 21) hx hb hg f_Mo hown hK.1 hP 0 rfl rfl 16 (by decide) (hg _ q579) (fun _ h9 => h9) rfl d_Mo_source_377 ?_
      refine lv_iconst (v := 0) hx hb d_Mo_source_380 (by decide) ?_
      refine lv_aload_n hx hb d_Mo_source_381 rfl (lv_at hl 6 rfl) ?_
      refine va_get (D := D) (ci := 5) (v := .int nx) (C := R_Mo) (T := F_Mo) (N := 21) hx hb hg f_Mo hown hK.1 hP 0 rfl rfl 20 (by decide) (hg _ q583) (fun _ h9 => h9) rfl d_Mo_source_382 ?_
      refine xa_st hx hb hK hP hD hS 13 0 rfl rfl (kx := 0) (rfl) (by decide) (by decide) d_Mo_source_385 (fun H locs hP hD hS => ?_)
      have hP : va_P D cls [(m0, .inr (5, [.int th, .int (nI n), .ref oA, .ref aA, .ref bB, .ref cC, .int tl, .int (nI k), .ref gA, .ref zA, .ref bA, .ref sR, .ref sD, .ref rA, .ref eC, .ref eA, .ref pA, .ref dA, .ref kA, .ref acA, .int nx])), (oA, .inl (cI, 24, .inl Po)), (aA, .inl (cI, 24, .inl Pa)), (bB, .inl (cI, 24, .inl Pb)), (cC, .inl (cI, 24, .inl Pc)), (gA, .inl (cI, 1600, .inl G)), (zA, .inl (cZ, 400, .inl O)), (bA, .inl (cI, 25, .inl B)), (sR, .inl (cI, 8, .inl sr)), (sD, .inl (cI, 32, .inl sd)), (rA, .inl (cI, 16, .inl (tm_jn 8 (upd (upd (upd R0 a (C0 dd)) 0 0) 0 0) R1))), (eC, .inl (cI, 128, .inl (tm_jn 64 C0 C1))), (eA, .inl (cI, 2, .inl (tm_tw e0 e1))), (pA, .inl (cI, 2, .inl (upd (tm_tw (nI q) h1) 0 nx))), (dA, .inl (cI, 2, .inl (tm_tw (d0 + 1) d1))), (kA, .inl (cI, 2, .inl (tm_tw (nI (tm_dk k0 (nI dd))) (nI k1)))), (acA, .inl (cI, 240, .inl (tm_jn 120 (tm_da A0 k0 (nI dd) 0 (C0 dd)) A1)))] H := hP
      have hD : va_D A [(m0, .inr (5, [.int th, .int (nI n), .ref oA, .ref aA, .ref bB, .ref cC, .int tl, .int (nI k), .ref gA, .ref zA, .ref bA, .ref sR, .ref sD, .ref rA, .ref eC, .ref eA, .ref pA, .ref dA, .ref kA, .ref acA, .int nx])), (oA, .inl (cI, 24, .inl Po)), (aA, .inl (cI, 24, .inl Pa)), (bB, .inl (cI, 24, .inl Pb)), (cC, .inl (cI, 24, .inl Pc)), (gA, .inl (cI, 1600, .inl G)), (zA, .inl (cZ, 400, .inl O)), (bA, .inl (cI, 25, .inl B)), (sR, .inl (cI, 8, .inl sr)), (sD, .inl (cI, 32, .inl sd)), (rA, .inl (cI, 16, .inl (tm_jn 8 (upd (upd (upd R0 a (C0 dd)) 0 0) 0 0) R1))), (eC, .inl (cI, 128, .inl (tm_jn 64 C0 C1))), (eA, .inl (cI, 2, .inl (tm_tw e0 e1))), (pA, .inl (cI, 2, .inl (upd (tm_tw (nI q) h1) 0 nx))), (dA, .inl (cI, 2, .inl (tm_tw (d0 + 1) d1))), (kA, .inl (cI, 2, .inl (tm_tw (nI (tm_dk k0 (nI dd))) (nI k1)))), (acA, .inl (cI, 240, .inl (tm_jn 120 (tm_da A0 k0 (nI dd) 0 (C0 dd)) A1)))] := hD
      rw [tm_tw_0] at hP hD
      have hP : va_P D cls [(m0, .inr (5, [.int th, .int (nI n), .ref oA, .ref aA, .ref bB, .ref cC, .int tl, .int (nI k), .ref gA, .ref zA, .ref bA, .ref sR, .ref sD, .ref rA, .ref eC, .ref eA, .ref pA, .ref dA, .ref kA, .ref acA, .int nx])), (oA, .inl (cI, 24, .inl Po)), (aA, .inl (cI, 24, .inl Pa)), (bB, .inl (cI, 24, .inl Pb)), (cC, .inl (cI, 24, .inl Pc)), (gA, .inl (cI, 1600, .inl G)), (zA, .inl (cZ, 400, .inl O)), (bA, .inl (cI, 25, .inl B)), (sR, .inl (cI, 8, .inl sr)), (sD, .inl (cI, 32, .inl sd)), (rA, .inl (cI, 16, .inl (tm_jn 8 (upd (upd (upd R0 a (C0 dd)) 0 0) 0 0) R1))), (eC, .inl (cI, 128, .inl (tm_jn 64 C0 C1))), (eA, .inl (cI, 2, .inl (tm_tw e0 e1))), (pA, .inl (cI, 2, .inl (tm_tw nx h1))), (dA, .inl (cI, 2, .inl (tm_tw (d0 + 1) d1))), (kA, .inl (cI, 2, .inl (tm_tw (nI (tm_dk k0 (nI dd))) (nI k1)))), (acA, .inl (cI, 240, .inl (tm_jn 120 (tm_da A0 k0 (nI dd) 0 (C0 dd)) A1)))] H := hP
      have hD : va_D A [(m0, .inr (5, [.int th, .int (nI n), .ref oA, .ref aA, .ref bB, .ref cC, .int tl, .int (nI k), .ref gA, .ref zA, .ref bA, .ref sR, .ref sD, .ref rA, .ref eC, .ref eA, .ref pA, .ref dA, .ref kA, .ref acA, .int nx])), (oA, .inl (cI, 24, .inl Po)), (aA, .inl (cI, 24, .inl Pa)), (bB, .inl (cI, 24, .inl Pb)), (cC, .inl (cI, 24, .inl Pc)), (gA, .inl (cI, 1600, .inl G)), (zA, .inl (cZ, 400, .inl O)), (bA, .inl (cI, 25, .inl B)), (sR, .inl (cI, 8, .inl sr)), (sD, .inl (cI, 32, .inl sd)), (rA, .inl (cI, 16, .inl (tm_jn 8 (upd (upd (upd R0 a (C0 dd)) 0 0) 0 0) R1))), (eC, .inl (cI, 128, .inl (tm_jn 64 C0 C1))), (eA, .inl (cI, 2, .inl (tm_tw e0 e1))), (pA, .inl (cI, 2, .inl (tm_tw nx h1))), (dA, .inl (cI, 2, .inl (tm_tw (d0 + 1) d1))), (kA, .inl (cI, 2, .inl (tm_tw (nI (tm_dk k0 (nI dd))) (nI k1)))), (acA, .inl (cI, 240, .inl (tm_jn 120 (tm_da A0 k0 (nI dd) 0 (C0 dd)) A1)))] := hD
      refine lv_aload_n hx hb d_Mo_source_386 rfl (lv_at hl 6 rfl) ?_
      refine lv_iload hx hb d_Mo_source_387 (lv_at hl 0 rfl) ?_
      refine va_put (D := D) (ci := 5) (v := .int (nx + 1)) (ty := .int) (C := R_Mo) (T := F_Mo) (N := 21) hx hb hg f_Mo t_Mo t_Mo_ok n_Mo hown hK.1 hP hD hS 0 rfl rfl 20 (by decide) (hg _ q583) (fun _ h9 => h9) rfl (by decide +kernel) rfl rfl (Nat.le_of_ble_eq_true rfl) d_Mo_source_389 (fun H locs hP hD hS => ?_)
      have hP : va_P D cls [(m0, .inr (5, [.int th, .int (nI n), .ref oA, .ref aA, .ref bB, .ref cC, .int tl, .int (nI k), .ref gA, .ref zA, .ref bA, .ref sR, .ref sD, .ref rA, .ref eC, .ref eA, .ref pA, .ref dA, .ref kA, .ref acA, .int (nx + 1)])), (oA, .inl (cI, 24, .inl Po)), (aA, .inl (cI, 24, .inl Pa)), (bB, .inl (cI, 24, .inl Pb)), (cC, .inl (cI, 24, .inl Pc)), (gA, .inl (cI, 1600, .inl G)), (zA, .inl (cZ, 400, .inl O)), (bA, .inl (cI, 25, .inl B)), (sR, .inl (cI, 8, .inl sr)), (sD, .inl (cI, 32, .inl sd)), (rA, .inl (cI, 16, .inl (tm_jn 8 (upd (upd (upd R0 a (C0 dd)) 0 0) 0 0) R1))), (eC, .inl (cI, 128, .inl (tm_jn 64 C0 C1))), (eA, .inl (cI, 2, .inl (tm_tw e0 e1))), (pA, .inl (cI, 2, .inl (tm_tw nx h1))), (dA, .inl (cI, 2, .inl (tm_tw (d0 + 1) d1))), (kA, .inl (cI, 2, .inl (tm_tw (nI (tm_dk k0 (nI dd))) (nI k1)))), (acA, .inl (cI, 240, .inl (tm_jn 120 (tm_da A0 k0 (nI dd) 0 (C0 dd)) A1)))] H := hP
      have hD : va_D A [(m0, .inr (5, [.int th, .int (nI n), .ref oA, .ref aA, .ref bB, .ref cC, .int tl, .int (nI k), .ref gA, .ref zA, .ref bA, .ref sR, .ref sD, .ref rA, .ref eC, .ref eA, .ref pA, .ref dA, .ref kA, .ref acA, .int (nx + 1)])), (oA, .inl (cI, 24, .inl Po)), (aA, .inl (cI, 24, .inl Pa)), (bB, .inl (cI, 24, .inl Pb)), (cC, .inl (cI, 24, .inl Pc)), (gA, .inl (cI, 1600, .inl G)), (zA, .inl (cZ, 400, .inl O)), (bA, .inl (cI, 25, .inl B)), (sR, .inl (cI, 8, .inl sr)), (sD, .inl (cI, 32, .inl sd)), (rA, .inl (cI, 16, .inl (tm_jn 8 (upd (upd (upd R0 a (C0 dd)) 0 0) 0 0) R1))), (eC, .inl (cI, 128, .inl (tm_jn 64 C0 C1))), (eA, .inl (cI, 2, .inl (tm_tw e0 e1))), (pA, .inl (cI, 2, .inl (tm_tw nx h1))), (dA, .inl (cI, 2, .inl (tm_tw (d0 + 1) d1))), (kA, .inl (cI, 2, .inl (tm_tw (nI (tm_dk k0 (nI dd))) (nI k1)))), (acA, .inl (cI, 240, .inl (tm_jn 120 (tm_da A0 k0 (nI dd) 0 (C0 dd)) A1)))] := hD
      have ew1 : nx + 1 = (tm_ss P q (R0, C0, A0, k0, nI q, d0, e0, nx)).2.2.2.2.2.2.2 := by first | rfl | (simp [tm_ss, hv, f13, ee0, ee5, ee6, ee7, ee8, ee9, ee10, ee11, ee12, ee13, f7, f9, f4, f10, ho]; done) | (simp [tm_ss, hv, f13, ee0, ee5, ee6, ee7, ee8, ee9, ee10, ee11, ee12, ee13, f7, f9, f4, f10, ho, Nat.add_assoc]; done)
      have ew2_0 : (upd (upd (upd R0 a (C0 dd)) 0 0) 0 0) = ((tm_ss P q (R0, C0, A0, k0, nI q, d0, e0, nx)).1) := by rw [xn_uu, tm_set_m hR0 ha8]; simp [tm_ss, tm_mR, hv, ho, hod, ha, hd, hc_dd, f13, ee0, ee5, ee6, ee7, ee8, ee9, ee10, ee11, ee12, ee13, f7, f9, f4, f10]
      have ew2 : tm_jn 8 (upd (upd (upd R0 a (C0 dd)) 0 0) 0 0) R1 = tm_jn 8 ((tm_ss P q (R0, C0, A0, k0, nI q, d0, e0, nx)).1) R1 := congr (congrArg (tm_jn 8) ew2_0) rfl
      have ew3_0 : C0 = ((tm_ss P q (R0, C0, A0, k0, nI q, d0, e0, nx)).2.1) := by simp [tm_ss, tm_mC, hv, ho, hod, ha, hd, hc_dd, hc_a, f13, ee0, ee5, ee6, ee7, ee8, ee9, ee10, ee11, ee12, ee13, f7, f9, f4, f10]
      have ew3 : tm_jn 64 C0 C1 = tm_jn 64 ((tm_ss P q (R0, C0, A0, k0, nI q, d0, e0, nx)).2.1) C1 := congr (congrArg (tm_jn 64) ew3_0) rfl
      have ew4_0 : e0 = ((tm_ss P q (R0, C0, A0, k0, nI q, d0, e0, nx)).2.2.2.2.2.2.1) := by first | rfl | (simp [tm_ss, hv, f13, ee0, ee5, ee6, ee7, ee8, ee9, ee10, ee11, ee12, ee13, f7, f9, f4, f10, ho]; done)
      have ew4 : tm_tw e0 e1 = tm_tw ((tm_ss P q (R0, C0, A0, k0, nI q, d0, e0, nx)).2.2.2.2.2.2.1) e1 := congr (congrArg (tm_tw) ew4_0) rfl
      have ew5_0 : nx = ((tm_ss P q (R0, C0, A0, k0, nI q, d0, e0, nx)).2.2.2.2.1) := by first | rfl | (simp [tm_ss, hv, f13, ee0, ee5, ee6, ee7, ee8, ee9, ee10, ee11, ee12, ee13, f7, f9, f4, f10, ho]; done)
      have ew5 : tm_tw nx h1 = tm_tw ((tm_ss P q (R0, C0, A0, k0, nI q, d0, e0, nx)).2.2.2.2.1) h1 := congr (congrArg (tm_tw) ew5_0) rfl
      have ew6_0 : (d0 + 1) = ((tm_ss P q (R0, C0, A0, k0, nI q, d0, e0, nx)).2.2.2.2.2.1) := by first | rfl | (simp [tm_ss, hv, f13, ee0, ee5, ee6, ee7, ee8, ee9, ee10, ee11, ee12, ee13, f7, f9, f4, f10, ho]; done)
      have ew6 : tm_tw (d0 + 1) d1 = tm_tw ((tm_ss P q (R0, C0, A0, k0, nI q, d0, e0, nx)).2.2.2.2.2.1) d1 := congr (congrArg (tm_tw) ew6_0) rfl
      have ew7_0 : (nI (tm_dk k0 (nI dd))) = (nI (tm_ss P q (R0, C0, A0, k0, nI q, d0, e0, nx)).2.2.2.1) := congrArg nI (by simp [tm_ss, hv, ho, hod, hd, f13, ee0, ee5, ee6, ee7, ee8, ee9, ee10, ee11, ee12, ee13, f7, f9, f4, f10])
      have ew7 : tm_tw (nI (tm_dk k0 (nI dd))) (nI k1) = tm_tw (nI (tm_ss P q (R0, C0, A0, k0, nI q, d0, e0, nx)).2.2.2.1) (nI k1) := congr (congrArg (tm_tw) ew7_0) rfl
      have ew8_0 : (tm_da A0 k0 (nI dd) 0 (C0 dd)) = ((tm_ss P q (R0, C0, A0, k0, nI q, d0, e0, nx)).2.2.1) := by simp [tm_ss, tm_mA, hv, ho, hod, ha, hd, hc_dd, hc_a, f13, ee0, ee5, ee6, ee7, ee8, ee9, ee10, ee11, ee12, ee13, f7, f9, f4, f10]
      have ew8 : tm_jn 120 (tm_da A0 k0 (nI dd) 0 (C0 dd)) A1 = tm_jn 120 ((tm_ss P q (R0, C0, A0, k0, nI q, d0, e0, nx)).2.2.1) A1 := congr (congrArg (tm_jn 120) ew8_0) rfl
      have hP : va_P D cls [(m0, .inr (5, [.int th, .int (nI n), .ref oA, .ref aA, .ref bB, .ref cC, .int tl, .int (nI k), .ref gA, .ref zA, .ref bA, .ref sR, .ref sD, .ref rA, .ref eC, .ref eA, .ref pA, .ref dA, .ref kA, .ref acA, .int ((tm_ss P q (R0, C0, A0, k0, nI q, d0, e0, nx)).2.2.2.2.2.2.2)])), (oA, .inl (cI, 24, .inl Po)), (aA, .inl (cI, 24, .inl Pa)), (bB, .inl (cI, 24, .inl Pb)), (cC, .inl (cI, 24, .inl Pc)), (gA, .inl (cI, 1600, .inl G)), (zA, .inl (cZ, 400, .inl O)), (bA, .inl (cI, 25, .inl B)), (sR, .inl (cI, 8, .inl sr)), (sD, .inl (cI, 32, .inl sd)), (rA, .inl (cI, 16, .inl (tm_jn 8 ((tm_ss P q (R0, C0, A0, k0, nI q, d0, e0, nx)).1) R1))), (eC, .inl (cI, 128, .inl (tm_jn 64 ((tm_ss P q (R0, C0, A0, k0, nI q, d0, e0, nx)).2.1) C1))), (eA, .inl (cI, 2, .inl (tm_tw ((tm_ss P q (R0, C0, A0, k0, nI q, d0, e0, nx)).2.2.2.2.2.2.1) e1))), (pA, .inl (cI, 2, .inl (tm_tw ((tm_ss P q (R0, C0, A0, k0, nI q, d0, e0, nx)).2.2.2.2.1) h1))), (dA, .inl (cI, 2, .inl (tm_tw ((tm_ss P q (R0, C0, A0, k0, nI q, d0, e0, nx)).2.2.2.2.2.1) d1))), (kA, .inl (cI, 2, .inl (tm_tw (nI (tm_ss P q (R0, C0, A0, k0, nI q, d0, e0, nx)).2.2.2.1) (nI k1)))), (acA, .inl (cI, 240, .inl (tm_jn 120 ((tm_ss P q (R0, C0, A0, k0, nI q, d0, e0, nx)).2.2.1) A1)))] H := by rw [← ew1, ← ew2, ← ew3, ← ew4, ← ew5, ← ew6, ← ew7, ← ew8]; exact hP
      have hD : va_D A [(m0, .inr (5, [.int th, .int (nI n), .ref oA, .ref aA, .ref bB, .ref cC, .int tl, .int (nI k), .ref gA, .ref zA, .ref bA, .ref sR, .ref sD, .ref rA, .ref eC, .ref eA, .ref pA, .ref dA, .ref kA, .ref acA, .int ((tm_ss P q (R0, C0, A0, k0, nI q, d0, e0, nx)).2.2.2.2.2.2.2)])), (oA, .inl (cI, 24, .inl Po)), (aA, .inl (cI, 24, .inl Pa)), (bB, .inl (cI, 24, .inl Pb)), (cC, .inl (cI, 24, .inl Pc)), (gA, .inl (cI, 1600, .inl G)), (zA, .inl (cZ, 400, .inl O)), (bA, .inl (cI, 25, .inl B)), (sR, .inl (cI, 8, .inl sr)), (sD, .inl (cI, 32, .inl sd)), (rA, .inl (cI, 16, .inl (tm_jn 8 ((tm_ss P q (R0, C0, A0, k0, nI q, d0, e0, nx)).1) R1))), (eC, .inl (cI, 128, .inl (tm_jn 64 ((tm_ss P q (R0, C0, A0, k0, nI q, d0, e0, nx)).2.1) C1))), (eA, .inl (cI, 2, .inl (tm_tw ((tm_ss P q (R0, C0, A0, k0, nI q, d0, e0, nx)).2.2.2.2.2.2.1) e1))), (pA, .inl (cI, 2, .inl (tm_tw ((tm_ss P q (R0, C0, A0, k0, nI q, d0, e0, nx)).2.2.2.2.1) h1))), (dA, .inl (cI, 2, .inl (tm_tw ((tm_ss P q (R0, C0, A0, k0, nI q, d0, e0, nx)).2.2.2.2.2.1) d1))), (kA, .inl (cI, 2, .inl (tm_tw (nI (tm_ss P q (R0, C0, A0, k0, nI q, d0, e0, nx)).2.2.2.1) (nI k1)))), (acA, .inl (cI, 240, .inl (tm_jn 120 ((tm_ss P q (R0, C0, A0, k0, nI q, d0, e0, nx)).2.2.1) A1)))] := by rw [← ew1, ← ew2, ← ew3, ← ew4, ← ew5, ← ew6, ← ew7, ← ew8]; exact hD
      exact W.vret hx hb hr (fun t9 ht9 hW9 => ⟨⟨(), rfl, trivial, by rw [ht9]; exact hP, hD⟩, hS.F ht9⟩) hS.2.2 d_Mo_source_392
  · have f13 : ¬ 13 < nI v := nI_nlt (a := 13) (b := v) (by omega) (by decide)
    have ee0 : ¬ nI v = 0 := xn_ne (w := 0) (by omega) (by decide) (by omega)
    have ee5 : ¬ nI v = 5 := xn_ne (w := 5) (by omega) (by decide) (by omega)
    have ee6 : ¬ nI v = 6 := xn_ne (w := 6) (by omega) (by decide) (by omega)
    have ee7 : ¬ nI v = 7 := xn_ne (w := 7) (by omega) (by decide) (by omega)
    have ee8 : nI v = 8 := by rw [hcase]; rfl
    have ee9 : ¬ nI v = 9 := xn_ne (w := 9) (by omega) (by decide) (by omega)
    have ee10 : ¬ nI v = 10 := xn_ne (w := 10) (by omega) (by decide) (by omega)
    have ee11 : ¬ nI v = 11 := xn_ne (w := 11) (by omega) (by decide) (by omega)
    have ee12 : ¬ nI v = 12 := xn_ne (w := 12) (by omega) (by decide) (by omega)
    have ee13 : ¬ nI v = 13 := xn_ne (w := 13) (by omega) (by decide) (by omega)
    have f7 : ¬ nI v < 7 := nI_nlt (a := v) (b := 7) (by omega) (by omega)
    have f9 : nI v < 9 := nI_lt (a := v) (b := 9) (by omega) (by decide)
    have f4 : 4 < nI v := nI_lt (a := 4) (b := v) (by omega) (by omega)
    have f10 : ¬ 10 < nI v := nI_nlt (a := 10) (b := v) (by omega) (by decide)
    by_cases ho : tm_adr P q R0 < 0 ∨ nI 32 ≤ tm_adr P q R0
    · have hz : tm_wi (tm_adr P q R0) 0 31 = 0 := tm_wi_0 (ho.imp id (fun h => xn_31 h))
      refine lv_aload_n hx hb d_Mo_source_0 rfl (lv_at hl 0 rfl) ?_
      refine va_get (D := D) (ci := 5) (v := .ref pA) (C := R_Mo) (T := F_Mo) (N := 21) hx hb hg f_Mo hown hK.1 hP 0 rfl rfl 16 (by decide) (hg _ q579) (fun _ h9 => h9) rfl d_Mo_source_1 ?_
      refine lv_iconst (v := 0) hx hb d_Mo_source_4 (by decide) ?_
      refine xa_ld hx hb hK hP 13 0 rfl rfl (kx := 0) (rfl) (by decide) (by decide) d_Mo_source_5 ?_
      have eq9 : ((tm_tw (nI q) h1) 0 : Int32) = nI q := rfl
      refine W.eq (g2 := F0 m 6 ls [.int (nI q)]) (by rw [eq9]) ?_
      refine lv_istore_n hx hb d_Mo_source_6 rfl hl (by decide) rfl (fun ls hl => ?_)
      have hl : lv_has ls 7 [(1, .int (nI q)), (0, .ref m0)] := hl
      refine lv_iload_n hx hb d_Mo_source_7 rfl (lv_at hl 0 rfl) ?_
      refine lv_iconst (v := 0) hx hb d_Mo_source_8 (by decide) ?_
      refine lv_aload_n hx hb d_Mo_source_9 rfl (lv_at hl 1 rfl) ?_
      refine va_get (D := D) (ci := 5) (v := .int (nI n)) (C := R_Mo) (T := F_Mo) (N := 21) hx hb hg f_Mo hown hK.1 hP 0 rfl rfl 1 (by decide) (hg _ q564) (fun _ h9 => h9) rfl d_Mo_source_10 ?_
      refine lv_iconst (v := 1) hx hb d_Mo_source_13 (by decide) ?_
      refine lv_isub hx hb d_Mo_source_14 ?_
      have eq9 : ((nI n) - 1 : Int32) = nI (n - 1) := pk_sub (a := n) (b := 1) (by omega)
      refine W.eq (g2 := F0 m 15 ls [.int (nI (n - 1)), .int 0, .int (nI q)]) (by rw [eq9]) ?_
      refine xr_S (As := [.int (nI q), .int 0, .int (nI (n - 1))]) (rest := []) ⟨hx, hb, hml, hown, hg⟩ (c_Mo_in l D cI cZ cJ (nI q) 0 (nI (n - 1))) m_Mo_in q636 ⟨rfl, rfl⟩ ⟨Nat.le_of_ble_eq_true rfl, Nat.le_of_ble_eq_true rfl⟩ hK hP [] rfl rfl hl.1 rfl (Nat.le_of_ble_eq_true rfl) d_Mo_source_15 ⟨Nat.zero_le _, Nat.zero_le _⟩ ?_
      refine lv_if_eq (tgt := 30) hx hb d_Mo_source_18 rfl (fun hz9 => absurd hz9 (tm_wi_y (nI_le (a := 0) (b := q) (by omega) (by omega)) (nI_le (a := q) (b := n - 1) (by omega) (by omega)))) (fun _ => ?_)
      refine lv_aload_n hx hb d_Mo_source_21 rfl (lv_at hl 1 rfl) ?_
      refine va_get (D := D) (ci := 5) (v := .ref oA) (C := R_Mo) (T := F_Mo) (N := 21) hx hb hg f_Mo hown hK.1 hP 0 rfl rfl 2 (by decide) (hg _ q565) (fun _ h9 => h9) rfl d_Mo_source_22 ?_
      refine lv_iload_n hx hb d_Mo_source_25 rfl (lv_at hl 0 rfl) ?_
      refine xa_ld hx hb hK hP 1 0 rfl rfl (kx := q) (rfl) (by omega) (by decide) d_Mo_source_26 ?_
      have eq9 : (Po q : Int32) = P (4 * q) := hPo q
      refine W.eq (g2 := F0 m 27 ls [.int (P (4 * q))]) (by rw [eq9]) ?_
      refine lv_goto (tgt := 32) hx hb d_Mo_source_27 rfl ?_
      have eq9 : (P (4 * q) : Int32) = nI v := hv
      refine W.eq (g2 := F0 m 32 ls [.int (nI v)]) (by rw [eq9]) ?_
      refine lv_istore_n hx hb d_Mo_source_32 rfl hl (by decide) rfl (fun ls hl => ?_)
      have hl : lv_has ls 7 [(2, .int (nI v)), (1, .int (nI q)), (0, .ref m0)] := hl
      refine lv_iload_n hx hb d_Mo_source_33 rfl (lv_at hl 0 rfl) ?_
      refine lv_bipush (v := 13) hx hb d_Mo_source_34 (by decide) ?_
      refine lv_icmp_le (tgt := 43) hx hb d_Mo_source_36 rfl (fun _ => ?_) (fun hz9 => absurd (nI_le (a := v) (b := 13) (by omega) (by decide)) hz9)
      refine lv_aload_n hx hb d_Mo_source_43 rfl (lv_at hl 2 rfl) ?_
      refine va_get (D := D) (ci := 5) (v := .ref rA) (C := R_Mo) (T := F_Mo) (N := 21) hx hb hg f_Mo hown hK.1 hP 0 rfl rfl 13 (by decide) (hg _ q576) (fun _ h9 => h9) rfl d_Mo_source_44 ?_
      refine lv_aload_n hx hb d_Mo_source_47 rfl (lv_at hl 2 rfl) ?_
      refine va_get (D := D) (ci := 5) (v := .ref aA) (C := R_Mo) (T := F_Mo) (N := 21) hx hb hg f_Mo hown hK.1 hP 0 rfl rfl 3 (by decide) (hg _ q566) (fun _ h9 => h9) rfl d_Mo_source_48 ?_
      refine lv_iload_n hx hb d_Mo_source_51 rfl (lv_at hl 1 rfl) ?_
      refine xa_ld hx hb hK hP 2 0 rfl rfl (kx := q) (rfl) (by omega) (by decide) d_Mo_source_52 ?_
      have eq9 : (Pa q : Int32) = P (4 * q + 1) := hPa q
      refine W.eq (g2 := F0 m 53 ls [.int (P (4 * q + 1)), .ref rA]) (by rw [eq9]) ?_
      refine xa_ld hx hb hK hP 10 0 rfl rfl (kx := a) (ha) (by omega) (by decide) d_Mo_source_53 ?_
      have eq9 : ((tm_jn 8 R0 R1) a : Int32) = R0 a := tm_jn_lo (by omega)
      refine W.eq (g2 := F0 m 54 ls [.int (R0 a)]) (by rw [eq9]) ?_
      refine lv_istore_n hx hb d_Mo_source_54 rfl hl (by decide) rfl (fun ls hl => ?_)
      have hl : lv_has ls 7 [(3, .int (R0 a)), (2, .int (nI v)), (1, .int (nI q)), (0, .ref m0)] := hl
      refine lv_iload_n hx hb d_Mo_source_55 rfl (lv_at hl 1 rfl) ?_
      refine lv_bipush (v := 13) hx hb d_Mo_source_56 (by decide) ?_
      refine lv_icmp_le (tgt := 65) hx hb d_Mo_source_58 rfl (fun _ => ?_) (fun hz9 => absurd (nI_le (a := v) (b := 13) (by omega) (by decide)) hz9)
      refine lv_aload_n hx hb d_Mo_source_65 rfl (lv_at hl 3 rfl) ?_
      refine va_get (D := D) (ci := 5) (v := .ref rA) (C := R_Mo) (T := F_Mo) (N := 21) hx hb hg f_Mo hown hK.1 hP 0 rfl rfl 13 (by decide) (hg _ q576) (fun _ h9 => h9) rfl d_Mo_source_66 ?_
      refine lv_aload_n hx hb d_Mo_source_69 rfl (lv_at hl 3 rfl) ?_
      refine va_get (D := D) (ci := 5) (v := .ref bB) (C := R_Mo) (T := F_Mo) (N := 21) hx hb hg f_Mo hown hK.1 hP 0 rfl rfl 4 (by decide) (hg _ q567) (fun _ h9 => h9) rfl d_Mo_source_70 ?_
      refine lv_iload_n hx hb d_Mo_source_73 rfl (lv_at hl 2 rfl) ?_
      refine xa_ld hx hb hK hP 3 0 rfl rfl (kx := q) (rfl) (by omega) (by decide) d_Mo_source_74 ?_
      have eq9 : (Pb q : Int32) = P (4 * q + 2) := hPb q
      refine W.eq (g2 := F0 m 75 ls [.int (P (4 * q + 2)), .ref rA]) (by rw [eq9]) ?_
      refine xa_ld hx hb hK hP 10 0 rfl rfl (kx := b) (hbb) (by omega) (by decide) d_Mo_source_75 ?_
      have eq9 : ((tm_jn 8 R0 R1) b : Int32) = R0 b := tm_jn_lo (by omega)
      refine W.eq (g2 := F0 m 76 ls [.int (R0 b)]) (by rw [eq9]) ?_
      refine lv_istore hx hb d_Mo_source_76 hl (by decide) rfl (fun ls hl => ?_)
      have hl : lv_has ls 7 [(4, .int (R0 b)), (3, .int (R0 a)), (2, .int (nI v)), (1, .int (nI q)), (0, .ref m0)] := hl
      refine lv_iload_n hx hb d_Mo_source_78 rfl (lv_at hl 2 rfl) ?_
      refine lv_bipush (v := 13) hx hb d_Mo_source_79 (by decide) ?_
      refine lv_icmp_le (tgt := 88) hx hb d_Mo_source_81 rfl (fun _ => ?_) (fun hz9 => absurd (nI_le (a := v) (b := 13) (by omega) (by decide)) hz9)
      refine lv_iload hx hb d_Mo_source_88 (lv_at hl 0 rfl) ?_
      refine lv_aload_n hx hb d_Mo_source_90 rfl (lv_at hl 4 rfl) ?_
      refine va_get (D := D) (ci := 5) (v := .ref cC) (C := R_Mo) (T := F_Mo) (N := 21) hx hb hg f_Mo hown hK.1 hP 0 rfl rfl 5 (by decide) (hg _ q568) (fun _ h9 => h9) rfl d_Mo_source_91 ?_
      refine lv_iload_n hx hb d_Mo_source_94 rfl (lv_at hl 3 rfl) ?_
      refine xa_ld hx hb hK hP 4 0 rfl rfl (kx := q) (rfl) (by omega) (by decide) d_Mo_source_95 ?_
      have eq9 : (Pc q : Int32) = P (4 * q + 3) := hPc q
      refine W.eq (g2 := F0 m 96 ls [.int (P (4 * q + 3)), .int (R0 b)]) (by rw [eq9]) ?_
      refine lv_iadd hx hb d_Mo_source_96 ?_
      refine xr_S (As := [.int ((R0 b) + (P (4 * q + 3)))]) (rest := []) ⟨hx, hb, hml, hown, hg⟩ (c_Mo_round l D cI cZ cJ ((R0 b) + (P (4 * q + 3)))) m_Mo_round q725 ⟨rfl, rfl⟩ ⟨Nat.le_of_ble_eq_true rfl, Nat.le_of_ble_eq_true rfl⟩ hK hP [] rfl rfl hl.1 rfl (Nat.le_of_ble_eq_true rfl) d_Mo_source_97 ⟨Nat.zero_le _, Nat.zero_le _⟩ ?_
      have eq9 : (tm_wr ((R0 b) + (P (4 * q + 3))) : Int32) = tm_adr P q R0 := by simp [tm_adr, hbb, hc_b]
      refine W.eq (g2 := F0 m 100 ls [.int (tm_adr P q R0)]) (by rw [eq9]) ?_
      refine lv_istore hx hb d_Mo_source_100 hl (by decide) rfl (fun ls hl => ?_)
      have hl : lv_has ls 7 [(5, .int (tm_adr P q R0)), (4, .int (R0 b)), (3, .int (R0 a)), (2, .int (nI v)), (1, .int (nI q)), (0, .ref m0)] := hl
      refine lv_iload_n hx hb d_Mo_source_102 rfl (lv_at hl 3 rfl) ?_
      refine lv_bipush (v := 13) hx hb d_Mo_source_103 (by decide) ?_
      refine lv_icmp_gt (tgt := 131) hx hb d_Mo_source_105 rfl (fun hz9 => absurd hz9 (f13)) (fun _ => ?_)
      refine lv_iload_n hx hb d_Mo_source_108 rfl (lv_at hl 3 rfl) ?_
      refine lv_bipush (v := 7) hx hb d_Mo_source_109 (by decide) ?_
      refine lv_icmp_eq (tgt := 120) hx hb d_Mo_source_111 rfl (fun hz9 => absurd hz9 (ee7)) (fun _ => ?_)
      refine lv_iload_n hx hb d_Mo_source_114 rfl (lv_at hl 3 rfl) ?_
      refine lv_bipush (v := 8) hx hb d_Mo_source_115 (by decide) ?_
      refine lv_icmp_ne (tgt := 139) hx hb d_Mo_source_117 rfl (fun hz9 => absurd (ee8) hz9) (fun _ => ?_)
      refine lv_iload hx hb d_Mo_source_120 (lv_at hl 0 rfl) ?_
      refine lv_iconst (v := 0) hx hb d_Mo_source_122 (by decide) ?_
      refine lv_bipush (v := 31) hx hb d_Mo_source_123 (by decide) ?_
      refine xr_S (As := [.int (tm_adr P q R0), .int 0, .int 31]) (rest := []) ⟨hx, hb, hml, hown, hg⟩ (c_Mo_in l D cI cZ cJ (tm_adr P q R0) 0 31) m_Mo_in q636 ⟨rfl, rfl⟩ ⟨Nat.le_of_ble_eq_true rfl, Nat.le_of_ble_eq_true rfl⟩ hK hP [] rfl rfl hl.1 rfl (Nat.le_of_ble_eq_true rfl) d_Mo_source_125 ⟨Nat.zero_le _, Nat.zero_le _⟩ ?_
      refine lv_if_ne (tgt := 139) hx hb d_Mo_source_128 rfl (fun hz9 => absurd (hz) hz9) (fun _ => ?_)
      refine lv_aload_n hx hb d_Mo_source_131 rfl (lv_at hl 5 rfl) ?_
      refine va_get (D := D) (ci := 5) (v := .ref eA) (C := R_Mo) (T := F_Mo) (N := 21) hx hb hg f_Mo hown hK.1 hP 0 rfl rfl 15 (by decide) (hg _ q578) (fun _ h9 => h9) rfl d_Mo_source_132 ?_
      refine lv_iconst (v := 0) hx hb d_Mo_source_135 (by decide) ?_
      refine lv_iconst (v := 2) hx hb d_Mo_source_136 (by decide) ?_
      refine xa_st hx hb hK hP hD hS 12 0 rfl rfl (kx := 0) (rfl) (by decide) (by decide) d_Mo_source_137 (fun H locs hP hD hS => ?_)
      have hP : va_P D cls [(m0, .inr (5, [.int th, .int (nI n), .ref oA, .ref aA, .ref bB, .ref cC, .int tl, .int (nI k), .ref gA, .ref zA, .ref bA, .ref sR, .ref sD, .ref rA, .ref eC, .ref eA, .ref pA, .ref dA, .ref kA, .ref acA, .int nx])), (oA, .inl (cI, 24, .inl Po)), (aA, .inl (cI, 24, .inl Pa)), (bB, .inl (cI, 24, .inl Pb)), (cC, .inl (cI, 24, .inl Pc)), (gA, .inl (cI, 1600, .inl G)), (zA, .inl (cZ, 400, .inl O)), (bA, .inl (cI, 25, .inl B)), (sR, .inl (cI, 8, .inl sr)), (sD, .inl (cI, 32, .inl sd)), (rA, .inl (cI, 16, .inl (tm_jn 8 R0 R1))), (eC, .inl (cI, 128, .inl (tm_jn 64 C0 C1))), (eA, .inl (cI, 2, .inl (upd (tm_tw e0 e1) 0 2))), (pA, .inl (cI, 2, .inl (tm_tw (nI q) h1))), (dA, .inl (cI, 2, .inl (tm_tw d0 d1))), (kA, .inl (cI, 2, .inl (tm_tw (nI k0) (nI k1)))), (acA, .inl (cI, 240, .inl (tm_jn 120 A0 A1)))] H := hP
      have hD : va_D A [(m0, .inr (5, [.int th, .int (nI n), .ref oA, .ref aA, .ref bB, .ref cC, .int tl, .int (nI k), .ref gA, .ref zA, .ref bA, .ref sR, .ref sD, .ref rA, .ref eC, .ref eA, .ref pA, .ref dA, .ref kA, .ref acA, .int nx])), (oA, .inl (cI, 24, .inl Po)), (aA, .inl (cI, 24, .inl Pa)), (bB, .inl (cI, 24, .inl Pb)), (cC, .inl (cI, 24, .inl Pc)), (gA, .inl (cI, 1600, .inl G)), (zA, .inl (cZ, 400, .inl O)), (bA, .inl (cI, 25, .inl B)), (sR, .inl (cI, 8, .inl sr)), (sD, .inl (cI, 32, .inl sd)), (rA, .inl (cI, 16, .inl (tm_jn 8 R0 R1))), (eC, .inl (cI, 128, .inl (tm_jn 64 C0 C1))), (eA, .inl (cI, 2, .inl (upd (tm_tw e0 e1) 0 2))), (pA, .inl (cI, 2, .inl (tm_tw (nI q) h1))), (dA, .inl (cI, 2, .inl (tm_tw d0 d1))), (kA, .inl (cI, 2, .inl (tm_tw (nI k0) (nI k1)))), (acA, .inl (cI, 240, .inl (tm_jn 120 A0 A1)))] := hD
      rw [tm_tw_0] at hP hD
      have hP : va_P D cls [(m0, .inr (5, [.int th, .int (nI n), .ref oA, .ref aA, .ref bB, .ref cC, .int tl, .int (nI k), .ref gA, .ref zA, .ref bA, .ref sR, .ref sD, .ref rA, .ref eC, .ref eA, .ref pA, .ref dA, .ref kA, .ref acA, .int nx])), (oA, .inl (cI, 24, .inl Po)), (aA, .inl (cI, 24, .inl Pa)), (bB, .inl (cI, 24, .inl Pb)), (cC, .inl (cI, 24, .inl Pc)), (gA, .inl (cI, 1600, .inl G)), (zA, .inl (cZ, 400, .inl O)), (bA, .inl (cI, 25, .inl B)), (sR, .inl (cI, 8, .inl sr)), (sD, .inl (cI, 32, .inl sd)), (rA, .inl (cI, 16, .inl (tm_jn 8 R0 R1))), (eC, .inl (cI, 128, .inl (tm_jn 64 C0 C1))), (eA, .inl (cI, 2, .inl (tm_tw 2 e1))), (pA, .inl (cI, 2, .inl (tm_tw (nI q) h1))), (dA, .inl (cI, 2, .inl (tm_tw d0 d1))), (kA, .inl (cI, 2, .inl (tm_tw (nI k0) (nI k1)))), (acA, .inl (cI, 240, .inl (tm_jn 120 A0 A1)))] H := hP
      have hD : va_D A [(m0, .inr (5, [.int th, .int (nI n), .ref oA, .ref aA, .ref bB, .ref cC, .int tl, .int (nI k), .ref gA, .ref zA, .ref bA, .ref sR, .ref sD, .ref rA, .ref eC, .ref eA, .ref pA, .ref dA, .ref kA, .ref acA, .int nx])), (oA, .inl (cI, 24, .inl Po)), (aA, .inl (cI, 24, .inl Pa)), (bB, .inl (cI, 24, .inl Pb)), (cC, .inl (cI, 24, .inl Pc)), (gA, .inl (cI, 1600, .inl G)), (zA, .inl (cZ, 400, .inl O)), (bA, .inl (cI, 25, .inl B)), (sR, .inl (cI, 8, .inl sr)), (sD, .inl (cI, 32, .inl sd)), (rA, .inl (cI, 16, .inl (tm_jn 8 R0 R1))), (eC, .inl (cI, 128, .inl (tm_jn 64 C0 C1))), (eA, .inl (cI, 2, .inl (tm_tw 2 e1))), (pA, .inl (cI, 2, .inl (tm_tw (nI q) h1))), (dA, .inl (cI, 2, .inl (tm_tw d0 d1))), (kA, .inl (cI, 2, .inl (tm_tw (nI k0) (nI k1)))), (acA, .inl (cI, 240, .inl (tm_jn 120 A0 A1)))] := hD
      have ew1 : nx = (tm_ss P q (R0, C0, A0, k0, nI q, d0, e0, nx)).2.2.2.2.2.2.2 := by first | rfl | (simp [tm_ss, hv, f13, ee0, ee5, ee6, ee7, ee8, ee9, ee10, ee11, ee12, ee13, f7, f9, f4, f10, ho]; done) | (simp [tm_ss, hv, f13, ee0, ee5, ee6, ee7, ee8, ee9, ee10, ee11, ee12, ee13, f7, f9, f4, f10, ho, Nat.add_assoc]; done)
      have ew2_0 : R0 = ((tm_ss P q (R0, C0, A0, k0, nI q, d0, e0, nx)).1) := by first | rfl | (simp [tm_ss, hv, f13, ee0, ee5, ee6, ee7, ee8, ee9, ee10, ee11, ee12, ee13, f7, f9, f4, f10, ho]; done)
      have ew2 : tm_jn 8 R0 R1 = tm_jn 8 ((tm_ss P q (R0, C0, A0, k0, nI q, d0, e0, nx)).1) R1 := congr (congrArg (tm_jn 8) ew2_0) rfl
      have ew3_0 : C0 = ((tm_ss P q (R0, C0, A0, k0, nI q, d0, e0, nx)).2.1) := by first | rfl | (simp [tm_ss, hv, f13, ee0, ee5, ee6, ee7, ee8, ee9, ee10, ee11, ee12, ee13, f7, f9, f4, f10, ho]; done)
      have ew3 : tm_jn 64 C0 C1 = tm_jn 64 ((tm_ss P q (R0, C0, A0, k0, nI q, d0, e0, nx)).2.1) C1 := congr (congrArg (tm_jn 64) ew3_0) rfl
      have ew4_0 : 2 = ((tm_ss P q (R0, C0, A0, k0, nI q, d0, e0, nx)).2.2.2.2.2.2.1) := by first | rfl | (simp [tm_ss, hv, f13, ee0, ee5, ee6, ee7, ee8, ee9, ee10, ee11, ee12, ee13, f7, f9, f4, f10, ho]; done)
      have ew4 : tm_tw 2 e1 = tm_tw ((tm_ss P q (R0, C0, A0, k0, nI q, d0, e0, nx)).2.2.2.2.2.2.1) e1 := congr (congrArg (tm_tw) ew4_0) rfl
      have ew5_0 : (nI q) = ((tm_ss P q (R0, C0, A0, k0, nI q, d0, e0, nx)).2.2.2.2.1) := by first | rfl | (simp [tm_ss, hv, f13, ee0, ee5, ee6, ee7, ee8, ee9, ee10, ee11, ee12, ee13, f7, f9, f4, f10, ho]; done)
      have ew5 : tm_tw (nI q) h1 = tm_tw ((tm_ss P q (R0, C0, A0, k0, nI q, d0, e0, nx)).2.2.2.2.1) h1 := congr (congrArg (tm_tw) ew5_0) rfl
      have ew6_0 : d0 = ((tm_ss P q (R0, C0, A0, k0, nI q, d0, e0, nx)).2.2.2.2.2.1) := by first | rfl | (simp [tm_ss, hv, f13, ee0, ee5, ee6, ee7, ee8, ee9, ee10, ee11, ee12, ee13, f7, f9, f4, f10, ho]; done)
      have ew6 : tm_tw d0 d1 = tm_tw ((tm_ss P q (R0, C0, A0, k0, nI q, d0, e0, nx)).2.2.2.2.2.1) d1 := congr (congrArg (tm_tw) ew6_0) rfl
      have ew7_0 : (nI k0) = (nI (tm_ss P q (R0, C0, A0, k0, nI q, d0, e0, nx)).2.2.2.1) := congrArg nI (by first | (simp [tm_ss, hv, f13, ee0, ee5, ee6, ee7, ee8, ee9, ee10, ee11, ee12, ee13, f7, f9, f4, f10, ho]; done) | (simp [tm_ss, hv, f13, ee0, ee5, ee6, ee7, ee8, ee9, ee10, ee11, ee12, ee13, f7, f9, f4, f10, ho]; omega) | omega)
      have ew7 : tm_tw (nI k0) (nI k1) = tm_tw (nI (tm_ss P q (R0, C0, A0, k0, nI q, d0, e0, nx)).2.2.2.1) (nI k1) := congr (congrArg (tm_tw) ew7_0) rfl
      have ew8_0 : A0 = ((tm_ss P q (R0, C0, A0, k0, nI q, d0, e0, nx)).2.2.1) := by first | rfl | (simp [tm_ss, hv, f13, ee0, ee5, ee6, ee7, ee8, ee9, ee10, ee11, ee12, ee13, f7, f9, f4, f10, ho]; done)
      have ew8 : tm_jn 120 A0 A1 = tm_jn 120 ((tm_ss P q (R0, C0, A0, k0, nI q, d0, e0, nx)).2.2.1) A1 := congr (congrArg (tm_jn 120) ew8_0) rfl
      have hP : va_P D cls [(m0, .inr (5, [.int th, .int (nI n), .ref oA, .ref aA, .ref bB, .ref cC, .int tl, .int (nI k), .ref gA, .ref zA, .ref bA, .ref sR, .ref sD, .ref rA, .ref eC, .ref eA, .ref pA, .ref dA, .ref kA, .ref acA, .int ((tm_ss P q (R0, C0, A0, k0, nI q, d0, e0, nx)).2.2.2.2.2.2.2)])), (oA, .inl (cI, 24, .inl Po)), (aA, .inl (cI, 24, .inl Pa)), (bB, .inl (cI, 24, .inl Pb)), (cC, .inl (cI, 24, .inl Pc)), (gA, .inl (cI, 1600, .inl G)), (zA, .inl (cZ, 400, .inl O)), (bA, .inl (cI, 25, .inl B)), (sR, .inl (cI, 8, .inl sr)), (sD, .inl (cI, 32, .inl sd)), (rA, .inl (cI, 16, .inl (tm_jn 8 ((tm_ss P q (R0, C0, A0, k0, nI q, d0, e0, nx)).1) R1))), (eC, .inl (cI, 128, .inl (tm_jn 64 ((tm_ss P q (R0, C0, A0, k0, nI q, d0, e0, nx)).2.1) C1))), (eA, .inl (cI, 2, .inl (tm_tw ((tm_ss P q (R0, C0, A0, k0, nI q, d0, e0, nx)).2.2.2.2.2.2.1) e1))), (pA, .inl (cI, 2, .inl (tm_tw ((tm_ss P q (R0, C0, A0, k0, nI q, d0, e0, nx)).2.2.2.2.1) h1))), (dA, .inl (cI, 2, .inl (tm_tw ((tm_ss P q (R0, C0, A0, k0, nI q, d0, e0, nx)).2.2.2.2.2.1) d1))), (kA, .inl (cI, 2, .inl (tm_tw (nI (tm_ss P q (R0, C0, A0, k0, nI q, d0, e0, nx)).2.2.2.1) (nI k1)))), (acA, .inl (cI, 240, .inl (tm_jn 120 ((tm_ss P q (R0, C0, A0, k0, nI q, d0, e0, nx)).2.2.1) A1)))] H := by rw [← ew1, ← ew2, ← ew3, ← ew4, ← ew5, ← ew6, ← ew7, ← ew8]; exact hP
      have hD : va_D A [(m0, .inr (5, [.int th, .int (nI n), .ref oA, .ref aA, .ref bB, .ref cC, .int tl, .int (nI k), .ref gA, .ref zA, .ref bA, .ref sR, .ref sD, .ref rA, .ref eC, .ref eA, .ref pA, .ref dA, .ref kA, .ref acA, .int ((tm_ss P q (R0, C0, A0, k0, nI q, d0, e0, nx)).2.2.2.2.2.2.2)])), (oA, .inl (cI, 24, .inl Po)), (aA, .inl (cI, 24, .inl Pa)), (bB, .inl (cI, 24, .inl Pb)), (cC, .inl (cI, 24, .inl Pc)), (gA, .inl (cI, 1600, .inl G)), (zA, .inl (cZ, 400, .inl O)), (bA, .inl (cI, 25, .inl B)), (sR, .inl (cI, 8, .inl sr)), (sD, .inl (cI, 32, .inl sd)), (rA, .inl (cI, 16, .inl (tm_jn 8 ((tm_ss P q (R0, C0, A0, k0, nI q, d0, e0, nx)).1) R1))), (eC, .inl (cI, 128, .inl (tm_jn 64 ((tm_ss P q (R0, C0, A0, k0, nI q, d0, e0, nx)).2.1) C1))), (eA, .inl (cI, 2, .inl (tm_tw ((tm_ss P q (R0, C0, A0, k0, nI q, d0, e0, nx)).2.2.2.2.2.2.1) e1))), (pA, .inl (cI, 2, .inl (tm_tw ((tm_ss P q (R0, C0, A0, k0, nI q, d0, e0, nx)).2.2.2.2.1) h1))), (dA, .inl (cI, 2, .inl (tm_tw ((tm_ss P q (R0, C0, A0, k0, nI q, d0, e0, nx)).2.2.2.2.2.1) d1))), (kA, .inl (cI, 2, .inl (tm_tw (nI (tm_ss P q (R0, C0, A0, k0, nI q, d0, e0, nx)).2.2.2.1) (nI k1)))), (acA, .inl (cI, 240, .inl (tm_jn 120 ((tm_ss P q (R0, C0, A0, k0, nI q, d0, e0, nx)).2.2.1) A1)))] := by rw [← ew1, ← ew2, ← ew3, ← ew4, ← ew5, ← ew6, ← ew7, ← ew8]; exact hD
      exact W.vret hx hb hr (fun t9 ht9 hW9 => ⟨⟨(), rfl, trivial, by rw [ht9]; exact hP, hD⟩, hS.F ht9⟩) hS.2.2 d_Mo_source_138
    · obtain ⟨dd, hdM, hd⟩ : ∃ dd : Nat, dd < 32 ∧ tm_adr P q R0 = nI dd := ((pk_ix (tm_adr P q R0) (n := 32) (by decide)).resolve_left (fun z => ho (Or.inl z))).resolve_left (fun z => ho (Or.inr z))
      have hc_dd : (nI dd).toNatClampNeg = dd := nI_clamp (by omega)
      have hod : ¬ (nI dd < 0 ∨ nI 32 ≤ nI dd) := by rw [← hd]; exact ho
      refine lv_aload_n hx hb d_Mo_source_0 rfl (lv_at hl 0 rfl) ?_
      refine va_get (D := D) (ci := 5) (v := .ref pA) (C := R_Mo) (T := F_Mo) (N := 21) hx hb hg f_Mo hown hK.1 hP 0 rfl rfl 16 (by decide) (hg _ q579) (fun _ h9 => h9) rfl d_Mo_source_1 ?_
      refine lv_iconst (v := 0) hx hb d_Mo_source_4 (by decide) ?_
      refine xa_ld hx hb hK hP 13 0 rfl rfl (kx := 0) (rfl) (by decide) (by decide) d_Mo_source_5 ?_
      have eq9 : ((tm_tw (nI q) h1) 0 : Int32) = nI q := rfl
      refine W.eq (g2 := F0 m 6 ls [.int (nI q)]) (by rw [eq9]) ?_
      refine lv_istore_n hx hb d_Mo_source_6 rfl hl (by decide) rfl (fun ls hl => ?_)
      have hl : lv_has ls 7 [(1, .int (nI q)), (0, .ref m0)] := hl
      refine lv_iload_n hx hb d_Mo_source_7 rfl (lv_at hl 0 rfl) ?_
      refine lv_iconst (v := 0) hx hb d_Mo_source_8 (by decide) ?_
      refine lv_aload_n hx hb d_Mo_source_9 rfl (lv_at hl 1 rfl) ?_
      refine va_get (D := D) (ci := 5) (v := .int (nI n)) (C := R_Mo) (T := F_Mo) (N := 21) hx hb hg f_Mo hown hK.1 hP 0 rfl rfl 1 (by decide) (hg _ q564) (fun _ h9 => h9) rfl d_Mo_source_10 ?_
      refine lv_iconst (v := 1) hx hb d_Mo_source_13 (by decide) ?_
      refine lv_isub hx hb d_Mo_source_14 ?_
      have eq9 : ((nI n) - 1 : Int32) = nI (n - 1) := pk_sub (a := n) (b := 1) (by omega)
      refine W.eq (g2 := F0 m 15 ls [.int (nI (n - 1)), .int 0, .int (nI q)]) (by rw [eq9]) ?_
      refine xr_S (As := [.int (nI q), .int 0, .int (nI (n - 1))]) (rest := []) ⟨hx, hb, hml, hown, hg⟩ (c_Mo_in l D cI cZ cJ (nI q) 0 (nI (n - 1))) m_Mo_in q636 ⟨rfl, rfl⟩ ⟨Nat.le_of_ble_eq_true rfl, Nat.le_of_ble_eq_true rfl⟩ hK hP [] rfl rfl hl.1 rfl (Nat.le_of_ble_eq_true rfl) d_Mo_source_15 ⟨Nat.zero_le _, Nat.zero_le _⟩ ?_
      refine lv_if_eq (tgt := 30) hx hb d_Mo_source_18 rfl (fun hz9 => absurd hz9 (tm_wi_y (nI_le (a := 0) (b := q) (by omega) (by omega)) (nI_le (a := q) (b := n - 1) (by omega) (by omega)))) (fun _ => ?_)
      refine lv_aload_n hx hb d_Mo_source_21 rfl (lv_at hl 1 rfl) ?_
      refine va_get (D := D) (ci := 5) (v := .ref oA) (C := R_Mo) (T := F_Mo) (N := 21) hx hb hg f_Mo hown hK.1 hP 0 rfl rfl 2 (by decide) (hg _ q565) (fun _ h9 => h9) rfl d_Mo_source_22 ?_
      refine lv_iload_n hx hb d_Mo_source_25 rfl (lv_at hl 0 rfl) ?_
      refine xa_ld hx hb hK hP 1 0 rfl rfl (kx := q) (rfl) (by omega) (by decide) d_Mo_source_26 ?_
      have eq9 : (Po q : Int32) = P (4 * q) := hPo q
      refine W.eq (g2 := F0 m 27 ls [.int (P (4 * q))]) (by rw [eq9]) ?_
      refine lv_goto (tgt := 32) hx hb d_Mo_source_27 rfl ?_
      have eq9 : (P (4 * q) : Int32) = nI v := hv
      refine W.eq (g2 := F0 m 32 ls [.int (nI v)]) (by rw [eq9]) ?_
      refine lv_istore_n hx hb d_Mo_source_32 rfl hl (by decide) rfl (fun ls hl => ?_)
      have hl : lv_has ls 7 [(2, .int (nI v)), (1, .int (nI q)), (0, .ref m0)] := hl
      refine lv_iload_n hx hb d_Mo_source_33 rfl (lv_at hl 0 rfl) ?_
      refine lv_bipush (v := 13) hx hb d_Mo_source_34 (by decide) ?_
      refine lv_icmp_le (tgt := 43) hx hb d_Mo_source_36 rfl (fun _ => ?_) (fun hz9 => absurd (nI_le (a := v) (b := 13) (by omega) (by decide)) hz9)
      refine lv_aload_n hx hb d_Mo_source_43 rfl (lv_at hl 2 rfl) ?_
      refine va_get (D := D) (ci := 5) (v := .ref rA) (C := R_Mo) (T := F_Mo) (N := 21) hx hb hg f_Mo hown hK.1 hP 0 rfl rfl 13 (by decide) (hg _ q576) (fun _ h9 => h9) rfl d_Mo_source_44 ?_
      refine lv_aload_n hx hb d_Mo_source_47 rfl (lv_at hl 2 rfl) ?_
      refine va_get (D := D) (ci := 5) (v := .ref aA) (C := R_Mo) (T := F_Mo) (N := 21) hx hb hg f_Mo hown hK.1 hP 0 rfl rfl 3 (by decide) (hg _ q566) (fun _ h9 => h9) rfl d_Mo_source_48 ?_
      refine lv_iload_n hx hb d_Mo_source_51 rfl (lv_at hl 1 rfl) ?_
      refine xa_ld hx hb hK hP 2 0 rfl rfl (kx := q) (rfl) (by omega) (by decide) d_Mo_source_52 ?_
      have eq9 : (Pa q : Int32) = P (4 * q + 1) := hPa q
      refine W.eq (g2 := F0 m 53 ls [.int (P (4 * q + 1)), .ref rA]) (by rw [eq9]) ?_
      refine xa_ld hx hb hK hP 10 0 rfl rfl (kx := a) (ha) (by omega) (by decide) d_Mo_source_53 ?_
      have eq9 : ((tm_jn 8 R0 R1) a : Int32) = R0 a := tm_jn_lo (by omega)
      refine W.eq (g2 := F0 m 54 ls [.int (R0 a)]) (by rw [eq9]) ?_
      refine lv_istore_n hx hb d_Mo_source_54 rfl hl (by decide) rfl (fun ls hl => ?_)
      have hl : lv_has ls 7 [(3, .int (R0 a)), (2, .int (nI v)), (1, .int (nI q)), (0, .ref m0)] := hl
      refine lv_iload_n hx hb d_Mo_source_55 rfl (lv_at hl 1 rfl) ?_
      refine lv_bipush (v := 13) hx hb d_Mo_source_56 (by decide) ?_
      refine lv_icmp_le (tgt := 65) hx hb d_Mo_source_58 rfl (fun _ => ?_) (fun hz9 => absurd (nI_le (a := v) (b := 13) (by omega) (by decide)) hz9)
      refine lv_aload_n hx hb d_Mo_source_65 rfl (lv_at hl 3 rfl) ?_
      refine va_get (D := D) (ci := 5) (v := .ref rA) (C := R_Mo) (T := F_Mo) (N := 21) hx hb hg f_Mo hown hK.1 hP 0 rfl rfl 13 (by decide) (hg _ q576) (fun _ h9 => h9) rfl d_Mo_source_66 ?_
      refine lv_aload_n hx hb d_Mo_source_69 rfl (lv_at hl 3 rfl) ?_
      refine va_get (D := D) (ci := 5) (v := .ref bB) (C := R_Mo) (T := F_Mo) (N := 21) hx hb hg f_Mo hown hK.1 hP 0 rfl rfl 4 (by decide) (hg _ q567) (fun _ h9 => h9) rfl d_Mo_source_70 ?_
      refine lv_iload_n hx hb d_Mo_source_73 rfl (lv_at hl 2 rfl) ?_
      refine xa_ld hx hb hK hP 3 0 rfl rfl (kx := q) (rfl) (by omega) (by decide) d_Mo_source_74 ?_
      have eq9 : (Pb q : Int32) = P (4 * q + 2) := hPb q
      refine W.eq (g2 := F0 m 75 ls [.int (P (4 * q + 2)), .ref rA]) (by rw [eq9]) ?_
      refine xa_ld hx hb hK hP 10 0 rfl rfl (kx := b) (hbb) (by omega) (by decide) d_Mo_source_75 ?_
      have eq9 : ((tm_jn 8 R0 R1) b : Int32) = R0 b := tm_jn_lo (by omega)
      refine W.eq (g2 := F0 m 76 ls [.int (R0 b)]) (by rw [eq9]) ?_
      refine lv_istore hx hb d_Mo_source_76 hl (by decide) rfl (fun ls hl => ?_)
      have hl : lv_has ls 7 [(4, .int (R0 b)), (3, .int (R0 a)), (2, .int (nI v)), (1, .int (nI q)), (0, .ref m0)] := hl
      refine lv_iload_n hx hb d_Mo_source_78 rfl (lv_at hl 2 rfl) ?_
      refine lv_bipush (v := 13) hx hb d_Mo_source_79 (by decide) ?_
      refine lv_icmp_le (tgt := 88) hx hb d_Mo_source_81 rfl (fun _ => ?_) (fun hz9 => absurd (nI_le (a := v) (b := 13) (by omega) (by decide)) hz9)
      refine lv_iload hx hb d_Mo_source_88 (lv_at hl 0 rfl) ?_
      refine lv_aload_n hx hb d_Mo_source_90 rfl (lv_at hl 4 rfl) ?_
      refine va_get (D := D) (ci := 5) (v := .ref cC) (C := R_Mo) (T := F_Mo) (N := 21) hx hb hg f_Mo hown hK.1 hP 0 rfl rfl 5 (by decide) (hg _ q568) (fun _ h9 => h9) rfl d_Mo_source_91 ?_
      refine lv_iload_n hx hb d_Mo_source_94 rfl (lv_at hl 3 rfl) ?_
      refine xa_ld hx hb hK hP 4 0 rfl rfl (kx := q) (rfl) (by omega) (by decide) d_Mo_source_95 ?_
      have eq9 : (Pc q : Int32) = P (4 * q + 3) := hPc q
      refine W.eq (g2 := F0 m 96 ls [.int (P (4 * q + 3)), .int (R0 b)]) (by rw [eq9]) ?_
      refine lv_iadd hx hb d_Mo_source_96 ?_
      refine xr_S (As := [.int ((R0 b) + (P (4 * q + 3)))]) (rest := []) ⟨hx, hb, hml, hown, hg⟩ (c_Mo_round l D cI cZ cJ ((R0 b) + (P (4 * q + 3)))) m_Mo_round q725 ⟨rfl, rfl⟩ ⟨Nat.le_of_ble_eq_true rfl, Nat.le_of_ble_eq_true rfl⟩ hK hP [] rfl rfl hl.1 rfl (Nat.le_of_ble_eq_true rfl) d_Mo_source_97 ⟨Nat.zero_le _, Nat.zero_le _⟩ ?_
      have eq9 : (tm_wr ((R0 b) + (P (4 * q + 3))) : Int32) = tm_adr P q R0 := by simp [tm_adr, hbb, hc_b]
      refine W.eq (g2 := F0 m 100 ls [.int (tm_adr P q R0)]) (by rw [eq9]) ?_
      have eq9 : (tm_adr P q R0 : Int32) = nI dd := hd
      refine W.eq (g2 := F0 m 100 ls [.int (nI dd)]) (by rw [eq9]) ?_
      refine lv_istore hx hb d_Mo_source_100 hl (by decide) rfl (fun ls hl => ?_)
      have hl : lv_has ls 7 [(5, .int (nI dd)), (4, .int (R0 b)), (3, .int (R0 a)), (2, .int (nI v)), (1, .int (nI q)), (0, .ref m0)] := hl
      refine lv_iload_n hx hb d_Mo_source_102 rfl (lv_at hl 3 rfl) ?_
      refine lv_bipush (v := 13) hx hb d_Mo_source_103 (by decide) ?_
      refine lv_icmp_gt (tgt := 131) hx hb d_Mo_source_105 rfl (fun hz9 => absurd hz9 (f13)) (fun _ => ?_)
      refine lv_iload_n hx hb d_Mo_source_108 rfl (lv_at hl 3 rfl) ?_
      refine lv_bipush (v := 7) hx hb d_Mo_source_109 (by decide) ?_
      refine lv_icmp_eq (tgt := 120) hx hb d_Mo_source_111 rfl (fun hz9 => absurd hz9 (ee7)) (fun _ => ?_)
      refine lv_iload_n hx hb d_Mo_source_114 rfl (lv_at hl 3 rfl) ?_
      refine lv_bipush (v := 8) hx hb d_Mo_source_115 (by decide) ?_
      refine lv_icmp_ne (tgt := 139) hx hb d_Mo_source_117 rfl (fun hz9 => absurd (ee8) hz9) (fun _ => ?_)
      refine lv_iload hx hb d_Mo_source_120 (lv_at hl 0 rfl) ?_
      refine lv_iconst (v := 0) hx hb d_Mo_source_122 (by decide) ?_
      refine lv_bipush (v := 31) hx hb d_Mo_source_123 (by decide) ?_
      refine xr_S (As := [.int (nI dd), .int 0, .int 31]) (rest := []) ⟨hx, hb, hml, hown, hg⟩ (c_Mo_in l D cI cZ cJ (nI dd) 0 31) m_Mo_in q636 ⟨rfl, rfl⟩ ⟨Nat.le_of_ble_eq_true rfl, Nat.le_of_ble_eq_true rfl⟩ hK hP [] rfl rfl hl.1 rfl (Nat.le_of_ble_eq_true rfl) d_Mo_source_125 ⟨Nat.zero_le _, Nat.zero_le _⟩ ?_
      refine lv_if_ne (tgt := 139) hx hb d_Mo_source_128 rfl (fun _ => ?_) (fun hz9 => absurd hz9 (tm_wi_y (nI_le (a := 0) (b := dd) (by omega) (by omega)) (nI_le (a := dd) (b := 31) (by omega) (by decide))))
      refine lv_aload_n hx hb d_Mo_source_139 rfl (lv_at hl 5 rfl) ?_
      refine va_get (D := D) (ci := 5) (v := .ref dA) (C := R_Mo) (T := F_Mo) (N := 21) hx hb hg f_Mo hown hK.1 hP 0 rfl rfl 17 (by decide) (hg _ q580) (fun _ h9 => h9) rfl d_Mo_source_140 ?_
      refine lv_iconst (v := 0) hx hb d_Mo_source_143 (by decide) ?_
      refine lv_dup2_11 hx hb d_Mo_source_144 rfl rfl ?_
      refine xa_ld hx hb hK hP 14 0 rfl rfl (kx := 0) (rfl) (by decide) (by decide) d_Mo_source_145 ?_
      have eq9 : ((tm_tw d0 d1) 0 : Int32) = d0 := rfl
      refine W.eq (g2 := F0 m 146 ls [.int d0, .int 0, .ref dA]) (by rw [eq9]) ?_
      refine lv_iconst (v := 1) hx hb d_Mo_source_146 (by decide) ?_
      refine lv_iadd hx hb d_Mo_source_147 ?_
      refine xa_st hx hb hK hP hD hS 14 0 rfl rfl (kx := 0) (rfl) (by decide) (by decide) d_Mo_source_148 (fun H locs hP hD hS => ?_)
      have hP : va_P D cls [(m0, .inr (5, [.int th, .int (nI n), .ref oA, .ref aA, .ref bB, .ref cC, .int tl, .int (nI k), .ref gA, .ref zA, .ref bA, .ref sR, .ref sD, .ref rA, .ref eC, .ref eA, .ref pA, .ref dA, .ref kA, .ref acA, .int nx])), (oA, .inl (cI, 24, .inl Po)), (aA, .inl (cI, 24, .inl Pa)), (bB, .inl (cI, 24, .inl Pb)), (cC, .inl (cI, 24, .inl Pc)), (gA, .inl (cI, 1600, .inl G)), (zA, .inl (cZ, 400, .inl O)), (bA, .inl (cI, 25, .inl B)), (sR, .inl (cI, 8, .inl sr)), (sD, .inl (cI, 32, .inl sd)), (rA, .inl (cI, 16, .inl (tm_jn 8 R0 R1))), (eC, .inl (cI, 128, .inl (tm_jn 64 C0 C1))), (eA, .inl (cI, 2, .inl (tm_tw e0 e1))), (pA, .inl (cI, 2, .inl (tm_tw (nI q) h1))), (dA, .inl (cI, 2, .inl (upd (tm_tw d0 d1) 0 (d0 + 1)))), (kA, .inl (cI, 2, .inl (tm_tw (nI k0) (nI k1)))), (acA, .inl (cI, 240, .inl (tm_jn 120 A0 A1)))] H := hP
      have hD : va_D A [(m0, .inr (5, [.int th, .int (nI n), .ref oA, .ref aA, .ref bB, .ref cC, .int tl, .int (nI k), .ref gA, .ref zA, .ref bA, .ref sR, .ref sD, .ref rA, .ref eC, .ref eA, .ref pA, .ref dA, .ref kA, .ref acA, .int nx])), (oA, .inl (cI, 24, .inl Po)), (aA, .inl (cI, 24, .inl Pa)), (bB, .inl (cI, 24, .inl Pb)), (cC, .inl (cI, 24, .inl Pc)), (gA, .inl (cI, 1600, .inl G)), (zA, .inl (cZ, 400, .inl O)), (bA, .inl (cI, 25, .inl B)), (sR, .inl (cI, 8, .inl sr)), (sD, .inl (cI, 32, .inl sd)), (rA, .inl (cI, 16, .inl (tm_jn 8 R0 R1))), (eC, .inl (cI, 128, .inl (tm_jn 64 C0 C1))), (eA, .inl (cI, 2, .inl (tm_tw e0 e1))), (pA, .inl (cI, 2, .inl (tm_tw (nI q) h1))), (dA, .inl (cI, 2, .inl (upd (tm_tw d0 d1) 0 (d0 + 1)))), (kA, .inl (cI, 2, .inl (tm_tw (nI k0) (nI k1)))), (acA, .inl (cI, 240, .inl (tm_jn 120 A0 A1)))] := hD
      rw [tm_tw_0] at hP hD
      have hP : va_P D cls [(m0, .inr (5, [.int th, .int (nI n), .ref oA, .ref aA, .ref bB, .ref cC, .int tl, .int (nI k), .ref gA, .ref zA, .ref bA, .ref sR, .ref sD, .ref rA, .ref eC, .ref eA, .ref pA, .ref dA, .ref kA, .ref acA, .int nx])), (oA, .inl (cI, 24, .inl Po)), (aA, .inl (cI, 24, .inl Pa)), (bB, .inl (cI, 24, .inl Pb)), (cC, .inl (cI, 24, .inl Pc)), (gA, .inl (cI, 1600, .inl G)), (zA, .inl (cZ, 400, .inl O)), (bA, .inl (cI, 25, .inl B)), (sR, .inl (cI, 8, .inl sr)), (sD, .inl (cI, 32, .inl sd)), (rA, .inl (cI, 16, .inl (tm_jn 8 R0 R1))), (eC, .inl (cI, 128, .inl (tm_jn 64 C0 C1))), (eA, .inl (cI, 2, .inl (tm_tw e0 e1))), (pA, .inl (cI, 2, .inl (tm_tw (nI q) h1))), (dA, .inl (cI, 2, .inl (tm_tw (d0 + 1) d1))), (kA, .inl (cI, 2, .inl (tm_tw (nI k0) (nI k1)))), (acA, .inl (cI, 240, .inl (tm_jn 120 A0 A1)))] H := hP
      have hD : va_D A [(m0, .inr (5, [.int th, .int (nI n), .ref oA, .ref aA, .ref bB, .ref cC, .int tl, .int (nI k), .ref gA, .ref zA, .ref bA, .ref sR, .ref sD, .ref rA, .ref eC, .ref eA, .ref pA, .ref dA, .ref kA, .ref acA, .int nx])), (oA, .inl (cI, 24, .inl Po)), (aA, .inl (cI, 24, .inl Pa)), (bB, .inl (cI, 24, .inl Pb)), (cC, .inl (cI, 24, .inl Pc)), (gA, .inl (cI, 1600, .inl G)), (zA, .inl (cZ, 400, .inl O)), (bA, .inl (cI, 25, .inl B)), (sR, .inl (cI, 8, .inl sr)), (sD, .inl (cI, 32, .inl sd)), (rA, .inl (cI, 16, .inl (tm_jn 8 R0 R1))), (eC, .inl (cI, 128, .inl (tm_jn 64 C0 C1))), (eA, .inl (cI, 2, .inl (tm_tw e0 e1))), (pA, .inl (cI, 2, .inl (tm_tw (nI q) h1))), (dA, .inl (cI, 2, .inl (tm_tw (d0 + 1) d1))), (kA, .inl (cI, 2, .inl (tm_tw (nI k0) (nI k1)))), (acA, .inl (cI, 240, .inl (tm_jn 120 A0 A1)))] := hD
      refine lv_iload_n hx hb d_Mo_source_149 rfl (lv_at hl 3 rfl) ?_
      refine lv_if_ne (tgt := 161) hx hb d_Mo_source_150 rfl (fun _ => ?_) (fun hz9 => absurd hz9 (ee0))
      refine lv_aload_n hx hb d_Mo_source_161 rfl (lv_at hl 5 rfl) ?_
      refine va_get (D := D) (ci := 5) (v := .int nx) (C := R_Mo) (T := F_Mo) (N := 21) hx hb hg f_Mo hown hK.1 hP 0 rfl rfl 20 (by decide) (hg _ q583) (fun _ h9 => h9) rfl d_Mo_source_162 ?_
      refine lv_iconst (v := 1) hx hb d_Mo_source_165 (by decide) ?_
      refine lv_iadd hx hb d_Mo_source_166 ?_
      refine lv_istore hx hb d_Mo_source_167 hl (by decide) rfl (fun ls hl => ?_)
      have hl : lv_has ls 7 [(6, .int (nx + 1)), (5, .int (nI dd)), (4, .int (R0 b)), (3, .int (R0 a)), (2, .int (nI v)), (1, .int (nI q)), (0, .ref m0)] := hl
      refine lv_iload_n hx hb d_Mo_source_169 rfl (lv_at hl 4 rfl) ?_
      refine lv_iconst (v := 5) hx hb d_Mo_source_170 (by decide) ?_
      refine lv_icmp_gt (tgt := 222) hx hb d_Mo_source_171 rfl (fun _ => ?_) (fun hz9 => absurd (nI_lt (a := 5) (b := v) (by omega) (by omega)) hz9)
      refine lv_iload_n hx hb d_Mo_source_222 rfl (lv_at hl 4 rfl) ?_
      refine lv_bipush (v := 6) hx hb d_Mo_source_223 (by decide) ?_
      refine lv_icmp_ne (tgt := 255) hx hb d_Mo_source_225 rfl (fun _ => ?_) (fun hz9 => absurd hz9 (ee6))
      refine lv_iload_n hx hb d_Mo_source_255 rfl (lv_at hl 4 rfl) ?_
      refine lv_bipush (v := 7) hx hb d_Mo_source_256 (by decide) ?_
      refine lv_icmp_eq (tgt := 267) hx hb d_Mo_source_258 rfl (fun hz9 => absurd hz9 (ee7)) (fun _ => ?_)
      refine lv_iload_n hx hb d_Mo_source_261 rfl (lv_at hl 4 rfl) ?_
      refine lv_bipush (v := 8) hx hb d_Mo_source_262 (by decide) ?_
      refine lv_icmp_ne (tgt := 294) hx hb d_Mo_source_264 rfl (fun hz9 => absurd (ee8) hz9) (fun _ => ?_)
      refine lv_aload_n hx hb d_Mo_source_267 rfl (lv_at hl 6 rfl) ?_
      refine lv_iconst (v := 0) hx hb d_Mo_source_268 (by decide) ?_
      refine lv_aload_n hx hb d_Mo_source_269 rfl (lv_at hl 6 rfl) ?_
      refine va_get (D := D) (ci := 5) (v := .ref aA) (C := R_Mo) (T := F_Mo) (N := 21) hx hb hg f_Mo hown hK.1 hP 0 rfl rfl 3 (by decide) (hg _ q566) (fun _ h9 => h9) rfl d_Mo_source_270 ?_
      refine lv_iload_n hx hb d_Mo_source_273 rfl (lv_at hl 5 rfl) ?_
      refine xa_ld hx hb hK hP 2 0 rfl rfl (kx := q) (rfl) (by omega) (by decide) d_Mo_source_274 ?_
      have eq9 : (Pa q : Int32) = P (4 * q + 1) := hPa q
      refine W.eq (g2 := F0 m 275 ls [.int (P (4 * q + 1)), .int 0, .ref m0]) (by rw [eq9]) ?_
      refine lv_iload hx hb d_Mo_source_275 (lv_at hl 1 rfl) ?_
      refine lv_iload_n hx hb d_Mo_source_277 rfl (lv_at hl 4 rfl) ?_
      refine lv_bipush (v := 8) hx hb d_Mo_source_278 (by decide) ?_
      refine lv_icmp_ne (tgt := 287) hx hb d_Mo_source_280 rfl (fun hz9 => absurd (ee8) hz9) (fun _ => ?_)
      refine lv_iconst (v := 1) hx hb d_Mo_source_283 (by decide) ?_
      refine lv_goto (tgt := 288) hx hb d_Mo_source_284 rfl ?_
      have eq9 : (P (4 * q + 1) : Int32) = nI a := ha
      refine W.eq (g2 := F0 m 288 ls [.int 1, .int (nI dd), .int (nI a), .int 0, .ref m0]) (by rw [eq9]) ?_
      refine xw_go (w2 := [(m0, .inr (5, [.int th, .int (nI n), .ref oA, .ref aA, .ref bB, .ref cC, .int tl, .int (nI k), .ref gA, .ref zA, .ref bA, .ref sR, .ref sD, .ref rA, .ref eC, .ref eA, .ref pA, .ref dA, .ref kA, .ref acA, .int nx])), (oA, .inl (cI, 24, .inl Po)), (aA, .inl (cI, 24, .inl Pa)), (bB, .inl (cI, 24, .inl Pb)), (cC, .inl (cI, 24, .inl Pc)), (gA, .inl (cI, 1600, .inl G)), (zA, .inl (cZ, 400, .inl O)), (bA, .inl (cI, 25, .inl B)), (sR, .inl (cI, 8, .inl sr)), (sD, .inl (cI, 32, .inl sd)), (rA, .inl (cI, 16, .inl (tm_jn 8 (upd R0 0 0) R1))), (eC, .inl (cI, 128, .inl (tm_jn 64 (upd C0 dd (R0 a)) C1))), (eA, .inl (cI, 2, .inl (tm_tw e0 e1))), (pA, .inl (cI, 2, .inl (tm_tw (nI q) h1))), (dA, .inl (cI, 2, .inl (tm_tw (d0 + 1) d1))), (kA, .inl (cI, 2, .inl (tm_tw (nI (tm_dk k0 (nI dd))) (nI k1)))), (acA, .inl (cI, 240, .inl (tm_jn 120 (tm_da A0 k0 (nI dd) 1 (R0 a)) A1)))]) (wr := []) (w1 := [(m0, .inr (5, [.int th, .int (nI n), .ref oA, .ref aA, .ref bB, .ref cC, .int tl, .int (nI k), .ref gA, .ref zA, .ref bA, .ref sR, .ref sD, .ref rA, .ref eC, .ref eA, .ref pA, .ref dA, .ref kA, .ref acA, .int nx])), (oA, .inl (cI, 24, .inl Po)), (aA, .inl (cI, 24, .inl Pa)), (bB, .inl (cI, 24, .inl Pb)), (cC, .inl (cI, 24, .inl Pc)), (gA, .inl (cI, 1600, .inl G)), (zA, .inl (cZ, 400, .inl O)), (bA, .inl (cI, 25, .inl B)), (sR, .inl (cI, 8, .inl sr)), (sD, .inl (cI, 32, .inl sd)), (rA, .inl (cI, 16, .inl (tm_jn 8 (upd R0 0 0) R1))), (eC, .inl (cI, 128, .inl (tm_jn 64 (upd C0 dd (R0 a)) C1))), (eA, .inl (cI, 2, .inl (tm_tw e0 e1))), (pA, .inl (cI, 2, .inl (tm_tw (nI q) h1))), (dA, .inl (cI, 2, .inl (tm_tw (d0 + 1) d1))), (kA, .inl (cI, 2, .inl (tm_tw (nI (tm_dk k0 (nI dd))) (nI k1)))), (acA, .inl (cI, 240, .inl (tm_jn 120 (tm_da A0 k0 (nI dd) 1 (R0 a)) A1)))]) (va_runV (As := [.int 0, .int (nI a), .int (nI dd), .int 1]) (rest := []) (C := R_Mo) ⟨hx, hb, hml, hown, hg⟩ (c_Mo_move01 l D cI cZ cJ m0 oA aA bB cC gA zA bA sR sD rA eC eA pA dA kA acA Po Pa Pb Pc G O B sr sd R0 R1 C0 C1 A0 A1 n k k0 k1 th tl nx e0 e1 (nI q) h1 (d0 + 1) d1 a dd (ha8) (by omega) (by omega) H.size) ⟨xg_B hg m_Mo_move.1 m_Mo_move.2.2.1 m_Mo_move.2.2.2.1 m_Mo_move.2.2.2.2 q731 rfl rfl ⟨Nat.le_of_ble_eq_true rfl, Nat.le_of_ble_eq_true rfl⟩, hg _ m_Mo_move.2.1, hg _ sp_Mo_move⟩ ⟨xw_blind, (va_recv (q0 := 0) hK.1 hP rfl rfl), xw_pre hK hP hD [0, 1, 2, 3, 4, 5, 6, 7, 8, 9, 10, 11, 12, 13, 14, 15, 16] (by decide) rfl⟩ rfl rfl hl.1 rfl (lv_room (Nat.le_of_ble_eq_true rfl)) d_Mo_source_288 ⟨Nat.zero_le _, Nat.zero_le _⟩) hP hD hS hA [0, 1, 2, 3, 4, 5, 6, 7, 8, 9, 10, 11, 12, 13, 14, 15, 16] [] [0, 1, 2, 3, 4, 5, 6, 7, 8, 9, 10, 11, 12, 13, 14, 15, 16] rfl rfl (by decide) (by decide) rfl (by decide) (fun H locs hP hD hS => ?_)
      refine lv_goto (tgt := 350) hx hb d_Mo_source_291 rfl ?_
      refine lv_iload_n hx hb d_Mo_source_350 rfl (lv_at hl 4 rfl) ?_
      refine lv_bipush (v := 12) hx hb d_Mo_source_351 (by decide) ?_
      refine lv_icmp_ne (tgt := 369) hx hb d_Mo_source_353 rfl (fun _ => ?_) (fun hz9 => absurd hz9 (ee12))
      refine lv_aload_n hx hb d_Mo_source_369 rfl (lv_at hl 6 rfl) ?_
      refine va_get (D := D) (ci := 5) (v := .ref rA) (C := R_Mo) (T := F_Mo) (N := 21) hx hb hg f_Mo hown hK.1 hP 0 rfl rfl 13 (by decide) (hg _ q576) (fun _ h9 => h9) rfl d_Mo_source_370 ?_
      refine lv_iconst (v := 0) hx hb d_Mo_source_373 (by decide) ?_
      refine lv_iconst (v := 0) hx hb d_Mo_source_374 (by decide) ?_
      refine xa_st hx hb hK hP hD hS 10 0 rfl rfl (kx := 0) (rfl) (by decide) (by decide) d_Mo_source_375 (fun H locs hP hD hS => ?_)
      have hP : va_P D cls [(m0, .inr (5, [.int th, .int (nI n), .ref oA, .ref aA, .ref bB, .ref cC, .int tl, .int (nI k), .ref gA, .ref zA, .ref bA, .ref sR, .ref sD, .ref rA, .ref eC, .ref eA, .ref pA, .ref dA, .ref kA, .ref acA, .int nx])), (oA, .inl (cI, 24, .inl Po)), (aA, .inl (cI, 24, .inl Pa)), (bB, .inl (cI, 24, .inl Pb)), (cC, .inl (cI, 24, .inl Pc)), (gA, .inl (cI, 1600, .inl G)), (zA, .inl (cZ, 400, .inl O)), (bA, .inl (cI, 25, .inl B)), (sR, .inl (cI, 8, .inl sr)), (sD, .inl (cI, 32, .inl sd)), (rA, .inl (cI, 16, .inl (upd (tm_jn 8 (upd R0 0 0) R1) 0 0))), (eC, .inl (cI, 128, .inl (tm_jn 64 (upd C0 dd (R0 a)) C1))), (eA, .inl (cI, 2, .inl (tm_tw e0 e1))), (pA, .inl (cI, 2, .inl (tm_tw (nI q) h1))), (dA, .inl (cI, 2, .inl (tm_tw (d0 + 1) d1))), (kA, .inl (cI, 2, .inl (tm_tw (nI (tm_dk k0 (nI dd))) (nI k1)))), (acA, .inl (cI, 240, .inl (tm_jn 120 (tm_da A0 k0 (nI dd) 1 (R0 a)) A1)))] H := hP
      have hD : va_D A [(m0, .inr (5, [.int th, .int (nI n), .ref oA, .ref aA, .ref bB, .ref cC, .int tl, .int (nI k), .ref gA, .ref zA, .ref bA, .ref sR, .ref sD, .ref rA, .ref eC, .ref eA, .ref pA, .ref dA, .ref kA, .ref acA, .int nx])), (oA, .inl (cI, 24, .inl Po)), (aA, .inl (cI, 24, .inl Pa)), (bB, .inl (cI, 24, .inl Pb)), (cC, .inl (cI, 24, .inl Pc)), (gA, .inl (cI, 1600, .inl G)), (zA, .inl (cZ, 400, .inl O)), (bA, .inl (cI, 25, .inl B)), (sR, .inl (cI, 8, .inl sr)), (sD, .inl (cI, 32, .inl sd)), (rA, .inl (cI, 16, .inl (upd (tm_jn 8 (upd R0 0 0) R1) 0 0))), (eC, .inl (cI, 128, .inl (tm_jn 64 (upd C0 dd (R0 a)) C1))), (eA, .inl (cI, 2, .inl (tm_tw e0 e1))), (pA, .inl (cI, 2, .inl (tm_tw (nI q) h1))), (dA, .inl (cI, 2, .inl (tm_tw (d0 + 1) d1))), (kA, .inl (cI, 2, .inl (tm_tw (nI (tm_dk k0 (nI dd))) (nI k1)))), (acA, .inl (cI, 240, .inl (tm_jn 120 (tm_da A0 k0 (nI dd) 1 (R0 a)) A1)))] := hD
      rw [tm_jn_ul (by omega)] at hP hD
      have hP : va_P D cls [(m0, .inr (5, [.int th, .int (nI n), .ref oA, .ref aA, .ref bB, .ref cC, .int tl, .int (nI k), .ref gA, .ref zA, .ref bA, .ref sR, .ref sD, .ref rA, .ref eC, .ref eA, .ref pA, .ref dA, .ref kA, .ref acA, .int nx])), (oA, .inl (cI, 24, .inl Po)), (aA, .inl (cI, 24, .inl Pa)), (bB, .inl (cI, 24, .inl Pb)), (cC, .inl (cI, 24, .inl Pc)), (gA, .inl (cI, 1600, .inl G)), (zA, .inl (cZ, 400, .inl O)), (bA, .inl (cI, 25, .inl B)), (sR, .inl (cI, 8, .inl sr)), (sD, .inl (cI, 32, .inl sd)), (rA, .inl (cI, 16, .inl (tm_jn 8 (upd (upd R0 0 0) 0 0) R1))), (eC, .inl (cI, 128, .inl (tm_jn 64 (upd C0 dd (R0 a)) C1))), (eA, .inl (cI, 2, .inl (tm_tw e0 e1))), (pA, .inl (cI, 2, .inl (tm_tw (nI q) h1))), (dA, .inl (cI, 2, .inl (tm_tw (d0 + 1) d1))), (kA, .inl (cI, 2, .inl (tm_tw (nI (tm_dk k0 (nI dd))) (nI k1)))), (acA, .inl (cI, 240, .inl (tm_jn 120 (tm_da A0 k0 (nI dd) 1 (R0 a)) A1)))] H := hP
      have hD : va_D A [(m0, .inr (5, [.int th, .int (nI n), .ref oA, .ref aA, .ref bB, .ref cC, .int tl, .int (nI k), .ref gA, .ref zA, .ref bA, .ref sR, .ref sD, .ref rA, .ref eC, .ref eA, .ref pA, .ref dA, .ref kA, .ref acA, .int nx])), (oA, .inl (cI, 24, .inl Po)), (aA, .inl (cI, 24, .inl Pa)), (bB, .inl (cI, 24, .inl Pb)), (cC, .inl (cI, 24, .inl Pc)), (gA, .inl (cI, 1600, .inl G)), (zA, .inl (cZ, 400, .inl O)), (bA, .inl (cI, 25, .inl B)), (sR, .inl (cI, 8, .inl sr)), (sD, .inl (cI, 32, .inl sd)), (rA, .inl (cI, 16, .inl (tm_jn 8 (upd (upd R0 0 0) 0 0) R1))), (eC, .inl (cI, 128, .inl (tm_jn 64 (upd C0 dd (R0 a)) C1))), (eA, .inl (cI, 2, .inl (tm_tw e0 e1))), (pA, .inl (cI, 2, .inl (tm_tw (nI q) h1))), (dA, .inl (cI, 2, .inl (tm_tw (d0 + 1) d1))), (kA, .inl (cI, 2, .inl (tm_tw (nI (tm_dk k0 (nI dd))) (nI k1)))), (acA, .inl (cI, 240, .inl (tm_jn 120 (tm_da A0 k0 (nI dd) 1 (R0 a)) A1)))] := hD
      refine lv_aload_n hx hb d_Mo_source_376 rfl (lv_at hl 6 rfl) ?_
      refine va_get (D := D) (ci := 5) (v := .ref pA) (C := R_Mo) (T := F_Mo) (N := 21) hx hb hg f_Mo hown hK.1 hP 0 rfl rfl 16 (by decide) (hg _ q579) (fun _ h9 => h9) rfl d_Mo_source_377 ?_
      refine lv_iconst (v := 0) hx hb d_Mo_source_380 (by decide) ?_
      refine lv_aload_n hx hb d_Mo_source_381 rfl (lv_at hl 6 rfl) ?_
      refine va_get (D := D) (ci := 5) (v := .int nx) (C := R_Mo) (T := F_Mo) (N := 21) hx hb hg f_Mo hown hK.1 hP 0 rfl rfl 20 (by decide) (hg _ q583) (fun _ h9 => h9) rfl d_Mo_source_382 ?_
      refine xa_st hx hb hK hP hD hS 13 0 rfl rfl (kx := 0) (rfl) (by decide) (by decide) d_Mo_source_385 (fun H locs hP hD hS => ?_)
      have hP : va_P D cls [(m0, .inr (5, [.int th, .int (nI n), .ref oA, .ref aA, .ref bB, .ref cC, .int tl, .int (nI k), .ref gA, .ref zA, .ref bA, .ref sR, .ref sD, .ref rA, .ref eC, .ref eA, .ref pA, .ref dA, .ref kA, .ref acA, .int nx])), (oA, .inl (cI, 24, .inl Po)), (aA, .inl (cI, 24, .inl Pa)), (bB, .inl (cI, 24, .inl Pb)), (cC, .inl (cI, 24, .inl Pc)), (gA, .inl (cI, 1600, .inl G)), (zA, .inl (cZ, 400, .inl O)), (bA, .inl (cI, 25, .inl B)), (sR, .inl (cI, 8, .inl sr)), (sD, .inl (cI, 32, .inl sd)), (rA, .inl (cI, 16, .inl (tm_jn 8 (upd (upd R0 0 0) 0 0) R1))), (eC, .inl (cI, 128, .inl (tm_jn 64 (upd C0 dd (R0 a)) C1))), (eA, .inl (cI, 2, .inl (tm_tw e0 e1))), (pA, .inl (cI, 2, .inl (upd (tm_tw (nI q) h1) 0 nx))), (dA, .inl (cI, 2, .inl (tm_tw (d0 + 1) d1))), (kA, .inl (cI, 2, .inl (tm_tw (nI (tm_dk k0 (nI dd))) (nI k1)))), (acA, .inl (cI, 240, .inl (tm_jn 120 (tm_da A0 k0 (nI dd) 1 (R0 a)) A1)))] H := hP
      have hD : va_D A [(m0, .inr (5, [.int th, .int (nI n), .ref oA, .ref aA, .ref bB, .ref cC, .int tl, .int (nI k), .ref gA, .ref zA, .ref bA, .ref sR, .ref sD, .ref rA, .ref eC, .ref eA, .ref pA, .ref dA, .ref kA, .ref acA, .int nx])), (oA, .inl (cI, 24, .inl Po)), (aA, .inl (cI, 24, .inl Pa)), (bB, .inl (cI, 24, .inl Pb)), (cC, .inl (cI, 24, .inl Pc)), (gA, .inl (cI, 1600, .inl G)), (zA, .inl (cZ, 400, .inl O)), (bA, .inl (cI, 25, .inl B)), (sR, .inl (cI, 8, .inl sr)), (sD, .inl (cI, 32, .inl sd)), (rA, .inl (cI, 16, .inl (tm_jn 8 (upd (upd R0 0 0) 0 0) R1))), (eC, .inl (cI, 128, .inl (tm_jn 64 (upd C0 dd (R0 a)) C1))), (eA, .inl (cI, 2, .inl (tm_tw e0 e1))), (pA, .inl (cI, 2, .inl (upd (tm_tw (nI q) h1) 0 nx))), (dA, .inl (cI, 2, .inl (tm_tw (d0 + 1) d1))), (kA, .inl (cI, 2, .inl (tm_tw (nI (tm_dk k0 (nI dd))) (nI k1)))), (acA, .inl (cI, 240, .inl (tm_jn 120 (tm_da A0 k0 (nI dd) 1 (R0 a)) A1)))] := hD
      rw [tm_tw_0] at hP hD
      have hP : va_P D cls [(m0, .inr (5, [.int th, .int (nI n), .ref oA, .ref aA, .ref bB, .ref cC, .int tl, .int (nI k), .ref gA, .ref zA, .ref bA, .ref sR, .ref sD, .ref rA, .ref eC, .ref eA, .ref pA, .ref dA, .ref kA, .ref acA, .int nx])), (oA, .inl (cI, 24, .inl Po)), (aA, .inl (cI, 24, .inl Pa)), (bB, .inl (cI, 24, .inl Pb)), (cC, .inl (cI, 24, .inl Pc)), (gA, .inl (cI, 1600, .inl G)), (zA, .inl (cZ, 400, .inl O)), (bA, .inl (cI, 25, .inl B)), (sR, .inl (cI, 8, .inl sr)), (sD, .inl (cI, 32, .inl sd)), (rA, .inl (cI, 16, .inl (tm_jn 8 (upd (upd R0 0 0) 0 0) R1))), (eC, .inl (cI, 128, .inl (tm_jn 64 (upd C0 dd (R0 a)) C1))), (eA, .inl (cI, 2, .inl (tm_tw e0 e1))), (pA, .inl (cI, 2, .inl (tm_tw nx h1))), (dA, .inl (cI, 2, .inl (tm_tw (d0 + 1) d1))), (kA, .inl (cI, 2, .inl (tm_tw (nI (tm_dk k0 (nI dd))) (nI k1)))), (acA, .inl (cI, 240, .inl (tm_jn 120 (tm_da A0 k0 (nI dd) 1 (R0 a)) A1)))] H := hP
      have hD : va_D A [(m0, .inr (5, [.int th, .int (nI n), .ref oA, .ref aA, .ref bB, .ref cC, .int tl, .int (nI k), .ref gA, .ref zA, .ref bA, .ref sR, .ref sD, .ref rA, .ref eC, .ref eA, .ref pA, .ref dA, .ref kA, .ref acA, .int nx])), (oA, .inl (cI, 24, .inl Po)), (aA, .inl (cI, 24, .inl Pa)), (bB, .inl (cI, 24, .inl Pb)), (cC, .inl (cI, 24, .inl Pc)), (gA, .inl (cI, 1600, .inl G)), (zA, .inl (cZ, 400, .inl O)), (bA, .inl (cI, 25, .inl B)), (sR, .inl (cI, 8, .inl sr)), (sD, .inl (cI, 32, .inl sd)), (rA, .inl (cI, 16, .inl (tm_jn 8 (upd (upd R0 0 0) 0 0) R1))), (eC, .inl (cI, 128, .inl (tm_jn 64 (upd C0 dd (R0 a)) C1))), (eA, .inl (cI, 2, .inl (tm_tw e0 e1))), (pA, .inl (cI, 2, .inl (tm_tw nx h1))), (dA, .inl (cI, 2, .inl (tm_tw (d0 + 1) d1))), (kA, .inl (cI, 2, .inl (tm_tw (nI (tm_dk k0 (nI dd))) (nI k1)))), (acA, .inl (cI, 240, .inl (tm_jn 120 (tm_da A0 k0 (nI dd) 1 (R0 a)) A1)))] := hD
      refine lv_aload_n hx hb d_Mo_source_386 rfl (lv_at hl 6 rfl) ?_
      refine lv_iload hx hb d_Mo_source_387 (lv_at hl 0 rfl) ?_
      refine va_put (D := D) (ci := 5) (v := .int (nx + 1)) (ty := .int) (C := R_Mo) (T := F_Mo) (N := 21) hx hb hg f_Mo t_Mo t_Mo_ok n_Mo hown hK.1 hP hD hS 0 rfl rfl 20 (by decide) (hg _ q583) (fun _ h9 => h9) rfl (by decide +kernel) rfl rfl (Nat.le_of_ble_eq_true rfl) d_Mo_source_389 (fun H locs hP hD hS => ?_)
      have hP : va_P D cls [(m0, .inr (5, [.int th, .int (nI n), .ref oA, .ref aA, .ref bB, .ref cC, .int tl, .int (nI k), .ref gA, .ref zA, .ref bA, .ref sR, .ref sD, .ref rA, .ref eC, .ref eA, .ref pA, .ref dA, .ref kA, .ref acA, .int (nx + 1)])), (oA, .inl (cI, 24, .inl Po)), (aA, .inl (cI, 24, .inl Pa)), (bB, .inl (cI, 24, .inl Pb)), (cC, .inl (cI, 24, .inl Pc)), (gA, .inl (cI, 1600, .inl G)), (zA, .inl (cZ, 400, .inl O)), (bA, .inl (cI, 25, .inl B)), (sR, .inl (cI, 8, .inl sr)), (sD, .inl (cI, 32, .inl sd)), (rA, .inl (cI, 16, .inl (tm_jn 8 (upd (upd R0 0 0) 0 0) R1))), (eC, .inl (cI, 128, .inl (tm_jn 64 (upd C0 dd (R0 a)) C1))), (eA, .inl (cI, 2, .inl (tm_tw e0 e1))), (pA, .inl (cI, 2, .inl (tm_tw nx h1))), (dA, .inl (cI, 2, .inl (tm_tw (d0 + 1) d1))), (kA, .inl (cI, 2, .inl (tm_tw (nI (tm_dk k0 (nI dd))) (nI k1)))), (acA, .inl (cI, 240, .inl (tm_jn 120 (tm_da A0 k0 (nI dd) 1 (R0 a)) A1)))] H := hP
      have hD : va_D A [(m0, .inr (5, [.int th, .int (nI n), .ref oA, .ref aA, .ref bB, .ref cC, .int tl, .int (nI k), .ref gA, .ref zA, .ref bA, .ref sR, .ref sD, .ref rA, .ref eC, .ref eA, .ref pA, .ref dA, .ref kA, .ref acA, .int (nx + 1)])), (oA, .inl (cI, 24, .inl Po)), (aA, .inl (cI, 24, .inl Pa)), (bB, .inl (cI, 24, .inl Pb)), (cC, .inl (cI, 24, .inl Pc)), (gA, .inl (cI, 1600, .inl G)), (zA, .inl (cZ, 400, .inl O)), (bA, .inl (cI, 25, .inl B)), (sR, .inl (cI, 8, .inl sr)), (sD, .inl (cI, 32, .inl sd)), (rA, .inl (cI, 16, .inl (tm_jn 8 (upd (upd R0 0 0) 0 0) R1))), (eC, .inl (cI, 128, .inl (tm_jn 64 (upd C0 dd (R0 a)) C1))), (eA, .inl (cI, 2, .inl (tm_tw e0 e1))), (pA, .inl (cI, 2, .inl (tm_tw nx h1))), (dA, .inl (cI, 2, .inl (tm_tw (d0 + 1) d1))), (kA, .inl (cI, 2, .inl (tm_tw (nI (tm_dk k0 (nI dd))) (nI k1)))), (acA, .inl (cI, 240, .inl (tm_jn 120 (tm_da A0 k0 (nI dd) 1 (R0 a)) A1)))] := hD
      have ew1 : nx + 1 = (tm_ss P q (R0, C0, A0, k0, nI q, d0, e0, nx)).2.2.2.2.2.2.2 := by first | rfl | (simp [tm_ss, hv, f13, ee0, ee5, ee6, ee7, ee8, ee9, ee10, ee11, ee12, ee13, f7, f9, f4, f10, ho]; done) | (simp [tm_ss, hv, f13, ee0, ee5, ee6, ee7, ee8, ee9, ee10, ee11, ee12, ee13, f7, f9, f4, f10, ho, Nat.add_assoc]; done)
      have ew2_0 : (upd (upd R0 0 0) 0 0) = ((tm_ss P q (R0, C0, A0, k0, nI q, d0, e0, nx)).1) := by rw [tm_upd0 hR0, tm_upd0 hR0]; simp [tm_ss, tm_mR, hv, ho, f13, ee0, ee5, ee6, ee7, ee8, ee9, ee10, ee11, ee12, ee13, f7, f9, f4, f10]
      have ew2 : tm_jn 8 (upd (upd R0 0 0) 0 0) R1 = tm_jn 8 ((tm_ss P q (R0, C0, A0, k0, nI q, d0, e0, nx)).1) R1 := congr (congrArg (tm_jn 8) ew2_0) rfl
      have ew3_0 : (upd C0 dd (R0 a)) = ((tm_ss P q (R0, C0, A0, k0, nI q, d0, e0, nx)).2.1) := by simp [tm_ss, tm_mC, hv, ho, hod, ha, hd, hc_dd, hc_a, f13, ee0, ee5, ee6, ee7, ee8, ee9, ee10, ee11, ee12, ee13, f7, f9, f4, f10]
      have ew3 : tm_jn 64 (upd C0 dd (R0 a)) C1 = tm_jn 64 ((tm_ss P q (R0, C0, A0, k0, nI q, d0, e0, nx)).2.1) C1 := congr (congrArg (tm_jn 64) ew3_0) rfl
      have ew4_0 : e0 = ((tm_ss P q (R0, C0, A0, k0, nI q, d0, e0, nx)).2.2.2.2.2.2.1) := by first | rfl | (simp [tm_ss, hv, f13, ee0, ee5, ee6, ee7, ee8, ee9, ee10, ee11, ee12, ee13, f7, f9, f4, f10, ho]; done)
      have ew4 : tm_tw e0 e1 = tm_tw ((tm_ss P q (R0, C0, A0, k0, nI q, d0, e0, nx)).2.2.2.2.2.2.1) e1 := congr (congrArg (tm_tw) ew4_0) rfl
      have ew5_0 : nx = ((tm_ss P q (R0, C0, A0, k0, nI q, d0, e0, nx)).2.2.2.2.1) := by first | rfl | (simp [tm_ss, hv, f13, ee0, ee5, ee6, ee7, ee8, ee9, ee10, ee11, ee12, ee13, f7, f9, f4, f10, ho]; done)
      have ew5 : tm_tw nx h1 = tm_tw ((tm_ss P q (R0, C0, A0, k0, nI q, d0, e0, nx)).2.2.2.2.1) h1 := congr (congrArg (tm_tw) ew5_0) rfl
      have ew6_0 : (d0 + 1) = ((tm_ss P q (R0, C0, A0, k0, nI q, d0, e0, nx)).2.2.2.2.2.1) := by first | rfl | (simp [tm_ss, hv, f13, ee0, ee5, ee6, ee7, ee8, ee9, ee10, ee11, ee12, ee13, f7, f9, f4, f10, ho]; done)
      have ew6 : tm_tw (d0 + 1) d1 = tm_tw ((tm_ss P q (R0, C0, A0, k0, nI q, d0, e0, nx)).2.2.2.2.2.1) d1 := congr (congrArg (tm_tw) ew6_0) rfl
      have ew7_0 : (nI (tm_dk k0 (nI dd))) = (nI (tm_ss P q (R0, C0, A0, k0, nI q, d0, e0, nx)).2.2.2.1) := congrArg nI (by simp [tm_ss, hv, ho, hod, hd, f13, ee0, ee5, ee6, ee7, ee8, ee9, ee10, ee11, ee12, ee13, f7, f9, f4, f10])
      have ew7 : tm_tw (nI (tm_dk k0 (nI dd))) (nI k1) = tm_tw (nI (tm_ss P q (R0, C0, A0, k0, nI q, d0, e0, nx)).2.2.2.1) (nI k1) := congr (congrArg (tm_tw) ew7_0) rfl
      have ew8_0 : (tm_da A0 k0 (nI dd) 1 (R0 a)) = ((tm_ss P q (R0, C0, A0, k0, nI q, d0, e0, nx)).2.2.1) := by simp [tm_ss, tm_mA, hv, ho, hod, ha, hd, hc_dd, hc_a, f13, ee0, ee5, ee6, ee7, ee8, ee9, ee10, ee11, ee12, ee13, f7, f9, f4, f10]
      have ew8 : tm_jn 120 (tm_da A0 k0 (nI dd) 1 (R0 a)) A1 = tm_jn 120 ((tm_ss P q (R0, C0, A0, k0, nI q, d0, e0, nx)).2.2.1) A1 := congr (congrArg (tm_jn 120) ew8_0) rfl
      have hP : va_P D cls [(m0, .inr (5, [.int th, .int (nI n), .ref oA, .ref aA, .ref bB, .ref cC, .int tl, .int (nI k), .ref gA, .ref zA, .ref bA, .ref sR, .ref sD, .ref rA, .ref eC, .ref eA, .ref pA, .ref dA, .ref kA, .ref acA, .int ((tm_ss P q (R0, C0, A0, k0, nI q, d0, e0, nx)).2.2.2.2.2.2.2)])), (oA, .inl (cI, 24, .inl Po)), (aA, .inl (cI, 24, .inl Pa)), (bB, .inl (cI, 24, .inl Pb)), (cC, .inl (cI, 24, .inl Pc)), (gA, .inl (cI, 1600, .inl G)), (zA, .inl (cZ, 400, .inl O)), (bA, .inl (cI, 25, .inl B)), (sR, .inl (cI, 8, .inl sr)), (sD, .inl (cI, 32, .inl sd)), (rA, .inl (cI, 16, .inl (tm_jn 8 ((tm_ss P q (R0, C0, A0, k0, nI q, d0, e0, nx)).1) R1))), (eC, .inl (cI, 128, .inl (tm_jn 64 ((tm_ss P q (R0, C0, A0, k0, nI q, d0, e0, nx)).2.1) C1))), (eA, .inl (cI, 2, .inl (tm_tw ((tm_ss P q (R0, C0, A0, k0, nI q, d0, e0, nx)).2.2.2.2.2.2.1) e1))), (pA, .inl (cI, 2, .inl (tm_tw ((tm_ss P q (R0, C0, A0, k0, nI q, d0, e0, nx)).2.2.2.2.1) h1))), (dA, .inl (cI, 2, .inl (tm_tw ((tm_ss P q (R0, C0, A0, k0, nI q, d0, e0, nx)).2.2.2.2.2.1) d1))), (kA, .inl (cI, 2, .inl (tm_tw (nI (tm_ss P q (R0, C0, A0, k0, nI q, d0, e0, nx)).2.2.2.1) (nI k1)))), (acA, .inl (cI, 240, .inl (tm_jn 120 ((tm_ss P q (R0, C0, A0, k0, nI q, d0, e0, nx)).2.2.1) A1)))] H := by rw [← ew1, ← ew2, ← ew3, ← ew4, ← ew5, ← ew6, ← ew7, ← ew8]; exact hP
      have hD : va_D A [(m0, .inr (5, [.int th, .int (nI n), .ref oA, .ref aA, .ref bB, .ref cC, .int tl, .int (nI k), .ref gA, .ref zA, .ref bA, .ref sR, .ref sD, .ref rA, .ref eC, .ref eA, .ref pA, .ref dA, .ref kA, .ref acA, .int ((tm_ss P q (R0, C0, A0, k0, nI q, d0, e0, nx)).2.2.2.2.2.2.2)])), (oA, .inl (cI, 24, .inl Po)), (aA, .inl (cI, 24, .inl Pa)), (bB, .inl (cI, 24, .inl Pb)), (cC, .inl (cI, 24, .inl Pc)), (gA, .inl (cI, 1600, .inl G)), (zA, .inl (cZ, 400, .inl O)), (bA, .inl (cI, 25, .inl B)), (sR, .inl (cI, 8, .inl sr)), (sD, .inl (cI, 32, .inl sd)), (rA, .inl (cI, 16, .inl (tm_jn 8 ((tm_ss P q (R0, C0, A0, k0, nI q, d0, e0, nx)).1) R1))), (eC, .inl (cI, 128, .inl (tm_jn 64 ((tm_ss P q (R0, C0, A0, k0, nI q, d0, e0, nx)).2.1) C1))), (eA, .inl (cI, 2, .inl (tm_tw ((tm_ss P q (R0, C0, A0, k0, nI q, d0, e0, nx)).2.2.2.2.2.2.1) e1))), (pA, .inl (cI, 2, .inl (tm_tw ((tm_ss P q (R0, C0, A0, k0, nI q, d0, e0, nx)).2.2.2.2.1) h1))), (dA, .inl (cI, 2, .inl (tm_tw ((tm_ss P q (R0, C0, A0, k0, nI q, d0, e0, nx)).2.2.2.2.2.1) d1))), (kA, .inl (cI, 2, .inl (tm_tw (nI (tm_ss P q (R0, C0, A0, k0, nI q, d0, e0, nx)).2.2.2.1) (nI k1)))), (acA, .inl (cI, 240, .inl (tm_jn 120 ((tm_ss P q (R0, C0, A0, k0, nI q, d0, e0, nx)).2.2.1) A1)))] := by rw [← ew1, ← ew2, ← ew3, ← ew4, ← ew5, ← ew6, ← ew7, ← ew8]; exact hD
      exact W.vret hx hb hr (fun t9 ht9 hW9 => ⟨⟨(), rfl, trivial, by rw [ht9]; exact hP, hD⟩, hS.F ht9⟩) hS.2.2 d_Mo_source_392
  · have f13 : ¬ 13 < nI v := nI_nlt (a := 13) (b := v) (by omega) (by decide)
    have ee0 : ¬ nI v = 0 := xn_ne (w := 0) (by omega) (by decide) (by omega)
    have ee5 : ¬ nI v = 5 := xn_ne (w := 5) (by omega) (by decide) (by omega)
    have ee6 : ¬ nI v = 6 := xn_ne (w := 6) (by omega) (by decide) (by omega)
    have ee7 : ¬ nI v = 7 := xn_ne (w := 7) (by omega) (by decide) (by omega)
    have ee8 : ¬ nI v = 8 := xn_ne (w := 8) (by omega) (by decide) (by omega)
    have ee9 : nI v = 9 := by rw [hcase]; rfl
    have ee10 : ¬ nI v = 10 := xn_ne (w := 10) (by omega) (by decide) (by omega)
    have ee11 : ¬ nI v = 11 := xn_ne (w := 11) (by omega) (by decide) (by omega)
    have ee12 : ¬ nI v = 12 := xn_ne (w := 12) (by omega) (by decide) (by omega)
    have ee13 : ¬ nI v = 13 := xn_ne (w := 13) (by omega) (by decide) (by omega)
    have f7 : ¬ nI v < 7 := nI_nlt (a := v) (b := 7) (by omega) (by omega)
    have f9 : ¬ nI v < 9 := nI_nlt (a := v) (b := 9) (by omega) (by omega)
    have f4 : 4 < nI v := nI_lt (a := 4) (b := v) (by omega) (by omega)
    have f10 : ¬ 10 < nI v := nI_nlt (a := 10) (b := v) (by omega) (by decide)
    refine lv_aload_n hx hb d_Mo_source_0 rfl (lv_at hl 0 rfl) ?_
    refine va_get (D := D) (ci := 5) (v := .ref pA) (C := R_Mo) (T := F_Mo) (N := 21) hx hb hg f_Mo hown hK.1 hP 0 rfl rfl 16 (by decide) (hg _ q579) (fun _ h9 => h9) rfl d_Mo_source_1 ?_
    refine lv_iconst (v := 0) hx hb d_Mo_source_4 (by decide) ?_
    refine xa_ld hx hb hK hP 13 0 rfl rfl (kx := 0) (rfl) (by decide) (by decide) d_Mo_source_5 ?_
    have eq9 : ((tm_tw (nI q) h1) 0 : Int32) = nI q := rfl
    refine W.eq (g2 := F0 m 6 ls [.int (nI q)]) (by rw [eq9]) ?_
    refine lv_istore_n hx hb d_Mo_source_6 rfl hl (by decide) rfl (fun ls hl => ?_)
    have hl : lv_has ls 7 [(1, .int (nI q)), (0, .ref m0)] := hl
    refine lv_iload_n hx hb d_Mo_source_7 rfl (lv_at hl 0 rfl) ?_
    refine lv_iconst (v := 0) hx hb d_Mo_source_8 (by decide) ?_
    refine lv_aload_n hx hb d_Mo_source_9 rfl (lv_at hl 1 rfl) ?_
    refine va_get (D := D) (ci := 5) (v := .int (nI n)) (C := R_Mo) (T := F_Mo) (N := 21) hx hb hg f_Mo hown hK.1 hP 0 rfl rfl 1 (by decide) (hg _ q564) (fun _ h9 => h9) rfl d_Mo_source_10 ?_
    refine lv_iconst (v := 1) hx hb d_Mo_source_13 (by decide) ?_
    refine lv_isub hx hb d_Mo_source_14 ?_
    have eq9 : ((nI n) - 1 : Int32) = nI (n - 1) := pk_sub (a := n) (b := 1) (by omega)
    refine W.eq (g2 := F0 m 15 ls [.int (nI (n - 1)), .int 0, .int (nI q)]) (by rw [eq9]) ?_
    refine xr_S (As := [.int (nI q), .int 0, .int (nI (n - 1))]) (rest := []) ⟨hx, hb, hml, hown, hg⟩ (c_Mo_in l D cI cZ cJ (nI q) 0 (nI (n - 1))) m_Mo_in q636 ⟨rfl, rfl⟩ ⟨Nat.le_of_ble_eq_true rfl, Nat.le_of_ble_eq_true rfl⟩ hK hP [] rfl rfl hl.1 rfl (Nat.le_of_ble_eq_true rfl) d_Mo_source_15 ⟨Nat.zero_le _, Nat.zero_le _⟩ ?_
    refine lv_if_eq (tgt := 30) hx hb d_Mo_source_18 rfl (fun hz9 => absurd hz9 (tm_wi_y (nI_le (a := 0) (b := q) (by omega) (by omega)) (nI_le (a := q) (b := n - 1) (by omega) (by omega)))) (fun _ => ?_)
    refine lv_aload_n hx hb d_Mo_source_21 rfl (lv_at hl 1 rfl) ?_
    refine va_get (D := D) (ci := 5) (v := .ref oA) (C := R_Mo) (T := F_Mo) (N := 21) hx hb hg f_Mo hown hK.1 hP 0 rfl rfl 2 (by decide) (hg _ q565) (fun _ h9 => h9) rfl d_Mo_source_22 ?_
    refine lv_iload_n hx hb d_Mo_source_25 rfl (lv_at hl 0 rfl) ?_
    refine xa_ld hx hb hK hP 1 0 rfl rfl (kx := q) (rfl) (by omega) (by decide) d_Mo_source_26 ?_
    have eq9 : (Po q : Int32) = P (4 * q) := hPo q
    refine W.eq (g2 := F0 m 27 ls [.int (P (4 * q))]) (by rw [eq9]) ?_
    refine lv_goto (tgt := 32) hx hb d_Mo_source_27 rfl ?_
    have eq9 : (P (4 * q) : Int32) = nI v := hv
    refine W.eq (g2 := F0 m 32 ls [.int (nI v)]) (by rw [eq9]) ?_
    refine lv_istore_n hx hb d_Mo_source_32 rfl hl (by decide) rfl (fun ls hl => ?_)
    have hl : lv_has ls 7 [(2, .int (nI v)), (1, .int (nI q)), (0, .ref m0)] := hl
    refine lv_iload_n hx hb d_Mo_source_33 rfl (lv_at hl 0 rfl) ?_
    refine lv_bipush (v := 13) hx hb d_Mo_source_34 (by decide) ?_
    refine lv_icmp_le (tgt := 43) hx hb d_Mo_source_36 rfl (fun _ => ?_) (fun hz9 => absurd (nI_le (a := v) (b := 13) (by omega) (by decide)) hz9)
    refine lv_aload_n hx hb d_Mo_source_43 rfl (lv_at hl 2 rfl) ?_
    refine va_get (D := D) (ci := 5) (v := .ref rA) (C := R_Mo) (T := F_Mo) (N := 21) hx hb hg f_Mo hown hK.1 hP 0 rfl rfl 13 (by decide) (hg _ q576) (fun _ h9 => h9) rfl d_Mo_source_44 ?_
    refine lv_aload_n hx hb d_Mo_source_47 rfl (lv_at hl 2 rfl) ?_
    refine va_get (D := D) (ci := 5) (v := .ref aA) (C := R_Mo) (T := F_Mo) (N := 21) hx hb hg f_Mo hown hK.1 hP 0 rfl rfl 3 (by decide) (hg _ q566) (fun _ h9 => h9) rfl d_Mo_source_48 ?_
    refine lv_iload_n hx hb d_Mo_source_51 rfl (lv_at hl 1 rfl) ?_
    refine xa_ld hx hb hK hP 2 0 rfl rfl (kx := q) (rfl) (by omega) (by decide) d_Mo_source_52 ?_
    have eq9 : (Pa q : Int32) = P (4 * q + 1) := hPa q
    refine W.eq (g2 := F0 m 53 ls [.int (P (4 * q + 1)), .ref rA]) (by rw [eq9]) ?_
    refine xa_ld hx hb hK hP 10 0 rfl rfl (kx := a) (ha) (by omega) (by decide) d_Mo_source_53 ?_
    have eq9 : ((tm_jn 8 R0 R1) a : Int32) = R0 a := tm_jn_lo (by omega)
    refine W.eq (g2 := F0 m 54 ls [.int (R0 a)]) (by rw [eq9]) ?_
    refine lv_istore_n hx hb d_Mo_source_54 rfl hl (by decide) rfl (fun ls hl => ?_)
    have hl : lv_has ls 7 [(3, .int (R0 a)), (2, .int (nI v)), (1, .int (nI q)), (0, .ref m0)] := hl
    refine lv_iload_n hx hb d_Mo_source_55 rfl (lv_at hl 1 rfl) ?_
    refine lv_bipush (v := 13) hx hb d_Mo_source_56 (by decide) ?_
    refine lv_icmp_le (tgt := 65) hx hb d_Mo_source_58 rfl (fun _ => ?_) (fun hz9 => absurd (nI_le (a := v) (b := 13) (by omega) (by decide)) hz9)
    refine lv_aload_n hx hb d_Mo_source_65 rfl (lv_at hl 3 rfl) ?_
    refine va_get (D := D) (ci := 5) (v := .ref rA) (C := R_Mo) (T := F_Mo) (N := 21) hx hb hg f_Mo hown hK.1 hP 0 rfl rfl 13 (by decide) (hg _ q576) (fun _ h9 => h9) rfl d_Mo_source_66 ?_
    refine lv_aload_n hx hb d_Mo_source_69 rfl (lv_at hl 3 rfl) ?_
    refine va_get (D := D) (ci := 5) (v := .ref bB) (C := R_Mo) (T := F_Mo) (N := 21) hx hb hg f_Mo hown hK.1 hP 0 rfl rfl 4 (by decide) (hg _ q567) (fun _ h9 => h9) rfl d_Mo_source_70 ?_
    refine lv_iload_n hx hb d_Mo_source_73 rfl (lv_at hl 2 rfl) ?_
    refine xa_ld hx hb hK hP 3 0 rfl rfl (kx := q) (rfl) (by omega) (by decide) d_Mo_source_74 ?_
    have eq9 : (Pb q : Int32) = P (4 * q + 2) := hPb q
    refine W.eq (g2 := F0 m 75 ls [.int (P (4 * q + 2)), .ref rA]) (by rw [eq9]) ?_
    refine xa_ld hx hb hK hP 10 0 rfl rfl (kx := b) (hbb) (by omega) (by decide) d_Mo_source_75 ?_
    have eq9 : ((tm_jn 8 R0 R1) b : Int32) = R0 b := tm_jn_lo (by omega)
    refine W.eq (g2 := F0 m 76 ls [.int (R0 b)]) (by rw [eq9]) ?_
    refine lv_istore hx hb d_Mo_source_76 hl (by decide) rfl (fun ls hl => ?_)
    have hl : lv_has ls 7 [(4, .int (R0 b)), (3, .int (R0 a)), (2, .int (nI v)), (1, .int (nI q)), (0, .ref m0)] := hl
    refine lv_iload_n hx hb d_Mo_source_78 rfl (lv_at hl 2 rfl) ?_
    refine lv_bipush (v := 13) hx hb d_Mo_source_79 (by decide) ?_
    refine lv_icmp_le (tgt := 88) hx hb d_Mo_source_81 rfl (fun _ => ?_) (fun hz9 => absurd (nI_le (a := v) (b := 13) (by omega) (by decide)) hz9)
    refine lv_iload hx hb d_Mo_source_88 (lv_at hl 0 rfl) ?_
    refine lv_aload_n hx hb d_Mo_source_90 rfl (lv_at hl 4 rfl) ?_
    refine va_get (D := D) (ci := 5) (v := .ref cC) (C := R_Mo) (T := F_Mo) (N := 21) hx hb hg f_Mo hown hK.1 hP 0 rfl rfl 5 (by decide) (hg _ q568) (fun _ h9 => h9) rfl d_Mo_source_91 ?_
    refine lv_iload_n hx hb d_Mo_source_94 rfl (lv_at hl 3 rfl) ?_
    refine xa_ld hx hb hK hP 4 0 rfl rfl (kx := q) (rfl) (by omega) (by decide) d_Mo_source_95 ?_
    have eq9 : (Pc q : Int32) = P (4 * q + 3) := hPc q
    refine W.eq (g2 := F0 m 96 ls [.int (P (4 * q + 3)), .int (R0 b)]) (by rw [eq9]) ?_
    refine lv_iadd hx hb d_Mo_source_96 ?_
    refine xr_S (As := [.int ((R0 b) + (P (4 * q + 3)))]) (rest := []) ⟨hx, hb, hml, hown, hg⟩ (c_Mo_round l D cI cZ cJ ((R0 b) + (P (4 * q + 3)))) m_Mo_round q725 ⟨rfl, rfl⟩ ⟨Nat.le_of_ble_eq_true rfl, Nat.le_of_ble_eq_true rfl⟩ hK hP [] rfl rfl hl.1 rfl (Nat.le_of_ble_eq_true rfl) d_Mo_source_97 ⟨Nat.zero_le _, Nat.zero_le _⟩ ?_
    refine lv_istore hx hb d_Mo_source_100 hl (by decide) rfl (fun ls hl => ?_)
    have hl : lv_has ls 7 [(5, .int (tm_wr ((R0 b) + (P (4 * q + 3))))), (4, .int (R0 b)), (3, .int (R0 a)), (2, .int (nI v)), (1, .int (nI q)), (0, .ref m0)] := hl
    refine lv_iload_n hx hb d_Mo_source_102 rfl (lv_at hl 3 rfl) ?_
    refine lv_bipush (v := 13) hx hb d_Mo_source_103 (by decide) ?_
    refine lv_icmp_gt (tgt := 131) hx hb d_Mo_source_105 rfl (fun hz9 => absurd hz9 (f13)) (fun _ => ?_)
    refine lv_iload_n hx hb d_Mo_source_108 rfl (lv_at hl 3 rfl) ?_
    refine lv_bipush (v := 7) hx hb d_Mo_source_109 (by decide) ?_
    refine lv_icmp_eq (tgt := 120) hx hb d_Mo_source_111 rfl (fun hz9 => absurd hz9 (ee7)) (fun _ => ?_)
    refine lv_iload_n hx hb d_Mo_source_114 rfl (lv_at hl 3 rfl) ?_
    refine lv_bipush (v := 8) hx hb d_Mo_source_115 (by decide) ?_
    refine lv_icmp_ne (tgt := 139) hx hb d_Mo_source_117 rfl (fun _ => ?_) (fun hz9 => absurd hz9 (ee8))
    refine lv_aload_n hx hb d_Mo_source_139 rfl (lv_at hl 5 rfl) ?_
    refine va_get (D := D) (ci := 5) (v := .ref dA) (C := R_Mo) (T := F_Mo) (N := 21) hx hb hg f_Mo hown hK.1 hP 0 rfl rfl 17 (by decide) (hg _ q580) (fun _ h9 => h9) rfl d_Mo_source_140 ?_
    refine lv_iconst (v := 0) hx hb d_Mo_source_143 (by decide) ?_
    refine lv_dup2_11 hx hb d_Mo_source_144 rfl rfl ?_
    refine xa_ld hx hb hK hP 14 0 rfl rfl (kx := 0) (rfl) (by decide) (by decide) d_Mo_source_145 ?_
    have eq9 : ((tm_tw d0 d1) 0 : Int32) = d0 := rfl
    refine W.eq (g2 := F0 m 146 ls [.int d0, .int 0, .ref dA]) (by rw [eq9]) ?_
    refine lv_iconst (v := 1) hx hb d_Mo_source_146 (by decide) ?_
    refine lv_iadd hx hb d_Mo_source_147 ?_
    refine xa_st hx hb hK hP hD hS 14 0 rfl rfl (kx := 0) (rfl) (by decide) (by decide) d_Mo_source_148 (fun H locs hP hD hS => ?_)
    have hP : va_P D cls [(m0, .inr (5, [.int th, .int (nI n), .ref oA, .ref aA, .ref bB, .ref cC, .int tl, .int (nI k), .ref gA, .ref zA, .ref bA, .ref sR, .ref sD, .ref rA, .ref eC, .ref eA, .ref pA, .ref dA, .ref kA, .ref acA, .int nx])), (oA, .inl (cI, 24, .inl Po)), (aA, .inl (cI, 24, .inl Pa)), (bB, .inl (cI, 24, .inl Pb)), (cC, .inl (cI, 24, .inl Pc)), (gA, .inl (cI, 1600, .inl G)), (zA, .inl (cZ, 400, .inl O)), (bA, .inl (cI, 25, .inl B)), (sR, .inl (cI, 8, .inl sr)), (sD, .inl (cI, 32, .inl sd)), (rA, .inl (cI, 16, .inl (tm_jn 8 R0 R1))), (eC, .inl (cI, 128, .inl (tm_jn 64 C0 C1))), (eA, .inl (cI, 2, .inl (tm_tw e0 e1))), (pA, .inl (cI, 2, .inl (tm_tw (nI q) h1))), (dA, .inl (cI, 2, .inl (upd (tm_tw d0 d1) 0 (d0 + 1)))), (kA, .inl (cI, 2, .inl (tm_tw (nI k0) (nI k1)))), (acA, .inl (cI, 240, .inl (tm_jn 120 A0 A1)))] H := hP
    have hD : va_D A [(m0, .inr (5, [.int th, .int (nI n), .ref oA, .ref aA, .ref bB, .ref cC, .int tl, .int (nI k), .ref gA, .ref zA, .ref bA, .ref sR, .ref sD, .ref rA, .ref eC, .ref eA, .ref pA, .ref dA, .ref kA, .ref acA, .int nx])), (oA, .inl (cI, 24, .inl Po)), (aA, .inl (cI, 24, .inl Pa)), (bB, .inl (cI, 24, .inl Pb)), (cC, .inl (cI, 24, .inl Pc)), (gA, .inl (cI, 1600, .inl G)), (zA, .inl (cZ, 400, .inl O)), (bA, .inl (cI, 25, .inl B)), (sR, .inl (cI, 8, .inl sr)), (sD, .inl (cI, 32, .inl sd)), (rA, .inl (cI, 16, .inl (tm_jn 8 R0 R1))), (eC, .inl (cI, 128, .inl (tm_jn 64 C0 C1))), (eA, .inl (cI, 2, .inl (tm_tw e0 e1))), (pA, .inl (cI, 2, .inl (tm_tw (nI q) h1))), (dA, .inl (cI, 2, .inl (upd (tm_tw d0 d1) 0 (d0 + 1)))), (kA, .inl (cI, 2, .inl (tm_tw (nI k0) (nI k1)))), (acA, .inl (cI, 240, .inl (tm_jn 120 A0 A1)))] := hD
    rw [tm_tw_0] at hP hD
    have hP : va_P D cls [(m0, .inr (5, [.int th, .int (nI n), .ref oA, .ref aA, .ref bB, .ref cC, .int tl, .int (nI k), .ref gA, .ref zA, .ref bA, .ref sR, .ref sD, .ref rA, .ref eC, .ref eA, .ref pA, .ref dA, .ref kA, .ref acA, .int nx])), (oA, .inl (cI, 24, .inl Po)), (aA, .inl (cI, 24, .inl Pa)), (bB, .inl (cI, 24, .inl Pb)), (cC, .inl (cI, 24, .inl Pc)), (gA, .inl (cI, 1600, .inl G)), (zA, .inl (cZ, 400, .inl O)), (bA, .inl (cI, 25, .inl B)), (sR, .inl (cI, 8, .inl sr)), (sD, .inl (cI, 32, .inl sd)), (rA, .inl (cI, 16, .inl (tm_jn 8 R0 R1))), (eC, .inl (cI, 128, .inl (tm_jn 64 C0 C1))), (eA, .inl (cI, 2, .inl (tm_tw e0 e1))), (pA, .inl (cI, 2, .inl (tm_tw (nI q) h1))), (dA, .inl (cI, 2, .inl (tm_tw (d0 + 1) d1))), (kA, .inl (cI, 2, .inl (tm_tw (nI k0) (nI k1)))), (acA, .inl (cI, 240, .inl (tm_jn 120 A0 A1)))] H := hP
    have hD : va_D A [(m0, .inr (5, [.int th, .int (nI n), .ref oA, .ref aA, .ref bB, .ref cC, .int tl, .int (nI k), .ref gA, .ref zA, .ref bA, .ref sR, .ref sD, .ref rA, .ref eC, .ref eA, .ref pA, .ref dA, .ref kA, .ref acA, .int nx])), (oA, .inl (cI, 24, .inl Po)), (aA, .inl (cI, 24, .inl Pa)), (bB, .inl (cI, 24, .inl Pb)), (cC, .inl (cI, 24, .inl Pc)), (gA, .inl (cI, 1600, .inl G)), (zA, .inl (cZ, 400, .inl O)), (bA, .inl (cI, 25, .inl B)), (sR, .inl (cI, 8, .inl sr)), (sD, .inl (cI, 32, .inl sd)), (rA, .inl (cI, 16, .inl (tm_jn 8 R0 R1))), (eC, .inl (cI, 128, .inl (tm_jn 64 C0 C1))), (eA, .inl (cI, 2, .inl (tm_tw e0 e1))), (pA, .inl (cI, 2, .inl (tm_tw (nI q) h1))), (dA, .inl (cI, 2, .inl (tm_tw (d0 + 1) d1))), (kA, .inl (cI, 2, .inl (tm_tw (nI k0) (nI k1)))), (acA, .inl (cI, 240, .inl (tm_jn 120 A0 A1)))] := hD
    refine lv_iload_n hx hb d_Mo_source_149 rfl (lv_at hl 3 rfl) ?_
    refine lv_if_ne (tgt := 161) hx hb d_Mo_source_150 rfl (fun _ => ?_) (fun hz9 => absurd hz9 (ee0))
    refine lv_aload_n hx hb d_Mo_source_161 rfl (lv_at hl 5 rfl) ?_
    refine va_get (D := D) (ci := 5) (v := .int nx) (C := R_Mo) (T := F_Mo) (N := 21) hx hb hg f_Mo hown hK.1 hP 0 rfl rfl 20 (by decide) (hg _ q583) (fun _ h9 => h9) rfl d_Mo_source_162 ?_
    refine lv_iconst (v := 1) hx hb d_Mo_source_165 (by decide) ?_
    refine lv_iadd hx hb d_Mo_source_166 ?_
    refine lv_istore hx hb d_Mo_source_167 hl (by decide) rfl (fun ls hl => ?_)
    have hl : lv_has ls 7 [(6, .int (nx + 1)), (5, .int (tm_wr ((R0 b) + (P (4 * q + 3))))), (4, .int (R0 b)), (3, .int (R0 a)), (2, .int (nI v)), (1, .int (nI q)), (0, .ref m0)] := hl
    refine lv_iload_n hx hb d_Mo_source_169 rfl (lv_at hl 4 rfl) ?_
    refine lv_iconst (v := 5) hx hb d_Mo_source_170 (by decide) ?_
    refine lv_icmp_gt (tgt := 222) hx hb d_Mo_source_171 rfl (fun _ => ?_) (fun hz9 => absurd (nI_lt (a := 5) (b := v) (by omega) (by omega)) hz9)
    refine lv_iload_n hx hb d_Mo_source_222 rfl (lv_at hl 4 rfl) ?_
    refine lv_bipush (v := 6) hx hb d_Mo_source_223 (by decide) ?_
    refine lv_icmp_ne (tgt := 255) hx hb d_Mo_source_225 rfl (fun _ => ?_) (fun hz9 => absurd hz9 (ee6))
    refine lv_iload_n hx hb d_Mo_source_255 rfl (lv_at hl 4 rfl) ?_
    refine lv_bipush (v := 7) hx hb d_Mo_source_256 (by decide) ?_
    refine lv_icmp_eq (tgt := 267) hx hb d_Mo_source_258 rfl (fun hz9 => absurd hz9 (ee7)) (fun _ => ?_)
    refine lv_iload_n hx hb d_Mo_source_261 rfl (lv_at hl 4 rfl) ?_
    refine lv_bipush (v := 8) hx hb d_Mo_source_262 (by decide) ?_
    refine lv_icmp_ne (tgt := 294) hx hb d_Mo_source_264 rfl (fun _ => ?_) (fun hz9 => absurd hz9 (ee8))
    refine lv_iload_n hx hb d_Mo_source_294 rfl (lv_at hl 4 rfl) ?_
    refine lv_bipush (v := 13) hx hb d_Mo_source_295 (by decide) ?_
    refine lv_icmp_ne (tgt := 306) hx hb d_Mo_source_297 rfl (fun _ => ?_) (fun hz9 => absurd hz9 (ee13))
    refine lv_iload_n hx hb d_Mo_source_306 rfl (lv_at hl 4 rfl) ?_
    refine lv_bipush (v := 11) hx hb d_Mo_source_307 (by decide) ?_
    refine lv_icmp_eq (tgt := 343) hx hb d_Mo_source_309 rfl (fun hz9 => absurd hz9 (ee11)) (fun _ => ?_)
    refine lv_iload_n hx hb d_Mo_source_312 rfl (lv_at hl 4 rfl) ?_
    refine lv_bipush (v := 12) hx hb d_Mo_source_313 (by decide) ?_
    refine lv_icmp_eq (tgt := 343) hx hb d_Mo_source_315 rfl (fun hz9 => absurd hz9 (ee12)) (fun _ => ?_)
    refine lv_iload_n hx hb d_Mo_source_318 rfl (lv_at hl 3 rfl) ?_
    refine lv_iload hx hb d_Mo_source_319 (lv_at hl 2 rfl) ?_
    refine lv_icmp_ne (tgt := 328) hx hb d_Mo_source_321 rfl (fun hab => ?_) (fun hab => ?_)
    · refine lv_iconst (v := 0) hx hb d_Mo_source_328 (by decide) ?_
      refine lv_iload_n hx hb d_Mo_source_329 rfl (lv_at hl 4 rfl) ?_
      refine lv_bipush (v := 9) hx hb d_Mo_source_330 (by decide) ?_
      refine lv_icmp_ne (tgt := 339) hx hb d_Mo_source_332 rfl (fun hz9 => absurd (ee9) hz9) (fun _ => ?_)
      refine lv_iconst (v := 1) hx hb d_Mo_source_335 (by decide) ?_
      refine lv_goto (tgt := 340) hx hb d_Mo_source_336 rfl ?_
      refine lv_icmp_ne (tgt := 350) hx hb d_Mo_source_340 rfl (fun _ => ?_) (fun hz9 => absurd hz9 (by decide))
      refine lv_iload_n hx hb d_Mo_source_350 rfl (lv_at hl 4 rfl) ?_
      refine lv_bipush (v := 12) hx hb d_Mo_source_351 (by decide) ?_
      refine lv_icmp_ne (tgt := 369) hx hb d_Mo_source_353 rfl (fun _ => ?_) (fun hz9 => absurd hz9 (ee12))
      refine lv_aload_n hx hb d_Mo_source_369 rfl (lv_at hl 6 rfl) ?_
      refine va_get (D := D) (ci := 5) (v := .ref rA) (C := R_Mo) (T := F_Mo) (N := 21) hx hb hg f_Mo hown hK.1 hP 0 rfl rfl 13 (by decide) (hg _ q576) (fun _ h9 => h9) rfl d_Mo_source_370 ?_
      refine lv_iconst (v := 0) hx hb d_Mo_source_373 (by decide) ?_
      refine lv_iconst (v := 0) hx hb d_Mo_source_374 (by decide) ?_
      refine xa_st hx hb hK hP hD hS 10 0 rfl rfl (kx := 0) (rfl) (by decide) (by decide) d_Mo_source_375 (fun H locs hP hD hS => ?_)
      have hP : va_P D cls [(m0, .inr (5, [.int th, .int (nI n), .ref oA, .ref aA, .ref bB, .ref cC, .int tl, .int (nI k), .ref gA, .ref zA, .ref bA, .ref sR, .ref sD, .ref rA, .ref eC, .ref eA, .ref pA, .ref dA, .ref kA, .ref acA, .int nx])), (oA, .inl (cI, 24, .inl Po)), (aA, .inl (cI, 24, .inl Pa)), (bB, .inl (cI, 24, .inl Pb)), (cC, .inl (cI, 24, .inl Pc)), (gA, .inl (cI, 1600, .inl G)), (zA, .inl (cZ, 400, .inl O)), (bA, .inl (cI, 25, .inl B)), (sR, .inl (cI, 8, .inl sr)), (sD, .inl (cI, 32, .inl sd)), (rA, .inl (cI, 16, .inl (upd (tm_jn 8 R0 R1) 0 0))), (eC, .inl (cI, 128, .inl (tm_jn 64 C0 C1))), (eA, .inl (cI, 2, .inl (tm_tw e0 e1))), (pA, .inl (cI, 2, .inl (tm_tw (nI q) h1))), (dA, .inl (cI, 2, .inl (tm_tw (d0 + 1) d1))), (kA, .inl (cI, 2, .inl (tm_tw (nI k0) (nI k1)))), (acA, .inl (cI, 240, .inl (tm_jn 120 A0 A1)))] H := hP
      have hD : va_D A [(m0, .inr (5, [.int th, .int (nI n), .ref oA, .ref aA, .ref bB, .ref cC, .int tl, .int (nI k), .ref gA, .ref zA, .ref bA, .ref sR, .ref sD, .ref rA, .ref eC, .ref eA, .ref pA, .ref dA, .ref kA, .ref acA, .int nx])), (oA, .inl (cI, 24, .inl Po)), (aA, .inl (cI, 24, .inl Pa)), (bB, .inl (cI, 24, .inl Pb)), (cC, .inl (cI, 24, .inl Pc)), (gA, .inl (cI, 1600, .inl G)), (zA, .inl (cZ, 400, .inl O)), (bA, .inl (cI, 25, .inl B)), (sR, .inl (cI, 8, .inl sr)), (sD, .inl (cI, 32, .inl sd)), (rA, .inl (cI, 16, .inl (upd (tm_jn 8 R0 R1) 0 0))), (eC, .inl (cI, 128, .inl (tm_jn 64 C0 C1))), (eA, .inl (cI, 2, .inl (tm_tw e0 e1))), (pA, .inl (cI, 2, .inl (tm_tw (nI q) h1))), (dA, .inl (cI, 2, .inl (tm_tw (d0 + 1) d1))), (kA, .inl (cI, 2, .inl (tm_tw (nI k0) (nI k1)))), (acA, .inl (cI, 240, .inl (tm_jn 120 A0 A1)))] := hD
      rw [tm_jn_ul (by omega)] at hP hD
      have hP : va_P D cls [(m0, .inr (5, [.int th, .int (nI n), .ref oA, .ref aA, .ref bB, .ref cC, .int tl, .int (nI k), .ref gA, .ref zA, .ref bA, .ref sR, .ref sD, .ref rA, .ref eC, .ref eA, .ref pA, .ref dA, .ref kA, .ref acA, .int nx])), (oA, .inl (cI, 24, .inl Po)), (aA, .inl (cI, 24, .inl Pa)), (bB, .inl (cI, 24, .inl Pb)), (cC, .inl (cI, 24, .inl Pc)), (gA, .inl (cI, 1600, .inl G)), (zA, .inl (cZ, 400, .inl O)), (bA, .inl (cI, 25, .inl B)), (sR, .inl (cI, 8, .inl sr)), (sD, .inl (cI, 32, .inl sd)), (rA, .inl (cI, 16, .inl (tm_jn 8 (upd R0 0 0) R1))), (eC, .inl (cI, 128, .inl (tm_jn 64 C0 C1))), (eA, .inl (cI, 2, .inl (tm_tw e0 e1))), (pA, .inl (cI, 2, .inl (tm_tw (nI q) h1))), (dA, .inl (cI, 2, .inl (tm_tw (d0 + 1) d1))), (kA, .inl (cI, 2, .inl (tm_tw (nI k0) (nI k1)))), (acA, .inl (cI, 240, .inl (tm_jn 120 A0 A1)))] H := hP
      have hD : va_D A [(m0, .inr (5, [.int th, .int (nI n), .ref oA, .ref aA, .ref bB, .ref cC, .int tl, .int (nI k), .ref gA, .ref zA, .ref bA, .ref sR, .ref sD, .ref rA, .ref eC, .ref eA, .ref pA, .ref dA, .ref kA, .ref acA, .int nx])), (oA, .inl (cI, 24, .inl Po)), (aA, .inl (cI, 24, .inl Pa)), (bB, .inl (cI, 24, .inl Pb)), (cC, .inl (cI, 24, .inl Pc)), (gA, .inl (cI, 1600, .inl G)), (zA, .inl (cZ, 400, .inl O)), (bA, .inl (cI, 25, .inl B)), (sR, .inl (cI, 8, .inl sr)), (sD, .inl (cI, 32, .inl sd)), (rA, .inl (cI, 16, .inl (tm_jn 8 (upd R0 0 0) R1))), (eC, .inl (cI, 128, .inl (tm_jn 64 C0 C1))), (eA, .inl (cI, 2, .inl (tm_tw e0 e1))), (pA, .inl (cI, 2, .inl (tm_tw (nI q) h1))), (dA, .inl (cI, 2, .inl (tm_tw (d0 + 1) d1))), (kA, .inl (cI, 2, .inl (tm_tw (nI k0) (nI k1)))), (acA, .inl (cI, 240, .inl (tm_jn 120 A0 A1)))] := hD
      refine lv_aload_n hx hb d_Mo_source_376 rfl (lv_at hl 6 rfl) ?_
      refine va_get (D := D) (ci := 5) (v := .ref pA) (C := R_Mo) (T := F_Mo) (N := 21) hx hb hg f_Mo hown hK.1 hP 0 rfl rfl 16 (by decide) (hg _ q579) (fun _ h9 => h9) rfl d_Mo_source_377 ?_
      refine lv_iconst (v := 0) hx hb d_Mo_source_380 (by decide) ?_
      refine lv_aload_n hx hb d_Mo_source_381 rfl (lv_at hl 6 rfl) ?_
      refine va_get (D := D) (ci := 5) (v := .int nx) (C := R_Mo) (T := F_Mo) (N := 21) hx hb hg f_Mo hown hK.1 hP 0 rfl rfl 20 (by decide) (hg _ q583) (fun _ h9 => h9) rfl d_Mo_source_382 ?_
      refine xa_st hx hb hK hP hD hS 13 0 rfl rfl (kx := 0) (rfl) (by decide) (by decide) d_Mo_source_385 (fun H locs hP hD hS => ?_)
      have hP : va_P D cls [(m0, .inr (5, [.int th, .int (nI n), .ref oA, .ref aA, .ref bB, .ref cC, .int tl, .int (nI k), .ref gA, .ref zA, .ref bA, .ref sR, .ref sD, .ref rA, .ref eC, .ref eA, .ref pA, .ref dA, .ref kA, .ref acA, .int nx])), (oA, .inl (cI, 24, .inl Po)), (aA, .inl (cI, 24, .inl Pa)), (bB, .inl (cI, 24, .inl Pb)), (cC, .inl (cI, 24, .inl Pc)), (gA, .inl (cI, 1600, .inl G)), (zA, .inl (cZ, 400, .inl O)), (bA, .inl (cI, 25, .inl B)), (sR, .inl (cI, 8, .inl sr)), (sD, .inl (cI, 32, .inl sd)), (rA, .inl (cI, 16, .inl (tm_jn 8 (upd R0 0 0) R1))), (eC, .inl (cI, 128, .inl (tm_jn 64 C0 C1))), (eA, .inl (cI, 2, .inl (tm_tw e0 e1))), (pA, .inl (cI, 2, .inl (upd (tm_tw (nI q) h1) 0 nx))), (dA, .inl (cI, 2, .inl (tm_tw (d0 + 1) d1))), (kA, .inl (cI, 2, .inl (tm_tw (nI k0) (nI k1)))), (acA, .inl (cI, 240, .inl (tm_jn 120 A0 A1)))] H := hP
      have hD : va_D A [(m0, .inr (5, [.int th, .int (nI n), .ref oA, .ref aA, .ref bB, .ref cC, .int tl, .int (nI k), .ref gA, .ref zA, .ref bA, .ref sR, .ref sD, .ref rA, .ref eC, .ref eA, .ref pA, .ref dA, .ref kA, .ref acA, .int nx])), (oA, .inl (cI, 24, .inl Po)), (aA, .inl (cI, 24, .inl Pa)), (bB, .inl (cI, 24, .inl Pb)), (cC, .inl (cI, 24, .inl Pc)), (gA, .inl (cI, 1600, .inl G)), (zA, .inl (cZ, 400, .inl O)), (bA, .inl (cI, 25, .inl B)), (sR, .inl (cI, 8, .inl sr)), (sD, .inl (cI, 32, .inl sd)), (rA, .inl (cI, 16, .inl (tm_jn 8 (upd R0 0 0) R1))), (eC, .inl (cI, 128, .inl (tm_jn 64 C0 C1))), (eA, .inl (cI, 2, .inl (tm_tw e0 e1))), (pA, .inl (cI, 2, .inl (upd (tm_tw (nI q) h1) 0 nx))), (dA, .inl (cI, 2, .inl (tm_tw (d0 + 1) d1))), (kA, .inl (cI, 2, .inl (tm_tw (nI k0) (nI k1)))), (acA, .inl (cI, 240, .inl (tm_jn 120 A0 A1)))] := hD
      rw [tm_tw_0] at hP hD
      have hP : va_P D cls [(m0, .inr (5, [.int th, .int (nI n), .ref oA, .ref aA, .ref bB, .ref cC, .int tl, .int (nI k), .ref gA, .ref zA, .ref bA, .ref sR, .ref sD, .ref rA, .ref eC, .ref eA, .ref pA, .ref dA, .ref kA, .ref acA, .int nx])), (oA, .inl (cI, 24, .inl Po)), (aA, .inl (cI, 24, .inl Pa)), (bB, .inl (cI, 24, .inl Pb)), (cC, .inl (cI, 24, .inl Pc)), (gA, .inl (cI, 1600, .inl G)), (zA, .inl (cZ, 400, .inl O)), (bA, .inl (cI, 25, .inl B)), (sR, .inl (cI, 8, .inl sr)), (sD, .inl (cI, 32, .inl sd)), (rA, .inl (cI, 16, .inl (tm_jn 8 (upd R0 0 0) R1))), (eC, .inl (cI, 128, .inl (tm_jn 64 C0 C1))), (eA, .inl (cI, 2, .inl (tm_tw e0 e1))), (pA, .inl (cI, 2, .inl (tm_tw nx h1))), (dA, .inl (cI, 2, .inl (tm_tw (d0 + 1) d1))), (kA, .inl (cI, 2, .inl (tm_tw (nI k0) (nI k1)))), (acA, .inl (cI, 240, .inl (tm_jn 120 A0 A1)))] H := hP
      have hD : va_D A [(m0, .inr (5, [.int th, .int (nI n), .ref oA, .ref aA, .ref bB, .ref cC, .int tl, .int (nI k), .ref gA, .ref zA, .ref bA, .ref sR, .ref sD, .ref rA, .ref eC, .ref eA, .ref pA, .ref dA, .ref kA, .ref acA, .int nx])), (oA, .inl (cI, 24, .inl Po)), (aA, .inl (cI, 24, .inl Pa)), (bB, .inl (cI, 24, .inl Pb)), (cC, .inl (cI, 24, .inl Pc)), (gA, .inl (cI, 1600, .inl G)), (zA, .inl (cZ, 400, .inl O)), (bA, .inl (cI, 25, .inl B)), (sR, .inl (cI, 8, .inl sr)), (sD, .inl (cI, 32, .inl sd)), (rA, .inl (cI, 16, .inl (tm_jn 8 (upd R0 0 0) R1))), (eC, .inl (cI, 128, .inl (tm_jn 64 C0 C1))), (eA, .inl (cI, 2, .inl (tm_tw e0 e1))), (pA, .inl (cI, 2, .inl (tm_tw nx h1))), (dA, .inl (cI, 2, .inl (tm_tw (d0 + 1) d1))), (kA, .inl (cI, 2, .inl (tm_tw (nI k0) (nI k1)))), (acA, .inl (cI, 240, .inl (tm_jn 120 A0 A1)))] := hD
      refine lv_aload_n hx hb d_Mo_source_386 rfl (lv_at hl 6 rfl) ?_
      refine lv_iload hx hb d_Mo_source_387 (lv_at hl 0 rfl) ?_
      refine va_put (D := D) (ci := 5) (v := .int (nx + 1)) (ty := .int) (C := R_Mo) (T := F_Mo) (N := 21) hx hb hg f_Mo t_Mo t_Mo_ok n_Mo hown hK.1 hP hD hS 0 rfl rfl 20 (by decide) (hg _ q583) (fun _ h9 => h9) rfl (by decide +kernel) rfl rfl (Nat.le_of_ble_eq_true rfl) d_Mo_source_389 (fun H locs hP hD hS => ?_)
      have hP : va_P D cls [(m0, .inr (5, [.int th, .int (nI n), .ref oA, .ref aA, .ref bB, .ref cC, .int tl, .int (nI k), .ref gA, .ref zA, .ref bA, .ref sR, .ref sD, .ref rA, .ref eC, .ref eA, .ref pA, .ref dA, .ref kA, .ref acA, .int (nx + 1)])), (oA, .inl (cI, 24, .inl Po)), (aA, .inl (cI, 24, .inl Pa)), (bB, .inl (cI, 24, .inl Pb)), (cC, .inl (cI, 24, .inl Pc)), (gA, .inl (cI, 1600, .inl G)), (zA, .inl (cZ, 400, .inl O)), (bA, .inl (cI, 25, .inl B)), (sR, .inl (cI, 8, .inl sr)), (sD, .inl (cI, 32, .inl sd)), (rA, .inl (cI, 16, .inl (tm_jn 8 (upd R0 0 0) R1))), (eC, .inl (cI, 128, .inl (tm_jn 64 C0 C1))), (eA, .inl (cI, 2, .inl (tm_tw e0 e1))), (pA, .inl (cI, 2, .inl (tm_tw nx h1))), (dA, .inl (cI, 2, .inl (tm_tw (d0 + 1) d1))), (kA, .inl (cI, 2, .inl (tm_tw (nI k0) (nI k1)))), (acA, .inl (cI, 240, .inl (tm_jn 120 A0 A1)))] H := hP
      have hD : va_D A [(m0, .inr (5, [.int th, .int (nI n), .ref oA, .ref aA, .ref bB, .ref cC, .int tl, .int (nI k), .ref gA, .ref zA, .ref bA, .ref sR, .ref sD, .ref rA, .ref eC, .ref eA, .ref pA, .ref dA, .ref kA, .ref acA, .int (nx + 1)])), (oA, .inl (cI, 24, .inl Po)), (aA, .inl (cI, 24, .inl Pa)), (bB, .inl (cI, 24, .inl Pb)), (cC, .inl (cI, 24, .inl Pc)), (gA, .inl (cI, 1600, .inl G)), (zA, .inl (cZ, 400, .inl O)), (bA, .inl (cI, 25, .inl B)), (sR, .inl (cI, 8, .inl sr)), (sD, .inl (cI, 32, .inl sd)), (rA, .inl (cI, 16, .inl (tm_jn 8 (upd R0 0 0) R1))), (eC, .inl (cI, 128, .inl (tm_jn 64 C0 C1))), (eA, .inl (cI, 2, .inl (tm_tw e0 e1))), (pA, .inl (cI, 2, .inl (tm_tw nx h1))), (dA, .inl (cI, 2, .inl (tm_tw (d0 + 1) d1))), (kA, .inl (cI, 2, .inl (tm_tw (nI k0) (nI k1)))), (acA, .inl (cI, 240, .inl (tm_jn 120 A0 A1)))] := hD
      have ew1 : nx + 1 = (tm_ss P q (R0, C0, A0, k0, nI q, d0, e0, nx)).2.2.2.2.2.2.2 := by simp [tm_ss, tm_sb, tm_ld, hv, ha, hbb, hc_a, hc_b, f13, ee0, ee5, ee6, ee7, ee8, ee9, ee10, ee11, ee12, ee13, f7, f9, f4, f10, hab]
      have ew2_0 : (upd R0 0 0) = ((tm_ss P q (R0, C0, A0, k0, nI q, d0, e0, nx)).1) := by rw [tm_upd0 hR0]; simp [tm_ss, hv, f13, ee0, ee5, ee6, ee7, ee8, ee9, ee10, ee11, ee12, ee13, f7, f9, f4, f10]
      have ew2 : tm_jn 8 (upd R0 0 0) R1 = tm_jn 8 ((tm_ss P q (R0, C0, A0, k0, nI q, d0, e0, nx)).1) R1 := congr (congrArg (tm_jn 8) ew2_0) rfl
      have ew3_0 : C0 = ((tm_ss P q (R0, C0, A0, k0, nI q, d0, e0, nx)).2.1) := by first | rfl | (simp [tm_ss, hv, f13, ee0, ee5, ee6, ee7, ee8, ee9, ee10, ee11, ee12, ee13, f7, f9, f4, f10, hab]; done)
      have ew3 : tm_jn 64 C0 C1 = tm_jn 64 ((tm_ss P q (R0, C0, A0, k0, nI q, d0, e0, nx)).2.1) C1 := congr (congrArg (tm_jn 64) ew3_0) rfl
      have ew4_0 : e0 = ((tm_ss P q (R0, C0, A0, k0, nI q, d0, e0, nx)).2.2.2.2.2.2.1) := by first | rfl | (simp [tm_ss, hv, f13, ee0, ee5, ee6, ee7, ee8, ee9, ee10, ee11, ee12, ee13, f7, f9, f4, f10, hab]; done)
      have ew4 : tm_tw e0 e1 = tm_tw ((tm_ss P q (R0, C0, A0, k0, nI q, d0, e0, nx)).2.2.2.2.2.2.1) e1 := congr (congrArg (tm_tw) ew4_0) rfl
      have ew5_0 : nx = ((tm_ss P q (R0, C0, A0, k0, nI q, d0, e0, nx)).2.2.2.2.1) := by first | rfl | (simp [tm_ss, hv, f13, ee0, ee5, ee6, ee7, ee8, ee9, ee10, ee11, ee12, ee13, f7, f9, f4, f10, hab]; done)
      have ew5 : tm_tw nx h1 = tm_tw ((tm_ss P q (R0, C0, A0, k0, nI q, d0, e0, nx)).2.2.2.2.1) h1 := congr (congrArg (tm_tw) ew5_0) rfl
      have ew6_0 : (d0 + 1) = ((tm_ss P q (R0, C0, A0, k0, nI q, d0, e0, nx)).2.2.2.2.2.1) := by first | rfl | (simp [tm_ss, hv, f13, ee0, ee5, ee6, ee7, ee8, ee9, ee10, ee11, ee12, ee13, f7, f9, f4, f10, hab]; done)
      have ew6 : tm_tw (d0 + 1) d1 = tm_tw ((tm_ss P q (R0, C0, A0, k0, nI q, d0, e0, nx)).2.2.2.2.2.1) d1 := congr (congrArg (tm_tw) ew6_0) rfl
      have ew7_0 : (nI k0) = (nI (tm_ss P q (R0, C0, A0, k0, nI q, d0, e0, nx)).2.2.2.1) := congrArg nI (by first | (simp [tm_ss, hv, f13, ee0, ee5, ee6, ee7, ee8, ee9, ee10, ee11, ee12, ee13, f7, f9, f4, f10, hab]; done) | (simp [tm_ss, hv, f13, ee0, ee5, ee6, ee7, ee8, ee9, ee10, ee11, ee12, ee13, f7, f9, f4, f10, hab]; omega) | omega)
      have ew7 : tm_tw (nI k0) (nI k1) = tm_tw (nI (tm_ss P q (R0, C0, A0, k0, nI q, d0, e0, nx)).2.2.2.1) (nI k1) := congr (congrArg (tm_tw) ew7_0) rfl
      have ew8_0 : A0 = ((tm_ss P q (R0, C0, A0, k0, nI q, d0, e0, nx)).2.2.1) := by first | rfl | (simp [tm_ss, hv, f13, ee0, ee5, ee6, ee7, ee8, ee9, ee10, ee11, ee12, ee13, f7, f9, f4, f10, hab]; done)
      have ew8 : tm_jn 120 A0 A1 = tm_jn 120 ((tm_ss P q (R0, C0, A0, k0, nI q, d0, e0, nx)).2.2.1) A1 := congr (congrArg (tm_jn 120) ew8_0) rfl
      have hP : va_P D cls [(m0, .inr (5, [.int th, .int (nI n), .ref oA, .ref aA, .ref bB, .ref cC, .int tl, .int (nI k), .ref gA, .ref zA, .ref bA, .ref sR, .ref sD, .ref rA, .ref eC, .ref eA, .ref pA, .ref dA, .ref kA, .ref acA, .int ((tm_ss P q (R0, C0, A0, k0, nI q, d0, e0, nx)).2.2.2.2.2.2.2)])), (oA, .inl (cI, 24, .inl Po)), (aA, .inl (cI, 24, .inl Pa)), (bB, .inl (cI, 24, .inl Pb)), (cC, .inl (cI, 24, .inl Pc)), (gA, .inl (cI, 1600, .inl G)), (zA, .inl (cZ, 400, .inl O)), (bA, .inl (cI, 25, .inl B)), (sR, .inl (cI, 8, .inl sr)), (sD, .inl (cI, 32, .inl sd)), (rA, .inl (cI, 16, .inl (tm_jn 8 ((tm_ss P q (R0, C0, A0, k0, nI q, d0, e0, nx)).1) R1))), (eC, .inl (cI, 128, .inl (tm_jn 64 ((tm_ss P q (R0, C0, A0, k0, nI q, d0, e0, nx)).2.1) C1))), (eA, .inl (cI, 2, .inl (tm_tw ((tm_ss P q (R0, C0, A0, k0, nI q, d0, e0, nx)).2.2.2.2.2.2.1) e1))), (pA, .inl (cI, 2, .inl (tm_tw ((tm_ss P q (R0, C0, A0, k0, nI q, d0, e0, nx)).2.2.2.2.1) h1))), (dA, .inl (cI, 2, .inl (tm_tw ((tm_ss P q (R0, C0, A0, k0, nI q, d0, e0, nx)).2.2.2.2.2.1) d1))), (kA, .inl (cI, 2, .inl (tm_tw (nI (tm_ss P q (R0, C0, A0, k0, nI q, d0, e0, nx)).2.2.2.1) (nI k1)))), (acA, .inl (cI, 240, .inl (tm_jn 120 ((tm_ss P q (R0, C0, A0, k0, nI q, d0, e0, nx)).2.2.1) A1)))] H := by rw [← ew1, ← ew2, ← ew3, ← ew4, ← ew5, ← ew6, ← ew7, ← ew8]; exact hP
      have hD : va_D A [(m0, .inr (5, [.int th, .int (nI n), .ref oA, .ref aA, .ref bB, .ref cC, .int tl, .int (nI k), .ref gA, .ref zA, .ref bA, .ref sR, .ref sD, .ref rA, .ref eC, .ref eA, .ref pA, .ref dA, .ref kA, .ref acA, .int ((tm_ss P q (R0, C0, A0, k0, nI q, d0, e0, nx)).2.2.2.2.2.2.2)])), (oA, .inl (cI, 24, .inl Po)), (aA, .inl (cI, 24, .inl Pa)), (bB, .inl (cI, 24, .inl Pb)), (cC, .inl (cI, 24, .inl Pc)), (gA, .inl (cI, 1600, .inl G)), (zA, .inl (cZ, 400, .inl O)), (bA, .inl (cI, 25, .inl B)), (sR, .inl (cI, 8, .inl sr)), (sD, .inl (cI, 32, .inl sd)), (rA, .inl (cI, 16, .inl (tm_jn 8 ((tm_ss P q (R0, C0, A0, k0, nI q, d0, e0, nx)).1) R1))), (eC, .inl (cI, 128, .inl (tm_jn 64 ((tm_ss P q (R0, C0, A0, k0, nI q, d0, e0, nx)).2.1) C1))), (eA, .inl (cI, 2, .inl (tm_tw ((tm_ss P q (R0, C0, A0, k0, nI q, d0, e0, nx)).2.2.2.2.2.2.1) e1))), (pA, .inl (cI, 2, .inl (tm_tw ((tm_ss P q (R0, C0, A0, k0, nI q, d0, e0, nx)).2.2.2.2.1) h1))), (dA, .inl (cI, 2, .inl (tm_tw ((tm_ss P q (R0, C0, A0, k0, nI q, d0, e0, nx)).2.2.2.2.2.1) d1))), (kA, .inl (cI, 2, .inl (tm_tw (nI (tm_ss P q (R0, C0, A0, k0, nI q, d0, e0, nx)).2.2.2.1) (nI k1)))), (acA, .inl (cI, 240, .inl (tm_jn 120 ((tm_ss P q (R0, C0, A0, k0, nI q, d0, e0, nx)).2.2.1) A1)))] := by rw [← ew1, ← ew2, ← ew3, ← ew4, ← ew5, ← ew6, ← ew7, ← ew8]; exact hD
      exact W.vret hx hb hr (fun t9 ht9 hW9 => ⟨⟨(), rfl, trivial, by rw [ht9]; exact hP, hD⟩, hS.F ht9⟩) hS.2.2 d_Mo_source_392
    · refine lv_iconst (v := 1) hx hb d_Mo_source_324 (by decide) ?_
      refine lv_goto (tgt := 329) hx hb d_Mo_source_325 rfl ?_
      refine lv_iload_n hx hb d_Mo_source_329 rfl (lv_at hl 4 rfl) ?_
      refine lv_bipush (v := 9) hx hb d_Mo_source_330 (by decide) ?_
      refine lv_icmp_ne (tgt := 339) hx hb d_Mo_source_332 rfl (fun hz9 => absurd (ee9) hz9) (fun _ => ?_)
      refine lv_iconst (v := 1) hx hb d_Mo_source_335 (by decide) ?_
      refine lv_goto (tgt := 340) hx hb d_Mo_source_336 rfl ?_
      refine lv_icmp_ne (tgt := 350) hx hb d_Mo_source_340 rfl (fun hz9 => absurd (by decide) hz9) (fun _ => ?_)
      refine lv_aload_n hx hb d_Mo_source_343 rfl (lv_at hl 6 rfl) ?_
      refine lv_iload_n hx hb d_Mo_source_344 rfl (lv_at hl 5 rfl) ?_
      refine xr_V (C := R_Mo) (As := [.int (nI q)]) (rest := []) ⟨hx, hb, hml, hown, hg⟩ (c_Mo_goal l D cI cZ cJ m0 oA aA bB cC gA zA bA sR sD rA eC eA pA dA kA acA Po Pa Pb Pc G O B sr sd (tm_jn 8 R0 R1) (tm_jn 64 C0 C1) (tm_tw e0 e1) (tm_tw (nI q) h1) (tm_tw (d0 + 1) d1) (tm_tw (nI k0) (nI k1)) (tm_jn 120 A0 A1) n k th tl nx P q v (hPo) (hPa) (hPb) (hPc) (by omega) (by omega) (hv) (by omega) (by omega)) m_Mo_goal q658 sp_Mo_goal ⟨rfl, rfl⟩ ⟨Nat.le_of_ble_eq_true rfl, Nat.le_of_ble_eq_true rfl⟩ hK hP [0, 1, 2, 3, 4, 5, 6, 7, 8, 9, 10, 11, 12, 13, 14, 15, 16] rfl (va_recv (q0 := 0) hK.1 hP rfl rfl) rfl hl.1 rfl (Nat.le_of_ble_eq_true rfl) d_Mo_source_345 ⟨Nat.zero_le _, Nat.zero_le _⟩ ?_
      refine lv_istore hx hb d_Mo_source_348 hl (by decide) rfl (fun ls hl => ?_)
      have hl : lv_has ls 7 [(6, .int (tm_ld P q)), (5, .int (tm_wr ((R0 b) + (P (4 * q + 3))))), (4, .int (R0 b)), (3, .int (R0 a)), (2, .int (nI v)), (1, .int (nI q)), (0, .ref m0)] := hl
      refine lv_iload_n hx hb d_Mo_source_350 rfl (lv_at hl 4 rfl) ?_
      refine lv_bipush (v := 12) hx hb d_Mo_source_351 (by decide) ?_
      refine lv_icmp_ne (tgt := 369) hx hb d_Mo_source_353 rfl (fun _ => ?_) (fun hz9 => absurd hz9 (ee12))
      refine lv_aload_n hx hb d_Mo_source_369 rfl (lv_at hl 6 rfl) ?_
      refine va_get (D := D) (ci := 5) (v := .ref rA) (C := R_Mo) (T := F_Mo) (N := 21) hx hb hg f_Mo hown hK.1 hP 0 rfl rfl 13 (by decide) (hg _ q576) (fun _ h9 => h9) rfl d_Mo_source_370 ?_
      refine lv_iconst (v := 0) hx hb d_Mo_source_373 (by decide) ?_
      refine lv_iconst (v := 0) hx hb d_Mo_source_374 (by decide) ?_
      refine xa_st hx hb hK hP hD hS 10 0 rfl rfl (kx := 0) (rfl) (by decide) (by decide) d_Mo_source_375 (fun H locs hP hD hS => ?_)
      have hP : va_P D cls [(m0, .inr (5, [.int th, .int (nI n), .ref oA, .ref aA, .ref bB, .ref cC, .int tl, .int (nI k), .ref gA, .ref zA, .ref bA, .ref sR, .ref sD, .ref rA, .ref eC, .ref eA, .ref pA, .ref dA, .ref kA, .ref acA, .int nx])), (oA, .inl (cI, 24, .inl Po)), (aA, .inl (cI, 24, .inl Pa)), (bB, .inl (cI, 24, .inl Pb)), (cC, .inl (cI, 24, .inl Pc)), (gA, .inl (cI, 1600, .inl G)), (zA, .inl (cZ, 400, .inl O)), (bA, .inl (cI, 25, .inl B)), (sR, .inl (cI, 8, .inl sr)), (sD, .inl (cI, 32, .inl sd)), (rA, .inl (cI, 16, .inl (upd (tm_jn 8 R0 R1) 0 0))), (eC, .inl (cI, 128, .inl (tm_jn 64 C0 C1))), (eA, .inl (cI, 2, .inl (tm_tw e0 e1))), (pA, .inl (cI, 2, .inl (tm_tw (nI q) h1))), (dA, .inl (cI, 2, .inl (tm_tw (d0 + 1) d1))), (kA, .inl (cI, 2, .inl (tm_tw (nI k0) (nI k1)))), (acA, .inl (cI, 240, .inl (tm_jn 120 A0 A1)))] H := hP
      have hD : va_D A [(m0, .inr (5, [.int th, .int (nI n), .ref oA, .ref aA, .ref bB, .ref cC, .int tl, .int (nI k), .ref gA, .ref zA, .ref bA, .ref sR, .ref sD, .ref rA, .ref eC, .ref eA, .ref pA, .ref dA, .ref kA, .ref acA, .int nx])), (oA, .inl (cI, 24, .inl Po)), (aA, .inl (cI, 24, .inl Pa)), (bB, .inl (cI, 24, .inl Pb)), (cC, .inl (cI, 24, .inl Pc)), (gA, .inl (cI, 1600, .inl G)), (zA, .inl (cZ, 400, .inl O)), (bA, .inl (cI, 25, .inl B)), (sR, .inl (cI, 8, .inl sr)), (sD, .inl (cI, 32, .inl sd)), (rA, .inl (cI, 16, .inl (upd (tm_jn 8 R0 R1) 0 0))), (eC, .inl (cI, 128, .inl (tm_jn 64 C0 C1))), (eA, .inl (cI, 2, .inl (tm_tw e0 e1))), (pA, .inl (cI, 2, .inl (tm_tw (nI q) h1))), (dA, .inl (cI, 2, .inl (tm_tw (d0 + 1) d1))), (kA, .inl (cI, 2, .inl (tm_tw (nI k0) (nI k1)))), (acA, .inl (cI, 240, .inl (tm_jn 120 A0 A1)))] := hD
      rw [tm_jn_ul (by omega)] at hP hD
      have hP : va_P D cls [(m0, .inr (5, [.int th, .int (nI n), .ref oA, .ref aA, .ref bB, .ref cC, .int tl, .int (nI k), .ref gA, .ref zA, .ref bA, .ref sR, .ref sD, .ref rA, .ref eC, .ref eA, .ref pA, .ref dA, .ref kA, .ref acA, .int nx])), (oA, .inl (cI, 24, .inl Po)), (aA, .inl (cI, 24, .inl Pa)), (bB, .inl (cI, 24, .inl Pb)), (cC, .inl (cI, 24, .inl Pc)), (gA, .inl (cI, 1600, .inl G)), (zA, .inl (cZ, 400, .inl O)), (bA, .inl (cI, 25, .inl B)), (sR, .inl (cI, 8, .inl sr)), (sD, .inl (cI, 32, .inl sd)), (rA, .inl (cI, 16, .inl (tm_jn 8 (upd R0 0 0) R1))), (eC, .inl (cI, 128, .inl (tm_jn 64 C0 C1))), (eA, .inl (cI, 2, .inl (tm_tw e0 e1))), (pA, .inl (cI, 2, .inl (tm_tw (nI q) h1))), (dA, .inl (cI, 2, .inl (tm_tw (d0 + 1) d1))), (kA, .inl (cI, 2, .inl (tm_tw (nI k0) (nI k1)))), (acA, .inl (cI, 240, .inl (tm_jn 120 A0 A1)))] H := hP
      have hD : va_D A [(m0, .inr (5, [.int th, .int (nI n), .ref oA, .ref aA, .ref bB, .ref cC, .int tl, .int (nI k), .ref gA, .ref zA, .ref bA, .ref sR, .ref sD, .ref rA, .ref eC, .ref eA, .ref pA, .ref dA, .ref kA, .ref acA, .int nx])), (oA, .inl (cI, 24, .inl Po)), (aA, .inl (cI, 24, .inl Pa)), (bB, .inl (cI, 24, .inl Pb)), (cC, .inl (cI, 24, .inl Pc)), (gA, .inl (cI, 1600, .inl G)), (zA, .inl (cZ, 400, .inl O)), (bA, .inl (cI, 25, .inl B)), (sR, .inl (cI, 8, .inl sr)), (sD, .inl (cI, 32, .inl sd)), (rA, .inl (cI, 16, .inl (tm_jn 8 (upd R0 0 0) R1))), (eC, .inl (cI, 128, .inl (tm_jn 64 C0 C1))), (eA, .inl (cI, 2, .inl (tm_tw e0 e1))), (pA, .inl (cI, 2, .inl (tm_tw (nI q) h1))), (dA, .inl (cI, 2, .inl (tm_tw (d0 + 1) d1))), (kA, .inl (cI, 2, .inl (tm_tw (nI k0) (nI k1)))), (acA, .inl (cI, 240, .inl (tm_jn 120 A0 A1)))] := hD
      refine lv_aload_n hx hb d_Mo_source_376 rfl (lv_at hl 6 rfl) ?_
      refine va_get (D := D) (ci := 5) (v := .ref pA) (C := R_Mo) (T := F_Mo) (N := 21) hx hb hg f_Mo hown hK.1 hP 0 rfl rfl 16 (by decide) (hg _ q579) (fun _ h9 => h9) rfl d_Mo_source_377 ?_
      refine lv_iconst (v := 0) hx hb d_Mo_source_380 (by decide) ?_
      refine lv_aload_n hx hb d_Mo_source_381 rfl (lv_at hl 6 rfl) ?_
      refine va_get (D := D) (ci := 5) (v := .int nx) (C := R_Mo) (T := F_Mo) (N := 21) hx hb hg f_Mo hown hK.1 hP 0 rfl rfl 20 (by decide) (hg _ q583) (fun _ h9 => h9) rfl d_Mo_source_382 ?_
      refine xa_st hx hb hK hP hD hS 13 0 rfl rfl (kx := 0) (rfl) (by decide) (by decide) d_Mo_source_385 (fun H locs hP hD hS => ?_)
      have hP : va_P D cls [(m0, .inr (5, [.int th, .int (nI n), .ref oA, .ref aA, .ref bB, .ref cC, .int tl, .int (nI k), .ref gA, .ref zA, .ref bA, .ref sR, .ref sD, .ref rA, .ref eC, .ref eA, .ref pA, .ref dA, .ref kA, .ref acA, .int nx])), (oA, .inl (cI, 24, .inl Po)), (aA, .inl (cI, 24, .inl Pa)), (bB, .inl (cI, 24, .inl Pb)), (cC, .inl (cI, 24, .inl Pc)), (gA, .inl (cI, 1600, .inl G)), (zA, .inl (cZ, 400, .inl O)), (bA, .inl (cI, 25, .inl B)), (sR, .inl (cI, 8, .inl sr)), (sD, .inl (cI, 32, .inl sd)), (rA, .inl (cI, 16, .inl (tm_jn 8 (upd R0 0 0) R1))), (eC, .inl (cI, 128, .inl (tm_jn 64 C0 C1))), (eA, .inl (cI, 2, .inl (tm_tw e0 e1))), (pA, .inl (cI, 2, .inl (upd (tm_tw (nI q) h1) 0 nx))), (dA, .inl (cI, 2, .inl (tm_tw (d0 + 1) d1))), (kA, .inl (cI, 2, .inl (tm_tw (nI k0) (nI k1)))), (acA, .inl (cI, 240, .inl (tm_jn 120 A0 A1)))] H := hP
      have hD : va_D A [(m0, .inr (5, [.int th, .int (nI n), .ref oA, .ref aA, .ref bB, .ref cC, .int tl, .int (nI k), .ref gA, .ref zA, .ref bA, .ref sR, .ref sD, .ref rA, .ref eC, .ref eA, .ref pA, .ref dA, .ref kA, .ref acA, .int nx])), (oA, .inl (cI, 24, .inl Po)), (aA, .inl (cI, 24, .inl Pa)), (bB, .inl (cI, 24, .inl Pb)), (cC, .inl (cI, 24, .inl Pc)), (gA, .inl (cI, 1600, .inl G)), (zA, .inl (cZ, 400, .inl O)), (bA, .inl (cI, 25, .inl B)), (sR, .inl (cI, 8, .inl sr)), (sD, .inl (cI, 32, .inl sd)), (rA, .inl (cI, 16, .inl (tm_jn 8 (upd R0 0 0) R1))), (eC, .inl (cI, 128, .inl (tm_jn 64 C0 C1))), (eA, .inl (cI, 2, .inl (tm_tw e0 e1))), (pA, .inl (cI, 2, .inl (upd (tm_tw (nI q) h1) 0 nx))), (dA, .inl (cI, 2, .inl (tm_tw (d0 + 1) d1))), (kA, .inl (cI, 2, .inl (tm_tw (nI k0) (nI k1)))), (acA, .inl (cI, 240, .inl (tm_jn 120 A0 A1)))] := hD
      rw [tm_tw_0] at hP hD
      have hP : va_P D cls [(m0, .inr (5, [.int th, .int (nI n), .ref oA, .ref aA, .ref bB, .ref cC, .int tl, .int (nI k), .ref gA, .ref zA, .ref bA, .ref sR, .ref sD, .ref rA, .ref eC, .ref eA, .ref pA, .ref dA, .ref kA, .ref acA, .int nx])), (oA, .inl (cI, 24, .inl Po)), (aA, .inl (cI, 24, .inl Pa)), (bB, .inl (cI, 24, .inl Pb)), (cC, .inl (cI, 24, .inl Pc)), (gA, .inl (cI, 1600, .inl G)), (zA, .inl (cZ, 400, .inl O)), (bA, .inl (cI, 25, .inl B)), (sR, .inl (cI, 8, .inl sr)), (sD, .inl (cI, 32, .inl sd)), (rA, .inl (cI, 16, .inl (tm_jn 8 (upd R0 0 0) R1))), (eC, .inl (cI, 128, .inl (tm_jn 64 C0 C1))), (eA, .inl (cI, 2, .inl (tm_tw e0 e1))), (pA, .inl (cI, 2, .inl (tm_tw nx h1))), (dA, .inl (cI, 2, .inl (tm_tw (d0 + 1) d1))), (kA, .inl (cI, 2, .inl (tm_tw (nI k0) (nI k1)))), (acA, .inl (cI, 240, .inl (tm_jn 120 A0 A1)))] H := hP
      have hD : va_D A [(m0, .inr (5, [.int th, .int (nI n), .ref oA, .ref aA, .ref bB, .ref cC, .int tl, .int (nI k), .ref gA, .ref zA, .ref bA, .ref sR, .ref sD, .ref rA, .ref eC, .ref eA, .ref pA, .ref dA, .ref kA, .ref acA, .int nx])), (oA, .inl (cI, 24, .inl Po)), (aA, .inl (cI, 24, .inl Pa)), (bB, .inl (cI, 24, .inl Pb)), (cC, .inl (cI, 24, .inl Pc)), (gA, .inl (cI, 1600, .inl G)), (zA, .inl (cZ, 400, .inl O)), (bA, .inl (cI, 25, .inl B)), (sR, .inl (cI, 8, .inl sr)), (sD, .inl (cI, 32, .inl sd)), (rA, .inl (cI, 16, .inl (tm_jn 8 (upd R0 0 0) R1))), (eC, .inl (cI, 128, .inl (tm_jn 64 C0 C1))), (eA, .inl (cI, 2, .inl (tm_tw e0 e1))), (pA, .inl (cI, 2, .inl (tm_tw nx h1))), (dA, .inl (cI, 2, .inl (tm_tw (d0 + 1) d1))), (kA, .inl (cI, 2, .inl (tm_tw (nI k0) (nI k1)))), (acA, .inl (cI, 240, .inl (tm_jn 120 A0 A1)))] := hD
      refine lv_aload_n hx hb d_Mo_source_386 rfl (lv_at hl 6 rfl) ?_
      refine lv_iload hx hb d_Mo_source_387 (lv_at hl 0 rfl) ?_
      refine va_put (D := D) (ci := 5) (v := .int (tm_ld P q)) (ty := .int) (C := R_Mo) (T := F_Mo) (N := 21) hx hb hg f_Mo t_Mo t_Mo_ok n_Mo hown hK.1 hP hD hS 0 rfl rfl 20 (by decide) (hg _ q583) (fun _ h9 => h9) rfl (by decide +kernel) rfl rfl (Nat.le_of_ble_eq_true rfl) d_Mo_source_389 (fun H locs hP hD hS => ?_)
      have hP : va_P D cls [(m0, .inr (5, [.int th, .int (nI n), .ref oA, .ref aA, .ref bB, .ref cC, .int tl, .int (nI k), .ref gA, .ref zA, .ref bA, .ref sR, .ref sD, .ref rA, .ref eC, .ref eA, .ref pA, .ref dA, .ref kA, .ref acA, .int (tm_ld P q)])), (oA, .inl (cI, 24, .inl Po)), (aA, .inl (cI, 24, .inl Pa)), (bB, .inl (cI, 24, .inl Pb)), (cC, .inl (cI, 24, .inl Pc)), (gA, .inl (cI, 1600, .inl G)), (zA, .inl (cZ, 400, .inl O)), (bA, .inl (cI, 25, .inl B)), (sR, .inl (cI, 8, .inl sr)), (sD, .inl (cI, 32, .inl sd)), (rA, .inl (cI, 16, .inl (tm_jn 8 (upd R0 0 0) R1))), (eC, .inl (cI, 128, .inl (tm_jn 64 C0 C1))), (eA, .inl (cI, 2, .inl (tm_tw e0 e1))), (pA, .inl (cI, 2, .inl (tm_tw nx h1))), (dA, .inl (cI, 2, .inl (tm_tw (d0 + 1) d1))), (kA, .inl (cI, 2, .inl (tm_tw (nI k0) (nI k1)))), (acA, .inl (cI, 240, .inl (tm_jn 120 A0 A1)))] H := hP
      have hD : va_D A [(m0, .inr (5, [.int th, .int (nI n), .ref oA, .ref aA, .ref bB, .ref cC, .int tl, .int (nI k), .ref gA, .ref zA, .ref bA, .ref sR, .ref sD, .ref rA, .ref eC, .ref eA, .ref pA, .ref dA, .ref kA, .ref acA, .int (tm_ld P q)])), (oA, .inl (cI, 24, .inl Po)), (aA, .inl (cI, 24, .inl Pa)), (bB, .inl (cI, 24, .inl Pb)), (cC, .inl (cI, 24, .inl Pc)), (gA, .inl (cI, 1600, .inl G)), (zA, .inl (cZ, 400, .inl O)), (bA, .inl (cI, 25, .inl B)), (sR, .inl (cI, 8, .inl sr)), (sD, .inl (cI, 32, .inl sd)), (rA, .inl (cI, 16, .inl (tm_jn 8 (upd R0 0 0) R1))), (eC, .inl (cI, 128, .inl (tm_jn 64 C0 C1))), (eA, .inl (cI, 2, .inl (tm_tw e0 e1))), (pA, .inl (cI, 2, .inl (tm_tw nx h1))), (dA, .inl (cI, 2, .inl (tm_tw (d0 + 1) d1))), (kA, .inl (cI, 2, .inl (tm_tw (nI k0) (nI k1)))), (acA, .inl (cI, 240, .inl (tm_jn 120 A0 A1)))] := hD
      have ew1 : tm_ld P q = (tm_ss P q (R0, C0, A0, k0, nI q, d0, e0, nx)).2.2.2.2.2.2.2 := by simp [tm_ss, tm_sb, tm_ld, hv, ha, hbb, hc_a, hc_b, f13, ee0, ee5, ee6, ee7, ee8, ee9, ee10, ee11, ee12, ee13, f7, f9, f4, f10, hab]
      have ew2_0 : (upd R0 0 0) = ((tm_ss P q (R0, C0, A0, k0, nI q, d0, e0, nx)).1) := by rw [tm_upd0 hR0]; simp [tm_ss, hv, f13, ee0, ee5, ee6, ee7, ee8, ee9, ee10, ee11, ee12, ee13, f7, f9, f4, f10]
      have ew2 : tm_jn 8 (upd R0 0 0) R1 = tm_jn 8 ((tm_ss P q (R0, C0, A0, k0, nI q, d0, e0, nx)).1) R1 := congr (congrArg (tm_jn 8) ew2_0) rfl
      have ew3_0 : C0 = ((tm_ss P q (R0, C0, A0, k0, nI q, d0, e0, nx)).2.1) := by first | rfl | (simp [tm_ss, hv, f13, ee0, ee5, ee6, ee7, ee8, ee9, ee10, ee11, ee12, ee13, f7, f9, f4, f10, hab]; done)
      have ew3 : tm_jn 64 C0 C1 = tm_jn 64 ((tm_ss P q (R0, C0, A0, k0, nI q, d0, e0, nx)).2.1) C1 := congr (congrArg (tm_jn 64) ew3_0) rfl
      have ew4_0 : e0 = ((tm_ss P q (R0, C0, A0, k0, nI q, d0, e0, nx)).2.2.2.2.2.2.1) := by first | rfl | (simp [tm_ss, hv, f13, ee0, ee5, ee6, ee7, ee8, ee9, ee10, ee11, ee12, ee13, f7, f9, f4, f10, hab]; done)
      have ew4 : tm_tw e0 e1 = tm_tw ((tm_ss P q (R0, C0, A0, k0, nI q, d0, e0, nx)).2.2.2.2.2.2.1) e1 := congr (congrArg (tm_tw) ew4_0) rfl
      have ew5_0 : nx = ((tm_ss P q (R0, C0, A0, k0, nI q, d0, e0, nx)).2.2.2.2.1) := by first | rfl | (simp [tm_ss, hv, f13, ee0, ee5, ee6, ee7, ee8, ee9, ee10, ee11, ee12, ee13, f7, f9, f4, f10, hab]; done)
      have ew5 : tm_tw nx h1 = tm_tw ((tm_ss P q (R0, C0, A0, k0, nI q, d0, e0, nx)).2.2.2.2.1) h1 := congr (congrArg (tm_tw) ew5_0) rfl
      have ew6_0 : (d0 + 1) = ((tm_ss P q (R0, C0, A0, k0, nI q, d0, e0, nx)).2.2.2.2.2.1) := by first | rfl | (simp [tm_ss, hv, f13, ee0, ee5, ee6, ee7, ee8, ee9, ee10, ee11, ee12, ee13, f7, f9, f4, f10, hab]; done)
      have ew6 : tm_tw (d0 + 1) d1 = tm_tw ((tm_ss P q (R0, C0, A0, k0, nI q, d0, e0, nx)).2.2.2.2.2.1) d1 := congr (congrArg (tm_tw) ew6_0) rfl
      have ew7_0 : (nI k0) = (nI (tm_ss P q (R0, C0, A0, k0, nI q, d0, e0, nx)).2.2.2.1) := congrArg nI (by first | (simp [tm_ss, hv, f13, ee0, ee5, ee6, ee7, ee8, ee9, ee10, ee11, ee12, ee13, f7, f9, f4, f10, hab]; done) | (simp [tm_ss, hv, f13, ee0, ee5, ee6, ee7, ee8, ee9, ee10, ee11, ee12, ee13, f7, f9, f4, f10, hab]; omega) | omega)
      have ew7 : tm_tw (nI k0) (nI k1) = tm_tw (nI (tm_ss P q (R0, C0, A0, k0, nI q, d0, e0, nx)).2.2.2.1) (nI k1) := congr (congrArg (tm_tw) ew7_0) rfl
      have ew8_0 : A0 = ((tm_ss P q (R0, C0, A0, k0, nI q, d0, e0, nx)).2.2.1) := by first | rfl | (simp [tm_ss, hv, f13, ee0, ee5, ee6, ee7, ee8, ee9, ee10, ee11, ee12, ee13, f7, f9, f4, f10, hab]; done)
      have ew8 : tm_jn 120 A0 A1 = tm_jn 120 ((tm_ss P q (R0, C0, A0, k0, nI q, d0, e0, nx)).2.2.1) A1 := congr (congrArg (tm_jn 120) ew8_0) rfl
      have hP : va_P D cls [(m0, .inr (5, [.int th, .int (nI n), .ref oA, .ref aA, .ref bB, .ref cC, .int tl, .int (nI k), .ref gA, .ref zA, .ref bA, .ref sR, .ref sD, .ref rA, .ref eC, .ref eA, .ref pA, .ref dA, .ref kA, .ref acA, .int ((tm_ss P q (R0, C0, A0, k0, nI q, d0, e0, nx)).2.2.2.2.2.2.2)])), (oA, .inl (cI, 24, .inl Po)), (aA, .inl (cI, 24, .inl Pa)), (bB, .inl (cI, 24, .inl Pb)), (cC, .inl (cI, 24, .inl Pc)), (gA, .inl (cI, 1600, .inl G)), (zA, .inl (cZ, 400, .inl O)), (bA, .inl (cI, 25, .inl B)), (sR, .inl (cI, 8, .inl sr)), (sD, .inl (cI, 32, .inl sd)), (rA, .inl (cI, 16, .inl (tm_jn 8 ((tm_ss P q (R0, C0, A0, k0, nI q, d0, e0, nx)).1) R1))), (eC, .inl (cI, 128, .inl (tm_jn 64 ((tm_ss P q (R0, C0, A0, k0, nI q, d0, e0, nx)).2.1) C1))), (eA, .inl (cI, 2, .inl (tm_tw ((tm_ss P q (R0, C0, A0, k0, nI q, d0, e0, nx)).2.2.2.2.2.2.1) e1))), (pA, .inl (cI, 2, .inl (tm_tw ((tm_ss P q (R0, C0, A0, k0, nI q, d0, e0, nx)).2.2.2.2.1) h1))), (dA, .inl (cI, 2, .inl (tm_tw ((tm_ss P q (R0, C0, A0, k0, nI q, d0, e0, nx)).2.2.2.2.2.1) d1))), (kA, .inl (cI, 2, .inl (tm_tw (nI (tm_ss P q (R0, C0, A0, k0, nI q, d0, e0, nx)).2.2.2.1) (nI k1)))), (acA, .inl (cI, 240, .inl (tm_jn 120 ((tm_ss P q (R0, C0, A0, k0, nI q, d0, e0, nx)).2.2.1) A1)))] H := by rw [← ew1, ← ew2, ← ew3, ← ew4, ← ew5, ← ew6, ← ew7, ← ew8]; exact hP
      have hD : va_D A [(m0, .inr (5, [.int th, .int (nI n), .ref oA, .ref aA, .ref bB, .ref cC, .int tl, .int (nI k), .ref gA, .ref zA, .ref bA, .ref sR, .ref sD, .ref rA, .ref eC, .ref eA, .ref pA, .ref dA, .ref kA, .ref acA, .int ((tm_ss P q (R0, C0, A0, k0, nI q, d0, e0, nx)).2.2.2.2.2.2.2)])), (oA, .inl (cI, 24, .inl Po)), (aA, .inl (cI, 24, .inl Pa)), (bB, .inl (cI, 24, .inl Pb)), (cC, .inl (cI, 24, .inl Pc)), (gA, .inl (cI, 1600, .inl G)), (zA, .inl (cZ, 400, .inl O)), (bA, .inl (cI, 25, .inl B)), (sR, .inl (cI, 8, .inl sr)), (sD, .inl (cI, 32, .inl sd)), (rA, .inl (cI, 16, .inl (tm_jn 8 ((tm_ss P q (R0, C0, A0, k0, nI q, d0, e0, nx)).1) R1))), (eC, .inl (cI, 128, .inl (tm_jn 64 ((tm_ss P q (R0, C0, A0, k0, nI q, d0, e0, nx)).2.1) C1))), (eA, .inl (cI, 2, .inl (tm_tw ((tm_ss P q (R0, C0, A0, k0, nI q, d0, e0, nx)).2.2.2.2.2.2.1) e1))), (pA, .inl (cI, 2, .inl (tm_tw ((tm_ss P q (R0, C0, A0, k0, nI q, d0, e0, nx)).2.2.2.2.1) h1))), (dA, .inl (cI, 2, .inl (tm_tw ((tm_ss P q (R0, C0, A0, k0, nI q, d0, e0, nx)).2.2.2.2.2.1) d1))), (kA, .inl (cI, 2, .inl (tm_tw (nI (tm_ss P q (R0, C0, A0, k0, nI q, d0, e0, nx)).2.2.2.1) (nI k1)))), (acA, .inl (cI, 240, .inl (tm_jn 120 ((tm_ss P q (R0, C0, A0, k0, nI q, d0, e0, nx)).2.2.1) A1)))] := by rw [← ew1, ← ew2, ← ew3, ← ew4, ← ew5, ← ew6, ← ew7, ← ew8]; exact hD
      exact W.vret hx hb hr (fun t9 ht9 hW9 => ⟨⟨(), rfl, trivial, by rw [ht9]; exact hP, hD⟩, hS.F ht9⟩) hS.2.2 d_Mo_source_392
  · have f13 : ¬ 13 < nI v := nI_nlt (a := 13) (b := v) (by omega) (by decide)
    have ee0 : ¬ nI v = 0 := xn_ne (w := 0) (by omega) (by decide) (by omega)
    have ee5 : ¬ nI v = 5 := xn_ne (w := 5) (by omega) (by decide) (by omega)
    have ee6 : ¬ nI v = 6 := xn_ne (w := 6) (by omega) (by decide) (by omega)
    have ee7 : ¬ nI v = 7 := xn_ne (w := 7) (by omega) (by decide) (by omega)
    have ee8 : ¬ nI v = 8 := xn_ne (w := 8) (by omega) (by decide) (by omega)
    have ee9 : ¬ nI v = 9 := xn_ne (w := 9) (by omega) (by decide) (by omega)
    have ee10 : nI v = 10 := by rw [hcase]; rfl
    have ee11 : ¬ nI v = 11 := xn_ne (w := 11) (by omega) (by decide) (by omega)
    have ee12 : ¬ nI v = 12 := xn_ne (w := 12) (by omega) (by decide) (by omega)
    have ee13 : ¬ nI v = 13 := xn_ne (w := 13) (by omega) (by decide) (by omega)
    have f7 : ¬ nI v < 7 := nI_nlt (a := v) (b := 7) (by omega) (by omega)
    have f9 : ¬ nI v < 9 := nI_nlt (a := v) (b := 9) (by omega) (by omega)
    have f4 : 4 < nI v := nI_lt (a := 4) (b := v) (by omega) (by omega)
    have f10 : ¬ 10 < nI v := nI_nlt (a := 10) (b := v) (by omega) (by decide)
    refine lv_aload_n hx hb d_Mo_source_0 rfl (lv_at hl 0 rfl) ?_
    refine va_get (D := D) (ci := 5) (v := .ref pA) (C := R_Mo) (T := F_Mo) (N := 21) hx hb hg f_Mo hown hK.1 hP 0 rfl rfl 16 (by decide) (hg _ q579) (fun _ h9 => h9) rfl d_Mo_source_1 ?_
    refine lv_iconst (v := 0) hx hb d_Mo_source_4 (by decide) ?_
    refine xa_ld hx hb hK hP 13 0 rfl rfl (kx := 0) (rfl) (by decide) (by decide) d_Mo_source_5 ?_
    have eq9 : ((tm_tw (nI q) h1) 0 : Int32) = nI q := rfl
    refine W.eq (g2 := F0 m 6 ls [.int (nI q)]) (by rw [eq9]) ?_
    refine lv_istore_n hx hb d_Mo_source_6 rfl hl (by decide) rfl (fun ls hl => ?_)
    have hl : lv_has ls 7 [(1, .int (nI q)), (0, .ref m0)] := hl
    refine lv_iload_n hx hb d_Mo_source_7 rfl (lv_at hl 0 rfl) ?_
    refine lv_iconst (v := 0) hx hb d_Mo_source_8 (by decide) ?_
    refine lv_aload_n hx hb d_Mo_source_9 rfl (lv_at hl 1 rfl) ?_
    refine va_get (D := D) (ci := 5) (v := .int (nI n)) (C := R_Mo) (T := F_Mo) (N := 21) hx hb hg f_Mo hown hK.1 hP 0 rfl rfl 1 (by decide) (hg _ q564) (fun _ h9 => h9) rfl d_Mo_source_10 ?_
    refine lv_iconst (v := 1) hx hb d_Mo_source_13 (by decide) ?_
    refine lv_isub hx hb d_Mo_source_14 ?_
    have eq9 : ((nI n) - 1 : Int32) = nI (n - 1) := pk_sub (a := n) (b := 1) (by omega)
    refine W.eq (g2 := F0 m 15 ls [.int (nI (n - 1)), .int 0, .int (nI q)]) (by rw [eq9]) ?_
    refine xr_S (As := [.int (nI q), .int 0, .int (nI (n - 1))]) (rest := []) ⟨hx, hb, hml, hown, hg⟩ (c_Mo_in l D cI cZ cJ (nI q) 0 (nI (n - 1))) m_Mo_in q636 ⟨rfl, rfl⟩ ⟨Nat.le_of_ble_eq_true rfl, Nat.le_of_ble_eq_true rfl⟩ hK hP [] rfl rfl hl.1 rfl (Nat.le_of_ble_eq_true rfl) d_Mo_source_15 ⟨Nat.zero_le _, Nat.zero_le _⟩ ?_
    refine lv_if_eq (tgt := 30) hx hb d_Mo_source_18 rfl (fun hz9 => absurd hz9 (tm_wi_y (nI_le (a := 0) (b := q) (by omega) (by omega)) (nI_le (a := q) (b := n - 1) (by omega) (by omega)))) (fun _ => ?_)
    refine lv_aload_n hx hb d_Mo_source_21 rfl (lv_at hl 1 rfl) ?_
    refine va_get (D := D) (ci := 5) (v := .ref oA) (C := R_Mo) (T := F_Mo) (N := 21) hx hb hg f_Mo hown hK.1 hP 0 rfl rfl 2 (by decide) (hg _ q565) (fun _ h9 => h9) rfl d_Mo_source_22 ?_
    refine lv_iload_n hx hb d_Mo_source_25 rfl (lv_at hl 0 rfl) ?_
    refine xa_ld hx hb hK hP 1 0 rfl rfl (kx := q) (rfl) (by omega) (by decide) d_Mo_source_26 ?_
    have eq9 : (Po q : Int32) = P (4 * q) := hPo q
    refine W.eq (g2 := F0 m 27 ls [.int (P (4 * q))]) (by rw [eq9]) ?_
    refine lv_goto (tgt := 32) hx hb d_Mo_source_27 rfl ?_
    have eq9 : (P (4 * q) : Int32) = nI v := hv
    refine W.eq (g2 := F0 m 32 ls [.int (nI v)]) (by rw [eq9]) ?_
    refine lv_istore_n hx hb d_Mo_source_32 rfl hl (by decide) rfl (fun ls hl => ?_)
    have hl : lv_has ls 7 [(2, .int (nI v)), (1, .int (nI q)), (0, .ref m0)] := hl
    refine lv_iload_n hx hb d_Mo_source_33 rfl (lv_at hl 0 rfl) ?_
    refine lv_bipush (v := 13) hx hb d_Mo_source_34 (by decide) ?_
    refine lv_icmp_le (tgt := 43) hx hb d_Mo_source_36 rfl (fun _ => ?_) (fun hz9 => absurd (nI_le (a := v) (b := 13) (by omega) (by decide)) hz9)
    refine lv_aload_n hx hb d_Mo_source_43 rfl (lv_at hl 2 rfl) ?_
    refine va_get (D := D) (ci := 5) (v := .ref rA) (C := R_Mo) (T := F_Mo) (N := 21) hx hb hg f_Mo hown hK.1 hP 0 rfl rfl 13 (by decide) (hg _ q576) (fun _ h9 => h9) rfl d_Mo_source_44 ?_
    refine lv_aload_n hx hb d_Mo_source_47 rfl (lv_at hl 2 rfl) ?_
    refine va_get (D := D) (ci := 5) (v := .ref aA) (C := R_Mo) (T := F_Mo) (N := 21) hx hb hg f_Mo hown hK.1 hP 0 rfl rfl 3 (by decide) (hg _ q566) (fun _ h9 => h9) rfl d_Mo_source_48 ?_
    refine lv_iload_n hx hb d_Mo_source_51 rfl (lv_at hl 1 rfl) ?_
    refine xa_ld hx hb hK hP 2 0 rfl rfl (kx := q) (rfl) (by omega) (by decide) d_Mo_source_52 ?_
    have eq9 : (Pa q : Int32) = P (4 * q + 1) := hPa q
    refine W.eq (g2 := F0 m 53 ls [.int (P (4 * q + 1)), .ref rA]) (by rw [eq9]) ?_
    refine xa_ld hx hb hK hP 10 0 rfl rfl (kx := a) (ha) (by omega) (by decide) d_Mo_source_53 ?_
    have eq9 : ((tm_jn 8 R0 R1) a : Int32) = R0 a := tm_jn_lo (by omega)
    refine W.eq (g2 := F0 m 54 ls [.int (R0 a)]) (by rw [eq9]) ?_
    refine lv_istore_n hx hb d_Mo_source_54 rfl hl (by decide) rfl (fun ls hl => ?_)
    have hl : lv_has ls 7 [(3, .int (R0 a)), (2, .int (nI v)), (1, .int (nI q)), (0, .ref m0)] := hl
    refine lv_iload_n hx hb d_Mo_source_55 rfl (lv_at hl 1 rfl) ?_
    refine lv_bipush (v := 13) hx hb d_Mo_source_56 (by decide) ?_
    refine lv_icmp_le (tgt := 65) hx hb d_Mo_source_58 rfl (fun _ => ?_) (fun hz9 => absurd (nI_le (a := v) (b := 13) (by omega) (by decide)) hz9)
    refine lv_aload_n hx hb d_Mo_source_65 rfl (lv_at hl 3 rfl) ?_
    refine va_get (D := D) (ci := 5) (v := .ref rA) (C := R_Mo) (T := F_Mo) (N := 21) hx hb hg f_Mo hown hK.1 hP 0 rfl rfl 13 (by decide) (hg _ q576) (fun _ h9 => h9) rfl d_Mo_source_66 ?_
    refine lv_aload_n hx hb d_Mo_source_69 rfl (lv_at hl 3 rfl) ?_
    refine va_get (D := D) (ci := 5) (v := .ref bB) (C := R_Mo) (T := F_Mo) (N := 21) hx hb hg f_Mo hown hK.1 hP 0 rfl rfl 4 (by decide) (hg _ q567) (fun _ h9 => h9) rfl d_Mo_source_70 ?_
    refine lv_iload_n hx hb d_Mo_source_73 rfl (lv_at hl 2 rfl) ?_
    refine xa_ld hx hb hK hP 3 0 rfl rfl (kx := q) (rfl) (by omega) (by decide) d_Mo_source_74 ?_
    have eq9 : (Pb q : Int32) = P (4 * q + 2) := hPb q
    refine W.eq (g2 := F0 m 75 ls [.int (P (4 * q + 2)), .ref rA]) (by rw [eq9]) ?_
    refine xa_ld hx hb hK hP 10 0 rfl rfl (kx := b) (hbb) (by omega) (by decide) d_Mo_source_75 ?_
    have eq9 : ((tm_jn 8 R0 R1) b : Int32) = R0 b := tm_jn_lo (by omega)
    refine W.eq (g2 := F0 m 76 ls [.int (R0 b)]) (by rw [eq9]) ?_
    refine lv_istore hx hb d_Mo_source_76 hl (by decide) rfl (fun ls hl => ?_)
    have hl : lv_has ls 7 [(4, .int (R0 b)), (3, .int (R0 a)), (2, .int (nI v)), (1, .int (nI q)), (0, .ref m0)] := hl
    refine lv_iload_n hx hb d_Mo_source_78 rfl (lv_at hl 2 rfl) ?_
    refine lv_bipush (v := 13) hx hb d_Mo_source_79 (by decide) ?_
    refine lv_icmp_le (tgt := 88) hx hb d_Mo_source_81 rfl (fun _ => ?_) (fun hz9 => absurd (nI_le (a := v) (b := 13) (by omega) (by decide)) hz9)
    refine lv_iload hx hb d_Mo_source_88 (lv_at hl 0 rfl) ?_
    refine lv_aload_n hx hb d_Mo_source_90 rfl (lv_at hl 4 rfl) ?_
    refine va_get (D := D) (ci := 5) (v := .ref cC) (C := R_Mo) (T := F_Mo) (N := 21) hx hb hg f_Mo hown hK.1 hP 0 rfl rfl 5 (by decide) (hg _ q568) (fun _ h9 => h9) rfl d_Mo_source_91 ?_
    refine lv_iload_n hx hb d_Mo_source_94 rfl (lv_at hl 3 rfl) ?_
    refine xa_ld hx hb hK hP 4 0 rfl rfl (kx := q) (rfl) (by omega) (by decide) d_Mo_source_95 ?_
    have eq9 : (Pc q : Int32) = P (4 * q + 3) := hPc q
    refine W.eq (g2 := F0 m 96 ls [.int (P (4 * q + 3)), .int (R0 b)]) (by rw [eq9]) ?_
    refine lv_iadd hx hb d_Mo_source_96 ?_
    refine xr_S (As := [.int ((R0 b) + (P (4 * q + 3)))]) (rest := []) ⟨hx, hb, hml, hown, hg⟩ (c_Mo_round l D cI cZ cJ ((R0 b) + (P (4 * q + 3)))) m_Mo_round q725 ⟨rfl, rfl⟩ ⟨Nat.le_of_ble_eq_true rfl, Nat.le_of_ble_eq_true rfl⟩ hK hP [] rfl rfl hl.1 rfl (Nat.le_of_ble_eq_true rfl) d_Mo_source_97 ⟨Nat.zero_le _, Nat.zero_le _⟩ ?_
    refine lv_istore hx hb d_Mo_source_100 hl (by decide) rfl (fun ls hl => ?_)
    have hl : lv_has ls 7 [(5, .int (tm_wr ((R0 b) + (P (4 * q + 3))))), (4, .int (R0 b)), (3, .int (R0 a)), (2, .int (nI v)), (1, .int (nI q)), (0, .ref m0)] := hl
    refine lv_iload_n hx hb d_Mo_source_102 rfl (lv_at hl 3 rfl) ?_
    refine lv_bipush (v := 13) hx hb d_Mo_source_103 (by decide) ?_
    refine lv_icmp_gt (tgt := 131) hx hb d_Mo_source_105 rfl (fun hz9 => absurd hz9 (f13)) (fun _ => ?_)
    refine lv_iload_n hx hb d_Mo_source_108 rfl (lv_at hl 3 rfl) ?_
    refine lv_bipush (v := 7) hx hb d_Mo_source_109 (by decide) ?_
    refine lv_icmp_eq (tgt := 120) hx hb d_Mo_source_111 rfl (fun hz9 => absurd hz9 (ee7)) (fun _ => ?_)
    refine lv_iload_n hx hb d_Mo_source_114 rfl (lv_at hl 3 rfl) ?_
    refine lv_bipush (v := 8) hx hb d_Mo_source_115 (by decide) ?_
    refine lv_icmp_ne (tgt := 139) hx hb d_Mo_source_117 rfl (fun _ => ?_) (fun hz9 => absurd hz9 (ee8))
    refine lv_aload_n hx hb d_Mo_source_139 rfl (lv_at hl 5 rfl) ?_
    refine va_get (D := D) (ci := 5) (v := .ref dA) (C := R_Mo) (T := F_Mo) (N := 21) hx hb hg f_Mo hown hK.1 hP 0 rfl rfl 17 (by decide) (hg _ q580) (fun _ h9 => h9) rfl d_Mo_source_140 ?_
    refine lv_iconst (v := 0) hx hb d_Mo_source_143 (by decide) ?_
    refine lv_dup2_11 hx hb d_Mo_source_144 rfl rfl ?_
    refine xa_ld hx hb hK hP 14 0 rfl rfl (kx := 0) (rfl) (by decide) (by decide) d_Mo_source_145 ?_
    have eq9 : ((tm_tw d0 d1) 0 : Int32) = d0 := rfl
    refine W.eq (g2 := F0 m 146 ls [.int d0, .int 0, .ref dA]) (by rw [eq9]) ?_
    refine lv_iconst (v := 1) hx hb d_Mo_source_146 (by decide) ?_
    refine lv_iadd hx hb d_Mo_source_147 ?_
    refine xa_st hx hb hK hP hD hS 14 0 rfl rfl (kx := 0) (rfl) (by decide) (by decide) d_Mo_source_148 (fun H locs hP hD hS => ?_)
    have hP : va_P D cls [(m0, .inr (5, [.int th, .int (nI n), .ref oA, .ref aA, .ref bB, .ref cC, .int tl, .int (nI k), .ref gA, .ref zA, .ref bA, .ref sR, .ref sD, .ref rA, .ref eC, .ref eA, .ref pA, .ref dA, .ref kA, .ref acA, .int nx])), (oA, .inl (cI, 24, .inl Po)), (aA, .inl (cI, 24, .inl Pa)), (bB, .inl (cI, 24, .inl Pb)), (cC, .inl (cI, 24, .inl Pc)), (gA, .inl (cI, 1600, .inl G)), (zA, .inl (cZ, 400, .inl O)), (bA, .inl (cI, 25, .inl B)), (sR, .inl (cI, 8, .inl sr)), (sD, .inl (cI, 32, .inl sd)), (rA, .inl (cI, 16, .inl (tm_jn 8 R0 R1))), (eC, .inl (cI, 128, .inl (tm_jn 64 C0 C1))), (eA, .inl (cI, 2, .inl (tm_tw e0 e1))), (pA, .inl (cI, 2, .inl (tm_tw (nI q) h1))), (dA, .inl (cI, 2, .inl (upd (tm_tw d0 d1) 0 (d0 + 1)))), (kA, .inl (cI, 2, .inl (tm_tw (nI k0) (nI k1)))), (acA, .inl (cI, 240, .inl (tm_jn 120 A0 A1)))] H := hP
    have hD : va_D A [(m0, .inr (5, [.int th, .int (nI n), .ref oA, .ref aA, .ref bB, .ref cC, .int tl, .int (nI k), .ref gA, .ref zA, .ref bA, .ref sR, .ref sD, .ref rA, .ref eC, .ref eA, .ref pA, .ref dA, .ref kA, .ref acA, .int nx])), (oA, .inl (cI, 24, .inl Po)), (aA, .inl (cI, 24, .inl Pa)), (bB, .inl (cI, 24, .inl Pb)), (cC, .inl (cI, 24, .inl Pc)), (gA, .inl (cI, 1600, .inl G)), (zA, .inl (cZ, 400, .inl O)), (bA, .inl (cI, 25, .inl B)), (sR, .inl (cI, 8, .inl sr)), (sD, .inl (cI, 32, .inl sd)), (rA, .inl (cI, 16, .inl (tm_jn 8 R0 R1))), (eC, .inl (cI, 128, .inl (tm_jn 64 C0 C1))), (eA, .inl (cI, 2, .inl (tm_tw e0 e1))), (pA, .inl (cI, 2, .inl (tm_tw (nI q) h1))), (dA, .inl (cI, 2, .inl (upd (tm_tw d0 d1) 0 (d0 + 1)))), (kA, .inl (cI, 2, .inl (tm_tw (nI k0) (nI k1)))), (acA, .inl (cI, 240, .inl (tm_jn 120 A0 A1)))] := hD
    rw [tm_tw_0] at hP hD
    have hP : va_P D cls [(m0, .inr (5, [.int th, .int (nI n), .ref oA, .ref aA, .ref bB, .ref cC, .int tl, .int (nI k), .ref gA, .ref zA, .ref bA, .ref sR, .ref sD, .ref rA, .ref eC, .ref eA, .ref pA, .ref dA, .ref kA, .ref acA, .int nx])), (oA, .inl (cI, 24, .inl Po)), (aA, .inl (cI, 24, .inl Pa)), (bB, .inl (cI, 24, .inl Pb)), (cC, .inl (cI, 24, .inl Pc)), (gA, .inl (cI, 1600, .inl G)), (zA, .inl (cZ, 400, .inl O)), (bA, .inl (cI, 25, .inl B)), (sR, .inl (cI, 8, .inl sr)), (sD, .inl (cI, 32, .inl sd)), (rA, .inl (cI, 16, .inl (tm_jn 8 R0 R1))), (eC, .inl (cI, 128, .inl (tm_jn 64 C0 C1))), (eA, .inl (cI, 2, .inl (tm_tw e0 e1))), (pA, .inl (cI, 2, .inl (tm_tw (nI q) h1))), (dA, .inl (cI, 2, .inl (tm_tw (d0 + 1) d1))), (kA, .inl (cI, 2, .inl (tm_tw (nI k0) (nI k1)))), (acA, .inl (cI, 240, .inl (tm_jn 120 A0 A1)))] H := hP
    have hD : va_D A [(m0, .inr (5, [.int th, .int (nI n), .ref oA, .ref aA, .ref bB, .ref cC, .int tl, .int (nI k), .ref gA, .ref zA, .ref bA, .ref sR, .ref sD, .ref rA, .ref eC, .ref eA, .ref pA, .ref dA, .ref kA, .ref acA, .int nx])), (oA, .inl (cI, 24, .inl Po)), (aA, .inl (cI, 24, .inl Pa)), (bB, .inl (cI, 24, .inl Pb)), (cC, .inl (cI, 24, .inl Pc)), (gA, .inl (cI, 1600, .inl G)), (zA, .inl (cZ, 400, .inl O)), (bA, .inl (cI, 25, .inl B)), (sR, .inl (cI, 8, .inl sr)), (sD, .inl (cI, 32, .inl sd)), (rA, .inl (cI, 16, .inl (tm_jn 8 R0 R1))), (eC, .inl (cI, 128, .inl (tm_jn 64 C0 C1))), (eA, .inl (cI, 2, .inl (tm_tw e0 e1))), (pA, .inl (cI, 2, .inl (tm_tw (nI q) h1))), (dA, .inl (cI, 2, .inl (tm_tw (d0 + 1) d1))), (kA, .inl (cI, 2, .inl (tm_tw (nI k0) (nI k1)))), (acA, .inl (cI, 240, .inl (tm_jn 120 A0 A1)))] := hD
    refine lv_iload_n hx hb d_Mo_source_149 rfl (lv_at hl 3 rfl) ?_
    refine lv_if_ne (tgt := 161) hx hb d_Mo_source_150 rfl (fun _ => ?_) (fun hz9 => absurd hz9 (ee0))
    refine lv_aload_n hx hb d_Mo_source_161 rfl (lv_at hl 5 rfl) ?_
    refine va_get (D := D) (ci := 5) (v := .int nx) (C := R_Mo) (T := F_Mo) (N := 21) hx hb hg f_Mo hown hK.1 hP 0 rfl rfl 20 (by decide) (hg _ q583) (fun _ h9 => h9) rfl d_Mo_source_162 ?_
    refine lv_iconst (v := 1) hx hb d_Mo_source_165 (by decide) ?_
    refine lv_iadd hx hb d_Mo_source_166 ?_
    refine lv_istore hx hb d_Mo_source_167 hl (by decide) rfl (fun ls hl => ?_)
    have hl : lv_has ls 7 [(6, .int (nx + 1)), (5, .int (tm_wr ((R0 b) + (P (4 * q + 3))))), (4, .int (R0 b)), (3, .int (R0 a)), (2, .int (nI v)), (1, .int (nI q)), (0, .ref m0)] := hl
    refine lv_iload_n hx hb d_Mo_source_169 rfl (lv_at hl 4 rfl) ?_
    refine lv_iconst (v := 5) hx hb d_Mo_source_170 (by decide) ?_
    refine lv_icmp_gt (tgt := 222) hx hb d_Mo_source_171 rfl (fun _ => ?_) (fun hz9 => absurd (nI_lt (a := 5) (b := v) (by omega) (by omega)) hz9)
    refine lv_iload_n hx hb d_Mo_source_222 rfl (lv_at hl 4 rfl) ?_
    refine lv_bipush (v := 6) hx hb d_Mo_source_223 (by decide) ?_
    refine lv_icmp_ne (tgt := 255) hx hb d_Mo_source_225 rfl (fun _ => ?_) (fun hz9 => absurd hz9 (ee6))
    refine lv_iload_n hx hb d_Mo_source_255 rfl (lv_at hl 4 rfl) ?_
    refine lv_bipush (v := 7) hx hb d_Mo_source_256 (by decide) ?_
    refine lv_icmp_eq (tgt := 267) hx hb d_Mo_source_258 rfl (fun hz9 => absurd hz9 (ee7)) (fun _ => ?_)
    refine lv_iload_n hx hb d_Mo_source_261 rfl (lv_at hl 4 rfl) ?_
    refine lv_bipush (v := 8) hx hb d_Mo_source_262 (by decide) ?_
    refine lv_icmp_ne (tgt := 294) hx hb d_Mo_source_264 rfl (fun _ => ?_) (fun hz9 => absurd hz9 (ee8))
    refine lv_iload_n hx hb d_Mo_source_294 rfl (lv_at hl 4 rfl) ?_
    refine lv_bipush (v := 13) hx hb d_Mo_source_295 (by decide) ?_
    refine lv_icmp_ne (tgt := 306) hx hb d_Mo_source_297 rfl (fun _ => ?_) (fun hz9 => absurd hz9 (ee13))
    refine lv_iload_n hx hb d_Mo_source_306 rfl (lv_at hl 4 rfl) ?_
    refine lv_bipush (v := 11) hx hb d_Mo_source_307 (by decide) ?_
    refine lv_icmp_eq (tgt := 343) hx hb d_Mo_source_309 rfl (fun hz9 => absurd hz9 (ee11)) (fun _ => ?_)
    refine lv_iload_n hx hb d_Mo_source_312 rfl (lv_at hl 4 rfl) ?_
    refine lv_bipush (v := 12) hx hb d_Mo_source_313 (by decide) ?_
    refine lv_icmp_eq (tgt := 343) hx hb d_Mo_source_315 rfl (fun hz9 => absurd hz9 (ee12)) (fun _ => ?_)
    refine lv_iload_n hx hb d_Mo_source_318 rfl (lv_at hl 3 rfl) ?_
    refine lv_iload hx hb d_Mo_source_319 (lv_at hl 2 rfl) ?_
    refine lv_icmp_ne (tgt := 328) hx hb d_Mo_source_321 rfl (fun hab => ?_) (fun hab => ?_)
    · refine lv_iconst (v := 0) hx hb d_Mo_source_328 (by decide) ?_
      refine lv_iload_n hx hb d_Mo_source_329 rfl (lv_at hl 4 rfl) ?_
      refine lv_bipush (v := 9) hx hb d_Mo_source_330 (by decide) ?_
      refine lv_icmp_ne (tgt := 339) hx hb d_Mo_source_332 rfl (fun _ => ?_) (fun hz9 => absurd hz9 (ee9))
      refine lv_iconst (v := 0) hx hb d_Mo_source_339 (by decide) ?_
      refine lv_icmp_ne (tgt := 350) hx hb d_Mo_source_340 rfl (fun hz9 => absurd (by decide) hz9) (fun _ => ?_)
      refine lv_aload_n hx hb d_Mo_source_343 rfl (lv_at hl 6 rfl) ?_
      refine lv_iload_n hx hb d_Mo_source_344 rfl (lv_at hl 5 rfl) ?_
      refine xr_V (C := R_Mo) (As := [.int (nI q)]) (rest := []) ⟨hx, hb, hml, hown, hg⟩ (c_Mo_goal l D cI cZ cJ m0 oA aA bB cC gA zA bA sR sD rA eC eA pA dA kA acA Po Pa Pb Pc G O B sr sd (tm_jn 8 R0 R1) (tm_jn 64 C0 C1) (tm_tw e0 e1) (tm_tw (nI q) h1) (tm_tw (d0 + 1) d1) (tm_tw (nI k0) (nI k1)) (tm_jn 120 A0 A1) n k th tl nx P q v (hPo) (hPa) (hPb) (hPc) (by omega) (by omega) (hv) (by omega) (by omega)) m_Mo_goal q658 sp_Mo_goal ⟨rfl, rfl⟩ ⟨Nat.le_of_ble_eq_true rfl, Nat.le_of_ble_eq_true rfl⟩ hK hP [0, 1, 2, 3, 4, 5, 6, 7, 8, 9, 10, 11, 12, 13, 14, 15, 16] rfl (va_recv (q0 := 0) hK.1 hP rfl rfl) rfl hl.1 rfl (Nat.le_of_ble_eq_true rfl) d_Mo_source_345 ⟨Nat.zero_le _, Nat.zero_le _⟩ ?_
      refine lv_istore hx hb d_Mo_source_348 hl (by decide) rfl (fun ls hl => ?_)
      have hl : lv_has ls 7 [(6, .int (tm_ld P q)), (5, .int (tm_wr ((R0 b) + (P (4 * q + 3))))), (4, .int (R0 b)), (3, .int (R0 a)), (2, .int (nI v)), (1, .int (nI q)), (0, .ref m0)] := hl
      refine lv_iload_n hx hb d_Mo_source_350 rfl (lv_at hl 4 rfl) ?_
      refine lv_bipush (v := 12) hx hb d_Mo_source_351 (by decide) ?_
      refine lv_icmp_ne (tgt := 369) hx hb d_Mo_source_353 rfl (fun _ => ?_) (fun hz9 => absurd hz9 (ee12))
      refine lv_aload_n hx hb d_Mo_source_369 rfl (lv_at hl 6 rfl) ?_
      refine va_get (D := D) (ci := 5) (v := .ref rA) (C := R_Mo) (T := F_Mo) (N := 21) hx hb hg f_Mo hown hK.1 hP 0 rfl rfl 13 (by decide) (hg _ q576) (fun _ h9 => h9) rfl d_Mo_source_370 ?_
      refine lv_iconst (v := 0) hx hb d_Mo_source_373 (by decide) ?_
      refine lv_iconst (v := 0) hx hb d_Mo_source_374 (by decide) ?_
      refine xa_st hx hb hK hP hD hS 10 0 rfl rfl (kx := 0) (rfl) (by decide) (by decide) d_Mo_source_375 (fun H locs hP hD hS => ?_)
      have hP : va_P D cls [(m0, .inr (5, [.int th, .int (nI n), .ref oA, .ref aA, .ref bB, .ref cC, .int tl, .int (nI k), .ref gA, .ref zA, .ref bA, .ref sR, .ref sD, .ref rA, .ref eC, .ref eA, .ref pA, .ref dA, .ref kA, .ref acA, .int nx])), (oA, .inl (cI, 24, .inl Po)), (aA, .inl (cI, 24, .inl Pa)), (bB, .inl (cI, 24, .inl Pb)), (cC, .inl (cI, 24, .inl Pc)), (gA, .inl (cI, 1600, .inl G)), (zA, .inl (cZ, 400, .inl O)), (bA, .inl (cI, 25, .inl B)), (sR, .inl (cI, 8, .inl sr)), (sD, .inl (cI, 32, .inl sd)), (rA, .inl (cI, 16, .inl (upd (tm_jn 8 R0 R1) 0 0))), (eC, .inl (cI, 128, .inl (tm_jn 64 C0 C1))), (eA, .inl (cI, 2, .inl (tm_tw e0 e1))), (pA, .inl (cI, 2, .inl (tm_tw (nI q) h1))), (dA, .inl (cI, 2, .inl (tm_tw (d0 + 1) d1))), (kA, .inl (cI, 2, .inl (tm_tw (nI k0) (nI k1)))), (acA, .inl (cI, 240, .inl (tm_jn 120 A0 A1)))] H := hP
      have hD : va_D A [(m0, .inr (5, [.int th, .int (nI n), .ref oA, .ref aA, .ref bB, .ref cC, .int tl, .int (nI k), .ref gA, .ref zA, .ref bA, .ref sR, .ref sD, .ref rA, .ref eC, .ref eA, .ref pA, .ref dA, .ref kA, .ref acA, .int nx])), (oA, .inl (cI, 24, .inl Po)), (aA, .inl (cI, 24, .inl Pa)), (bB, .inl (cI, 24, .inl Pb)), (cC, .inl (cI, 24, .inl Pc)), (gA, .inl (cI, 1600, .inl G)), (zA, .inl (cZ, 400, .inl O)), (bA, .inl (cI, 25, .inl B)), (sR, .inl (cI, 8, .inl sr)), (sD, .inl (cI, 32, .inl sd)), (rA, .inl (cI, 16, .inl (upd (tm_jn 8 R0 R1) 0 0))), (eC, .inl (cI, 128, .inl (tm_jn 64 C0 C1))), (eA, .inl (cI, 2, .inl (tm_tw e0 e1))), (pA, .inl (cI, 2, .inl (tm_tw (nI q) h1))), (dA, .inl (cI, 2, .inl (tm_tw (d0 + 1) d1))), (kA, .inl (cI, 2, .inl (tm_tw (nI k0) (nI k1)))), (acA, .inl (cI, 240, .inl (tm_jn 120 A0 A1)))] := hD
      rw [tm_jn_ul (by omega)] at hP hD
      have hP : va_P D cls [(m0, .inr (5, [.int th, .int (nI n), .ref oA, .ref aA, .ref bB, .ref cC, .int tl, .int (nI k), .ref gA, .ref zA, .ref bA, .ref sR, .ref sD, .ref rA, .ref eC, .ref eA, .ref pA, .ref dA, .ref kA, .ref acA, .int nx])), (oA, .inl (cI, 24, .inl Po)), (aA, .inl (cI, 24, .inl Pa)), (bB, .inl (cI, 24, .inl Pb)), (cC, .inl (cI, 24, .inl Pc)), (gA, .inl (cI, 1600, .inl G)), (zA, .inl (cZ, 400, .inl O)), (bA, .inl (cI, 25, .inl B)), (sR, .inl (cI, 8, .inl sr)), (sD, .inl (cI, 32, .inl sd)), (rA, .inl (cI, 16, .inl (tm_jn 8 (upd R0 0 0) R1))), (eC, .inl (cI, 128, .inl (tm_jn 64 C0 C1))), (eA, .inl (cI, 2, .inl (tm_tw e0 e1))), (pA, .inl (cI, 2, .inl (tm_tw (nI q) h1))), (dA, .inl (cI, 2, .inl (tm_tw (d0 + 1) d1))), (kA, .inl (cI, 2, .inl (tm_tw (nI k0) (nI k1)))), (acA, .inl (cI, 240, .inl (tm_jn 120 A0 A1)))] H := hP
      have hD : va_D A [(m0, .inr (5, [.int th, .int (nI n), .ref oA, .ref aA, .ref bB, .ref cC, .int tl, .int (nI k), .ref gA, .ref zA, .ref bA, .ref sR, .ref sD, .ref rA, .ref eC, .ref eA, .ref pA, .ref dA, .ref kA, .ref acA, .int nx])), (oA, .inl (cI, 24, .inl Po)), (aA, .inl (cI, 24, .inl Pa)), (bB, .inl (cI, 24, .inl Pb)), (cC, .inl (cI, 24, .inl Pc)), (gA, .inl (cI, 1600, .inl G)), (zA, .inl (cZ, 400, .inl O)), (bA, .inl (cI, 25, .inl B)), (sR, .inl (cI, 8, .inl sr)), (sD, .inl (cI, 32, .inl sd)), (rA, .inl (cI, 16, .inl (tm_jn 8 (upd R0 0 0) R1))), (eC, .inl (cI, 128, .inl (tm_jn 64 C0 C1))), (eA, .inl (cI, 2, .inl (tm_tw e0 e1))), (pA, .inl (cI, 2, .inl (tm_tw (nI q) h1))), (dA, .inl (cI, 2, .inl (tm_tw (d0 + 1) d1))), (kA, .inl (cI, 2, .inl (tm_tw (nI k0) (nI k1)))), (acA, .inl (cI, 240, .inl (tm_jn 120 A0 A1)))] := hD
      refine lv_aload_n hx hb d_Mo_source_376 rfl (lv_at hl 6 rfl) ?_
      refine va_get (D := D) (ci := 5) (v := .ref pA) (C := R_Mo) (T := F_Mo) (N := 21) hx hb hg f_Mo hown hK.1 hP 0 rfl rfl 16 (by decide) (hg _ q579) (fun _ h9 => h9) rfl d_Mo_source_377 ?_
      refine lv_iconst (v := 0) hx hb d_Mo_source_380 (by decide) ?_
      refine lv_aload_n hx hb d_Mo_source_381 rfl (lv_at hl 6 rfl) ?_
      refine va_get (D := D) (ci := 5) (v := .int nx) (C := R_Mo) (T := F_Mo) (N := 21) hx hb hg f_Mo hown hK.1 hP 0 rfl rfl 20 (by decide) (hg _ q583) (fun _ h9 => h9) rfl d_Mo_source_382 ?_
      refine xa_st hx hb hK hP hD hS 13 0 rfl rfl (kx := 0) (rfl) (by decide) (by decide) d_Mo_source_385 (fun H locs hP hD hS => ?_)
      have hP : va_P D cls [(m0, .inr (5, [.int th, .int (nI n), .ref oA, .ref aA, .ref bB, .ref cC, .int tl, .int (nI k), .ref gA, .ref zA, .ref bA, .ref sR, .ref sD, .ref rA, .ref eC, .ref eA, .ref pA, .ref dA, .ref kA, .ref acA, .int nx])), (oA, .inl (cI, 24, .inl Po)), (aA, .inl (cI, 24, .inl Pa)), (bB, .inl (cI, 24, .inl Pb)), (cC, .inl (cI, 24, .inl Pc)), (gA, .inl (cI, 1600, .inl G)), (zA, .inl (cZ, 400, .inl O)), (bA, .inl (cI, 25, .inl B)), (sR, .inl (cI, 8, .inl sr)), (sD, .inl (cI, 32, .inl sd)), (rA, .inl (cI, 16, .inl (tm_jn 8 (upd R0 0 0) R1))), (eC, .inl (cI, 128, .inl (tm_jn 64 C0 C1))), (eA, .inl (cI, 2, .inl (tm_tw e0 e1))), (pA, .inl (cI, 2, .inl (upd (tm_tw (nI q) h1) 0 nx))), (dA, .inl (cI, 2, .inl (tm_tw (d0 + 1) d1))), (kA, .inl (cI, 2, .inl (tm_tw (nI k0) (nI k1)))), (acA, .inl (cI, 240, .inl (tm_jn 120 A0 A1)))] H := hP
      have hD : va_D A [(m0, .inr (5, [.int th, .int (nI n), .ref oA, .ref aA, .ref bB, .ref cC, .int tl, .int (nI k), .ref gA, .ref zA, .ref bA, .ref sR, .ref sD, .ref rA, .ref eC, .ref eA, .ref pA, .ref dA, .ref kA, .ref acA, .int nx])), (oA, .inl (cI, 24, .inl Po)), (aA, .inl (cI, 24, .inl Pa)), (bB, .inl (cI, 24, .inl Pb)), (cC, .inl (cI, 24, .inl Pc)), (gA, .inl (cI, 1600, .inl G)), (zA, .inl (cZ, 400, .inl O)), (bA, .inl (cI, 25, .inl B)), (sR, .inl (cI, 8, .inl sr)), (sD, .inl (cI, 32, .inl sd)), (rA, .inl (cI, 16, .inl (tm_jn 8 (upd R0 0 0) R1))), (eC, .inl (cI, 128, .inl (tm_jn 64 C0 C1))), (eA, .inl (cI, 2, .inl (tm_tw e0 e1))), (pA, .inl (cI, 2, .inl (upd (tm_tw (nI q) h1) 0 nx))), (dA, .inl (cI, 2, .inl (tm_tw (d0 + 1) d1))), (kA, .inl (cI, 2, .inl (tm_tw (nI k0) (nI k1)))), (acA, .inl (cI, 240, .inl (tm_jn 120 A0 A1)))] := hD
      rw [tm_tw_0] at hP hD
      have hP : va_P D cls [(m0, .inr (5, [.int th, .int (nI n), .ref oA, .ref aA, .ref bB, .ref cC, .int tl, .int (nI k), .ref gA, .ref zA, .ref bA, .ref sR, .ref sD, .ref rA, .ref eC, .ref eA, .ref pA, .ref dA, .ref kA, .ref acA, .int nx])), (oA, .inl (cI, 24, .inl Po)), (aA, .inl (cI, 24, .inl Pa)), (bB, .inl (cI, 24, .inl Pb)), (cC, .inl (cI, 24, .inl Pc)), (gA, .inl (cI, 1600, .inl G)), (zA, .inl (cZ, 400, .inl O)), (bA, .inl (cI, 25, .inl B)), (sR, .inl (cI, 8, .inl sr)), (sD, .inl (cI, 32, .inl sd)), (rA, .inl (cI, 16, .inl (tm_jn 8 (upd R0 0 0) R1))), (eC, .inl (cI, 128, .inl (tm_jn 64 C0 C1))), (eA, .inl (cI, 2, .inl (tm_tw e0 e1))), (pA, .inl (cI, 2, .inl (tm_tw nx h1))), (dA, .inl (cI, 2, .inl (tm_tw (d0 + 1) d1))), (kA, .inl (cI, 2, .inl (tm_tw (nI k0) (nI k1)))), (acA, .inl (cI, 240, .inl (tm_jn 120 A0 A1)))] H := hP
      have hD : va_D A [(m0, .inr (5, [.int th, .int (nI n), .ref oA, .ref aA, .ref bB, .ref cC, .int tl, .int (nI k), .ref gA, .ref zA, .ref bA, .ref sR, .ref sD, .ref rA, .ref eC, .ref eA, .ref pA, .ref dA, .ref kA, .ref acA, .int nx])), (oA, .inl (cI, 24, .inl Po)), (aA, .inl (cI, 24, .inl Pa)), (bB, .inl (cI, 24, .inl Pb)), (cC, .inl (cI, 24, .inl Pc)), (gA, .inl (cI, 1600, .inl G)), (zA, .inl (cZ, 400, .inl O)), (bA, .inl (cI, 25, .inl B)), (sR, .inl (cI, 8, .inl sr)), (sD, .inl (cI, 32, .inl sd)), (rA, .inl (cI, 16, .inl (tm_jn 8 (upd R0 0 0) R1))), (eC, .inl (cI, 128, .inl (tm_jn 64 C0 C1))), (eA, .inl (cI, 2, .inl (tm_tw e0 e1))), (pA, .inl (cI, 2, .inl (tm_tw nx h1))), (dA, .inl (cI, 2, .inl (tm_tw (d0 + 1) d1))), (kA, .inl (cI, 2, .inl (tm_tw (nI k0) (nI k1)))), (acA, .inl (cI, 240, .inl (tm_jn 120 A0 A1)))] := hD
      refine lv_aload_n hx hb d_Mo_source_386 rfl (lv_at hl 6 rfl) ?_
      refine lv_iload hx hb d_Mo_source_387 (lv_at hl 0 rfl) ?_
      refine va_put (D := D) (ci := 5) (v := .int (tm_ld P q)) (ty := .int) (C := R_Mo) (T := F_Mo) (N := 21) hx hb hg f_Mo t_Mo t_Mo_ok n_Mo hown hK.1 hP hD hS 0 rfl rfl 20 (by decide) (hg _ q583) (fun _ h9 => h9) rfl (by decide +kernel) rfl rfl (Nat.le_of_ble_eq_true rfl) d_Mo_source_389 (fun H locs hP hD hS => ?_)
      have hP : va_P D cls [(m0, .inr (5, [.int th, .int (nI n), .ref oA, .ref aA, .ref bB, .ref cC, .int tl, .int (nI k), .ref gA, .ref zA, .ref bA, .ref sR, .ref sD, .ref rA, .ref eC, .ref eA, .ref pA, .ref dA, .ref kA, .ref acA, .int (tm_ld P q)])), (oA, .inl (cI, 24, .inl Po)), (aA, .inl (cI, 24, .inl Pa)), (bB, .inl (cI, 24, .inl Pb)), (cC, .inl (cI, 24, .inl Pc)), (gA, .inl (cI, 1600, .inl G)), (zA, .inl (cZ, 400, .inl O)), (bA, .inl (cI, 25, .inl B)), (sR, .inl (cI, 8, .inl sr)), (sD, .inl (cI, 32, .inl sd)), (rA, .inl (cI, 16, .inl (tm_jn 8 (upd R0 0 0) R1))), (eC, .inl (cI, 128, .inl (tm_jn 64 C0 C1))), (eA, .inl (cI, 2, .inl (tm_tw e0 e1))), (pA, .inl (cI, 2, .inl (tm_tw nx h1))), (dA, .inl (cI, 2, .inl (tm_tw (d0 + 1) d1))), (kA, .inl (cI, 2, .inl (tm_tw (nI k0) (nI k1)))), (acA, .inl (cI, 240, .inl (tm_jn 120 A0 A1)))] H := hP
      have hD : va_D A [(m0, .inr (5, [.int th, .int (nI n), .ref oA, .ref aA, .ref bB, .ref cC, .int tl, .int (nI k), .ref gA, .ref zA, .ref bA, .ref sR, .ref sD, .ref rA, .ref eC, .ref eA, .ref pA, .ref dA, .ref kA, .ref acA, .int (tm_ld P q)])), (oA, .inl (cI, 24, .inl Po)), (aA, .inl (cI, 24, .inl Pa)), (bB, .inl (cI, 24, .inl Pb)), (cC, .inl (cI, 24, .inl Pc)), (gA, .inl (cI, 1600, .inl G)), (zA, .inl (cZ, 400, .inl O)), (bA, .inl (cI, 25, .inl B)), (sR, .inl (cI, 8, .inl sr)), (sD, .inl (cI, 32, .inl sd)), (rA, .inl (cI, 16, .inl (tm_jn 8 (upd R0 0 0) R1))), (eC, .inl (cI, 128, .inl (tm_jn 64 C0 C1))), (eA, .inl (cI, 2, .inl (tm_tw e0 e1))), (pA, .inl (cI, 2, .inl (tm_tw nx h1))), (dA, .inl (cI, 2, .inl (tm_tw (d0 + 1) d1))), (kA, .inl (cI, 2, .inl (tm_tw (nI k0) (nI k1)))), (acA, .inl (cI, 240, .inl (tm_jn 120 A0 A1)))] := hD
      have ew1 : tm_ld P q = (tm_ss P q (R0, C0, A0, k0, nI q, d0, e0, nx)).2.2.2.2.2.2.2 := by simp [tm_ss, tm_sb, tm_ld, hv, ha, hbb, hc_a, hc_b, f13, ee0, ee5, ee6, ee7, ee8, ee9, ee10, ee11, ee12, ee13, f7, f9, f4, f10, hab]
      have ew2_0 : (upd R0 0 0) = ((tm_ss P q (R0, C0, A0, k0, nI q, d0, e0, nx)).1) := by rw [tm_upd0 hR0]; simp [tm_ss, hv, f13, ee0, ee5, ee6, ee7, ee8, ee9, ee10, ee11, ee12, ee13, f7, f9, f4, f10]
      have ew2 : tm_jn 8 (upd R0 0 0) R1 = tm_jn 8 ((tm_ss P q (R0, C0, A0, k0, nI q, d0, e0, nx)).1) R1 := congr (congrArg (tm_jn 8) ew2_0) rfl
      have ew3_0 : C0 = ((tm_ss P q (R0, C0, A0, k0, nI q, d0, e0, nx)).2.1) := by first | rfl | (simp [tm_ss, hv, f13, ee0, ee5, ee6, ee7, ee8, ee9, ee10, ee11, ee12, ee13, f7, f9, f4, f10, hab]; done)
      have ew3 : tm_jn 64 C0 C1 = tm_jn 64 ((tm_ss P q (R0, C0, A0, k0, nI q, d0, e0, nx)).2.1) C1 := congr (congrArg (tm_jn 64) ew3_0) rfl
      have ew4_0 : e0 = ((tm_ss P q (R0, C0, A0, k0, nI q, d0, e0, nx)).2.2.2.2.2.2.1) := by first | rfl | (simp [tm_ss, hv, f13, ee0, ee5, ee6, ee7, ee8, ee9, ee10, ee11, ee12, ee13, f7, f9, f4, f10, hab]; done)
      have ew4 : tm_tw e0 e1 = tm_tw ((tm_ss P q (R0, C0, A0, k0, nI q, d0, e0, nx)).2.2.2.2.2.2.1) e1 := congr (congrArg (tm_tw) ew4_0) rfl
      have ew5_0 : nx = ((tm_ss P q (R0, C0, A0, k0, nI q, d0, e0, nx)).2.2.2.2.1) := by first | rfl | (simp [tm_ss, hv, f13, ee0, ee5, ee6, ee7, ee8, ee9, ee10, ee11, ee12, ee13, f7, f9, f4, f10, hab]; done)
      have ew5 : tm_tw nx h1 = tm_tw ((tm_ss P q (R0, C0, A0, k0, nI q, d0, e0, nx)).2.2.2.2.1) h1 := congr (congrArg (tm_tw) ew5_0) rfl
      have ew6_0 : (d0 + 1) = ((tm_ss P q (R0, C0, A0, k0, nI q, d0, e0, nx)).2.2.2.2.2.1) := by first | rfl | (simp [tm_ss, hv, f13, ee0, ee5, ee6, ee7, ee8, ee9, ee10, ee11, ee12, ee13, f7, f9, f4, f10, hab]; done)
      have ew6 : tm_tw (d0 + 1) d1 = tm_tw ((tm_ss P q (R0, C0, A0, k0, nI q, d0, e0, nx)).2.2.2.2.2.1) d1 := congr (congrArg (tm_tw) ew6_0) rfl
      have ew7_0 : (nI k0) = (nI (tm_ss P q (R0, C0, A0, k0, nI q, d0, e0, nx)).2.2.2.1) := congrArg nI (by first | (simp [tm_ss, hv, f13, ee0, ee5, ee6, ee7, ee8, ee9, ee10, ee11, ee12, ee13, f7, f9, f4, f10, hab]; done) | (simp [tm_ss, hv, f13, ee0, ee5, ee6, ee7, ee8, ee9, ee10, ee11, ee12, ee13, f7, f9, f4, f10, hab]; omega) | omega)
      have ew7 : tm_tw (nI k0) (nI k1) = tm_tw (nI (tm_ss P q (R0, C0, A0, k0, nI q, d0, e0, nx)).2.2.2.1) (nI k1) := congr (congrArg (tm_tw) ew7_0) rfl
      have ew8_0 : A0 = ((tm_ss P q (R0, C0, A0, k0, nI q, d0, e0, nx)).2.2.1) := by first | rfl | (simp [tm_ss, hv, f13, ee0, ee5, ee6, ee7, ee8, ee9, ee10, ee11, ee12, ee13, f7, f9, f4, f10, hab]; done)
      have ew8 : tm_jn 120 A0 A1 = tm_jn 120 ((tm_ss P q (R0, C0, A0, k0, nI q, d0, e0, nx)).2.2.1) A1 := congr (congrArg (tm_jn 120) ew8_0) rfl
      have hP : va_P D cls [(m0, .inr (5, [.int th, .int (nI n), .ref oA, .ref aA, .ref bB, .ref cC, .int tl, .int (nI k), .ref gA, .ref zA, .ref bA, .ref sR, .ref sD, .ref rA, .ref eC, .ref eA, .ref pA, .ref dA, .ref kA, .ref acA, .int ((tm_ss P q (R0, C0, A0, k0, nI q, d0, e0, nx)).2.2.2.2.2.2.2)])), (oA, .inl (cI, 24, .inl Po)), (aA, .inl (cI, 24, .inl Pa)), (bB, .inl (cI, 24, .inl Pb)), (cC, .inl (cI, 24, .inl Pc)), (gA, .inl (cI, 1600, .inl G)), (zA, .inl (cZ, 400, .inl O)), (bA, .inl (cI, 25, .inl B)), (sR, .inl (cI, 8, .inl sr)), (sD, .inl (cI, 32, .inl sd)), (rA, .inl (cI, 16, .inl (tm_jn 8 ((tm_ss P q (R0, C0, A0, k0, nI q, d0, e0, nx)).1) R1))), (eC, .inl (cI, 128, .inl (tm_jn 64 ((tm_ss P q (R0, C0, A0, k0, nI q, d0, e0, nx)).2.1) C1))), (eA, .inl (cI, 2, .inl (tm_tw ((tm_ss P q (R0, C0, A0, k0, nI q, d0, e0, nx)).2.2.2.2.2.2.1) e1))), (pA, .inl (cI, 2, .inl (tm_tw ((tm_ss P q (R0, C0, A0, k0, nI q, d0, e0, nx)).2.2.2.2.1) h1))), (dA, .inl (cI, 2, .inl (tm_tw ((tm_ss P q (R0, C0, A0, k0, nI q, d0, e0, nx)).2.2.2.2.2.1) d1))), (kA, .inl (cI, 2, .inl (tm_tw (nI (tm_ss P q (R0, C0, A0, k0, nI q, d0, e0, nx)).2.2.2.1) (nI k1)))), (acA, .inl (cI, 240, .inl (tm_jn 120 ((tm_ss P q (R0, C0, A0, k0, nI q, d0, e0, nx)).2.2.1) A1)))] H := by rw [← ew1, ← ew2, ← ew3, ← ew4, ← ew5, ← ew6, ← ew7, ← ew8]; exact hP
      have hD : va_D A [(m0, .inr (5, [.int th, .int (nI n), .ref oA, .ref aA, .ref bB, .ref cC, .int tl, .int (nI k), .ref gA, .ref zA, .ref bA, .ref sR, .ref sD, .ref rA, .ref eC, .ref eA, .ref pA, .ref dA, .ref kA, .ref acA, .int ((tm_ss P q (R0, C0, A0, k0, nI q, d0, e0, nx)).2.2.2.2.2.2.2)])), (oA, .inl (cI, 24, .inl Po)), (aA, .inl (cI, 24, .inl Pa)), (bB, .inl (cI, 24, .inl Pb)), (cC, .inl (cI, 24, .inl Pc)), (gA, .inl (cI, 1600, .inl G)), (zA, .inl (cZ, 400, .inl O)), (bA, .inl (cI, 25, .inl B)), (sR, .inl (cI, 8, .inl sr)), (sD, .inl (cI, 32, .inl sd)), (rA, .inl (cI, 16, .inl (tm_jn 8 ((tm_ss P q (R0, C0, A0, k0, nI q, d0, e0, nx)).1) R1))), (eC, .inl (cI, 128, .inl (tm_jn 64 ((tm_ss P q (R0, C0, A0, k0, nI q, d0, e0, nx)).2.1) C1))), (eA, .inl (cI, 2, .inl (tm_tw ((tm_ss P q (R0, C0, A0, k0, nI q, d0, e0, nx)).2.2.2.2.2.2.1) e1))), (pA, .inl (cI, 2, .inl (tm_tw ((tm_ss P q (R0, C0, A0, k0, nI q, d0, e0, nx)).2.2.2.2.1) h1))), (dA, .inl (cI, 2, .inl (tm_tw ((tm_ss P q (R0, C0, A0, k0, nI q, d0, e0, nx)).2.2.2.2.2.1) d1))), (kA, .inl (cI, 2, .inl (tm_tw (nI (tm_ss P q (R0, C0, A0, k0, nI q, d0, e0, nx)).2.2.2.1) (nI k1)))), (acA, .inl (cI, 240, .inl (tm_jn 120 ((tm_ss P q (R0, C0, A0, k0, nI q, d0, e0, nx)).2.2.1) A1)))] := by rw [← ew1, ← ew2, ← ew3, ← ew4, ← ew5, ← ew6, ← ew7, ← ew8]; exact hD
      exact W.vret hx hb hr (fun t9 ht9 hW9 => ⟨⟨(), rfl, trivial, by rw [ht9]; exact hP, hD⟩, hS.F ht9⟩) hS.2.2 d_Mo_source_392
    · refine lv_iconst (v := 1) hx hb d_Mo_source_324 (by decide) ?_
      refine lv_goto (tgt := 329) hx hb d_Mo_source_325 rfl ?_
      refine lv_iload_n hx hb d_Mo_source_329 rfl (lv_at hl 4 rfl) ?_
      refine lv_bipush (v := 9) hx hb d_Mo_source_330 (by decide) ?_
      refine lv_icmp_ne (tgt := 339) hx hb d_Mo_source_332 rfl (fun _ => ?_) (fun hz9 => absurd hz9 (ee9))
      refine lv_iconst (v := 0) hx hb d_Mo_source_339 (by decide) ?_
      refine lv_icmp_ne (tgt := 350) hx hb d_Mo_source_340 rfl (fun _ => ?_) (fun hz9 => absurd hz9 (by decide))
      refine lv_iload_n hx hb d_Mo_source_350 rfl (lv_at hl 4 rfl) ?_
      refine lv_bipush (v := 12) hx hb d_Mo_source_351 (by decide) ?_
      refine lv_icmp_ne (tgt := 369) hx hb d_Mo_source_353 rfl (fun _ => ?_) (fun hz9 => absurd hz9 (ee12))
      refine lv_aload_n hx hb d_Mo_source_369 rfl (lv_at hl 6 rfl) ?_
      refine va_get (D := D) (ci := 5) (v := .ref rA) (C := R_Mo) (T := F_Mo) (N := 21) hx hb hg f_Mo hown hK.1 hP 0 rfl rfl 13 (by decide) (hg _ q576) (fun _ h9 => h9) rfl d_Mo_source_370 ?_
      refine lv_iconst (v := 0) hx hb d_Mo_source_373 (by decide) ?_
      refine lv_iconst (v := 0) hx hb d_Mo_source_374 (by decide) ?_
      refine xa_st hx hb hK hP hD hS 10 0 rfl rfl (kx := 0) (rfl) (by decide) (by decide) d_Mo_source_375 (fun H locs hP hD hS => ?_)
      have hP : va_P D cls [(m0, .inr (5, [.int th, .int (nI n), .ref oA, .ref aA, .ref bB, .ref cC, .int tl, .int (nI k), .ref gA, .ref zA, .ref bA, .ref sR, .ref sD, .ref rA, .ref eC, .ref eA, .ref pA, .ref dA, .ref kA, .ref acA, .int nx])), (oA, .inl (cI, 24, .inl Po)), (aA, .inl (cI, 24, .inl Pa)), (bB, .inl (cI, 24, .inl Pb)), (cC, .inl (cI, 24, .inl Pc)), (gA, .inl (cI, 1600, .inl G)), (zA, .inl (cZ, 400, .inl O)), (bA, .inl (cI, 25, .inl B)), (sR, .inl (cI, 8, .inl sr)), (sD, .inl (cI, 32, .inl sd)), (rA, .inl (cI, 16, .inl (upd (tm_jn 8 R0 R1) 0 0))), (eC, .inl (cI, 128, .inl (tm_jn 64 C0 C1))), (eA, .inl (cI, 2, .inl (tm_tw e0 e1))), (pA, .inl (cI, 2, .inl (tm_tw (nI q) h1))), (dA, .inl (cI, 2, .inl (tm_tw (d0 + 1) d1))), (kA, .inl (cI, 2, .inl (tm_tw (nI k0) (nI k1)))), (acA, .inl (cI, 240, .inl (tm_jn 120 A0 A1)))] H := hP
      have hD : va_D A [(m0, .inr (5, [.int th, .int (nI n), .ref oA, .ref aA, .ref bB, .ref cC, .int tl, .int (nI k), .ref gA, .ref zA, .ref bA, .ref sR, .ref sD, .ref rA, .ref eC, .ref eA, .ref pA, .ref dA, .ref kA, .ref acA, .int nx])), (oA, .inl (cI, 24, .inl Po)), (aA, .inl (cI, 24, .inl Pa)), (bB, .inl (cI, 24, .inl Pb)), (cC, .inl (cI, 24, .inl Pc)), (gA, .inl (cI, 1600, .inl G)), (zA, .inl (cZ, 400, .inl O)), (bA, .inl (cI, 25, .inl B)), (sR, .inl (cI, 8, .inl sr)), (sD, .inl (cI, 32, .inl sd)), (rA, .inl (cI, 16, .inl (upd (tm_jn 8 R0 R1) 0 0))), (eC, .inl (cI, 128, .inl (tm_jn 64 C0 C1))), (eA, .inl (cI, 2, .inl (tm_tw e0 e1))), (pA, .inl (cI, 2, .inl (tm_tw (nI q) h1))), (dA, .inl (cI, 2, .inl (tm_tw (d0 + 1) d1))), (kA, .inl (cI, 2, .inl (tm_tw (nI k0) (nI k1)))), (acA, .inl (cI, 240, .inl (tm_jn 120 A0 A1)))] := hD
      rw [tm_jn_ul (by omega)] at hP hD
      have hP : va_P D cls [(m0, .inr (5, [.int th, .int (nI n), .ref oA, .ref aA, .ref bB, .ref cC, .int tl, .int (nI k), .ref gA, .ref zA, .ref bA, .ref sR, .ref sD, .ref rA, .ref eC, .ref eA, .ref pA, .ref dA, .ref kA, .ref acA, .int nx])), (oA, .inl (cI, 24, .inl Po)), (aA, .inl (cI, 24, .inl Pa)), (bB, .inl (cI, 24, .inl Pb)), (cC, .inl (cI, 24, .inl Pc)), (gA, .inl (cI, 1600, .inl G)), (zA, .inl (cZ, 400, .inl O)), (bA, .inl (cI, 25, .inl B)), (sR, .inl (cI, 8, .inl sr)), (sD, .inl (cI, 32, .inl sd)), (rA, .inl (cI, 16, .inl (tm_jn 8 (upd R0 0 0) R1))), (eC, .inl (cI, 128, .inl (tm_jn 64 C0 C1))), (eA, .inl (cI, 2, .inl (tm_tw e0 e1))), (pA, .inl (cI, 2, .inl (tm_tw (nI q) h1))), (dA, .inl (cI, 2, .inl (tm_tw (d0 + 1) d1))), (kA, .inl (cI, 2, .inl (tm_tw (nI k0) (nI k1)))), (acA, .inl (cI, 240, .inl (tm_jn 120 A0 A1)))] H := hP
      have hD : va_D A [(m0, .inr (5, [.int th, .int (nI n), .ref oA, .ref aA, .ref bB, .ref cC, .int tl, .int (nI k), .ref gA, .ref zA, .ref bA, .ref sR, .ref sD, .ref rA, .ref eC, .ref eA, .ref pA, .ref dA, .ref kA, .ref acA, .int nx])), (oA, .inl (cI, 24, .inl Po)), (aA, .inl (cI, 24, .inl Pa)), (bB, .inl (cI, 24, .inl Pb)), (cC, .inl (cI, 24, .inl Pc)), (gA, .inl (cI, 1600, .inl G)), (zA, .inl (cZ, 400, .inl O)), (bA, .inl (cI, 25, .inl B)), (sR, .inl (cI, 8, .inl sr)), (sD, .inl (cI, 32, .inl sd)), (rA, .inl (cI, 16, .inl (tm_jn 8 (upd R0 0 0) R1))), (eC, .inl (cI, 128, .inl (tm_jn 64 C0 C1))), (eA, .inl (cI, 2, .inl (tm_tw e0 e1))), (pA, .inl (cI, 2, .inl (tm_tw (nI q) h1))), (dA, .inl (cI, 2, .inl (tm_tw (d0 + 1) d1))), (kA, .inl (cI, 2, .inl (tm_tw (nI k0) (nI k1)))), (acA, .inl (cI, 240, .inl (tm_jn 120 A0 A1)))] := hD
      refine lv_aload_n hx hb d_Mo_source_376 rfl (lv_at hl 6 rfl) ?_
      refine va_get (D := D) (ci := 5) (v := .ref pA) (C := R_Mo) (T := F_Mo) (N := 21) hx hb hg f_Mo hown hK.1 hP 0 rfl rfl 16 (by decide) (hg _ q579) (fun _ h9 => h9) rfl d_Mo_source_377 ?_
      refine lv_iconst (v := 0) hx hb d_Mo_source_380 (by decide) ?_
      refine lv_aload_n hx hb d_Mo_source_381 rfl (lv_at hl 6 rfl) ?_
      refine va_get (D := D) (ci := 5) (v := .int nx) (C := R_Mo) (T := F_Mo) (N := 21) hx hb hg f_Mo hown hK.1 hP 0 rfl rfl 20 (by decide) (hg _ q583) (fun _ h9 => h9) rfl d_Mo_source_382 ?_
      refine xa_st hx hb hK hP hD hS 13 0 rfl rfl (kx := 0) (rfl) (by decide) (by decide) d_Mo_source_385 (fun H locs hP hD hS => ?_)
      have hP : va_P D cls [(m0, .inr (5, [.int th, .int (nI n), .ref oA, .ref aA, .ref bB, .ref cC, .int tl, .int (nI k), .ref gA, .ref zA, .ref bA, .ref sR, .ref sD, .ref rA, .ref eC, .ref eA, .ref pA, .ref dA, .ref kA, .ref acA, .int nx])), (oA, .inl (cI, 24, .inl Po)), (aA, .inl (cI, 24, .inl Pa)), (bB, .inl (cI, 24, .inl Pb)), (cC, .inl (cI, 24, .inl Pc)), (gA, .inl (cI, 1600, .inl G)), (zA, .inl (cZ, 400, .inl O)), (bA, .inl (cI, 25, .inl B)), (sR, .inl (cI, 8, .inl sr)), (sD, .inl (cI, 32, .inl sd)), (rA, .inl (cI, 16, .inl (tm_jn 8 (upd R0 0 0) R1))), (eC, .inl (cI, 128, .inl (tm_jn 64 C0 C1))), (eA, .inl (cI, 2, .inl (tm_tw e0 e1))), (pA, .inl (cI, 2, .inl (upd (tm_tw (nI q) h1) 0 nx))), (dA, .inl (cI, 2, .inl (tm_tw (d0 + 1) d1))), (kA, .inl (cI, 2, .inl (tm_tw (nI k0) (nI k1)))), (acA, .inl (cI, 240, .inl (tm_jn 120 A0 A1)))] H := hP
      have hD : va_D A [(m0, .inr (5, [.int th, .int (nI n), .ref oA, .ref aA, .ref bB, .ref cC, .int tl, .int (nI k), .ref gA, .ref zA, .ref bA, .ref sR, .ref sD, .ref rA, .ref eC, .ref eA, .ref pA, .ref dA, .ref kA, .ref acA, .int nx])), (oA, .inl (cI, 24, .inl Po)), (aA, .inl (cI, 24, .inl Pa)), (bB, .inl (cI, 24, .inl Pb)), (cC, .inl (cI, 24, .inl Pc)), (gA, .inl (cI, 1600, .inl G)), (zA, .inl (cZ, 400, .inl O)), (bA, .inl (cI, 25, .inl B)), (sR, .inl (cI, 8, .inl sr)), (sD, .inl (cI, 32, .inl sd)), (rA, .inl (cI, 16, .inl (tm_jn 8 (upd R0 0 0) R1))), (eC, .inl (cI, 128, .inl (tm_jn 64 C0 C1))), (eA, .inl (cI, 2, .inl (tm_tw e0 e1))), (pA, .inl (cI, 2, .inl (upd (tm_tw (nI q) h1) 0 nx))), (dA, .inl (cI, 2, .inl (tm_tw (d0 + 1) d1))), (kA, .inl (cI, 2, .inl (tm_tw (nI k0) (nI k1)))), (acA, .inl (cI, 240, .inl (tm_jn 120 A0 A1)))] := hD
      rw [tm_tw_0] at hP hD
      have hP : va_P D cls [(m0, .inr (5, [.int th, .int (nI n), .ref oA, .ref aA, .ref bB, .ref cC, .int tl, .int (nI k), .ref gA, .ref zA, .ref bA, .ref sR, .ref sD, .ref rA, .ref eC, .ref eA, .ref pA, .ref dA, .ref kA, .ref acA, .int nx])), (oA, .inl (cI, 24, .inl Po)), (aA, .inl (cI, 24, .inl Pa)), (bB, .inl (cI, 24, .inl Pb)), (cC, .inl (cI, 24, .inl Pc)), (gA, .inl (cI, 1600, .inl G)), (zA, .inl (cZ, 400, .inl O)), (bA, .inl (cI, 25, .inl B)), (sR, .inl (cI, 8, .inl sr)), (sD, .inl (cI, 32, .inl sd)), (rA, .inl (cI, 16, .inl (tm_jn 8 (upd R0 0 0) R1))), (eC, .inl (cI, 128, .inl (tm_jn 64 C0 C1))), (eA, .inl (cI, 2, .inl (tm_tw e0 e1))), (pA, .inl (cI, 2, .inl (tm_tw nx h1))), (dA, .inl (cI, 2, .inl (tm_tw (d0 + 1) d1))), (kA, .inl (cI, 2, .inl (tm_tw (nI k0) (nI k1)))), (acA, .inl (cI, 240, .inl (tm_jn 120 A0 A1)))] H := hP
      have hD : va_D A [(m0, .inr (5, [.int th, .int (nI n), .ref oA, .ref aA, .ref bB, .ref cC, .int tl, .int (nI k), .ref gA, .ref zA, .ref bA, .ref sR, .ref sD, .ref rA, .ref eC, .ref eA, .ref pA, .ref dA, .ref kA, .ref acA, .int nx])), (oA, .inl (cI, 24, .inl Po)), (aA, .inl (cI, 24, .inl Pa)), (bB, .inl (cI, 24, .inl Pb)), (cC, .inl (cI, 24, .inl Pc)), (gA, .inl (cI, 1600, .inl G)), (zA, .inl (cZ, 400, .inl O)), (bA, .inl (cI, 25, .inl B)), (sR, .inl (cI, 8, .inl sr)), (sD, .inl (cI, 32, .inl sd)), (rA, .inl (cI, 16, .inl (tm_jn 8 (upd R0 0 0) R1))), (eC, .inl (cI, 128, .inl (tm_jn 64 C0 C1))), (eA, .inl (cI, 2, .inl (tm_tw e0 e1))), (pA, .inl (cI, 2, .inl (tm_tw nx h1))), (dA, .inl (cI, 2, .inl (tm_tw (d0 + 1) d1))), (kA, .inl (cI, 2, .inl (tm_tw (nI k0) (nI k1)))), (acA, .inl (cI, 240, .inl (tm_jn 120 A0 A1)))] := hD
      refine lv_aload_n hx hb d_Mo_source_386 rfl (lv_at hl 6 rfl) ?_
      refine lv_iload hx hb d_Mo_source_387 (lv_at hl 0 rfl) ?_
      refine va_put (D := D) (ci := 5) (v := .int (nx + 1)) (ty := .int) (C := R_Mo) (T := F_Mo) (N := 21) hx hb hg f_Mo t_Mo t_Mo_ok n_Mo hown hK.1 hP hD hS 0 rfl rfl 20 (by decide) (hg _ q583) (fun _ h9 => h9) rfl (by decide +kernel) rfl rfl (Nat.le_of_ble_eq_true rfl) d_Mo_source_389 (fun H locs hP hD hS => ?_)
      have hP : va_P D cls [(m0, .inr (5, [.int th, .int (nI n), .ref oA, .ref aA, .ref bB, .ref cC, .int tl, .int (nI k), .ref gA, .ref zA, .ref bA, .ref sR, .ref sD, .ref rA, .ref eC, .ref eA, .ref pA, .ref dA, .ref kA, .ref acA, .int (nx + 1)])), (oA, .inl (cI, 24, .inl Po)), (aA, .inl (cI, 24, .inl Pa)), (bB, .inl (cI, 24, .inl Pb)), (cC, .inl (cI, 24, .inl Pc)), (gA, .inl (cI, 1600, .inl G)), (zA, .inl (cZ, 400, .inl O)), (bA, .inl (cI, 25, .inl B)), (sR, .inl (cI, 8, .inl sr)), (sD, .inl (cI, 32, .inl sd)), (rA, .inl (cI, 16, .inl (tm_jn 8 (upd R0 0 0) R1))), (eC, .inl (cI, 128, .inl (tm_jn 64 C0 C1))), (eA, .inl (cI, 2, .inl (tm_tw e0 e1))), (pA, .inl (cI, 2, .inl (tm_tw nx h1))), (dA, .inl (cI, 2, .inl (tm_tw (d0 + 1) d1))), (kA, .inl (cI, 2, .inl (tm_tw (nI k0) (nI k1)))), (acA, .inl (cI, 240, .inl (tm_jn 120 A0 A1)))] H := hP
      have hD : va_D A [(m0, .inr (5, [.int th, .int (nI n), .ref oA, .ref aA, .ref bB, .ref cC, .int tl, .int (nI k), .ref gA, .ref zA, .ref bA, .ref sR, .ref sD, .ref rA, .ref eC, .ref eA, .ref pA, .ref dA, .ref kA, .ref acA, .int (nx + 1)])), (oA, .inl (cI, 24, .inl Po)), (aA, .inl (cI, 24, .inl Pa)), (bB, .inl (cI, 24, .inl Pb)), (cC, .inl (cI, 24, .inl Pc)), (gA, .inl (cI, 1600, .inl G)), (zA, .inl (cZ, 400, .inl O)), (bA, .inl (cI, 25, .inl B)), (sR, .inl (cI, 8, .inl sr)), (sD, .inl (cI, 32, .inl sd)), (rA, .inl (cI, 16, .inl (tm_jn 8 (upd R0 0 0) R1))), (eC, .inl (cI, 128, .inl (tm_jn 64 C0 C1))), (eA, .inl (cI, 2, .inl (tm_tw e0 e1))), (pA, .inl (cI, 2, .inl (tm_tw nx h1))), (dA, .inl (cI, 2, .inl (tm_tw (d0 + 1) d1))), (kA, .inl (cI, 2, .inl (tm_tw (nI k0) (nI k1)))), (acA, .inl (cI, 240, .inl (tm_jn 120 A0 A1)))] := hD
      have ew1 : nx + 1 = (tm_ss P q (R0, C0, A0, k0, nI q, d0, e0, nx)).2.2.2.2.2.2.2 := by simp [tm_ss, tm_sb, tm_ld, hv, ha, hbb, hc_a, hc_b, f13, ee0, ee5, ee6, ee7, ee8, ee9, ee10, ee11, ee12, ee13, f7, f9, f4, f10, hab]
      have ew2_0 : (upd R0 0 0) = ((tm_ss P q (R0, C0, A0, k0, nI q, d0, e0, nx)).1) := by rw [tm_upd0 hR0]; simp [tm_ss, hv, f13, ee0, ee5, ee6, ee7, ee8, ee9, ee10, ee11, ee12, ee13, f7, f9, f4, f10]
      have ew2 : tm_jn 8 (upd R0 0 0) R1 = tm_jn 8 ((tm_ss P q (R0, C0, A0, k0, nI q, d0, e0, nx)).1) R1 := congr (congrArg (tm_jn 8) ew2_0) rfl
      have ew3_0 : C0 = ((tm_ss P q (R0, C0, A0, k0, nI q, d0, e0, nx)).2.1) := by first | rfl | (simp [tm_ss, hv, f13, ee0, ee5, ee6, ee7, ee8, ee9, ee10, ee11, ee12, ee13, f7, f9, f4, f10, hab]; done)
      have ew3 : tm_jn 64 C0 C1 = tm_jn 64 ((tm_ss P q (R0, C0, A0, k0, nI q, d0, e0, nx)).2.1) C1 := congr (congrArg (tm_jn 64) ew3_0) rfl
      have ew4_0 : e0 = ((tm_ss P q (R0, C0, A0, k0, nI q, d0, e0, nx)).2.2.2.2.2.2.1) := by first | rfl | (simp [tm_ss, hv, f13, ee0, ee5, ee6, ee7, ee8, ee9, ee10, ee11, ee12, ee13, f7, f9, f4, f10, hab]; done)
      have ew4 : tm_tw e0 e1 = tm_tw ((tm_ss P q (R0, C0, A0, k0, nI q, d0, e0, nx)).2.2.2.2.2.2.1) e1 := congr (congrArg (tm_tw) ew4_0) rfl
      have ew5_0 : nx = ((tm_ss P q (R0, C0, A0, k0, nI q, d0, e0, nx)).2.2.2.2.1) := by first | rfl | (simp [tm_ss, hv, f13, ee0, ee5, ee6, ee7, ee8, ee9, ee10, ee11, ee12, ee13, f7, f9, f4, f10, hab]; done)
      have ew5 : tm_tw nx h1 = tm_tw ((tm_ss P q (R0, C0, A0, k0, nI q, d0, e0, nx)).2.2.2.2.1) h1 := congr (congrArg (tm_tw) ew5_0) rfl
      have ew6_0 : (d0 + 1) = ((tm_ss P q (R0, C0, A0, k0, nI q, d0, e0, nx)).2.2.2.2.2.1) := by first | rfl | (simp [tm_ss, hv, f13, ee0, ee5, ee6, ee7, ee8, ee9, ee10, ee11, ee12, ee13, f7, f9, f4, f10, hab]; done)
      have ew6 : tm_tw (d0 + 1) d1 = tm_tw ((tm_ss P q (R0, C0, A0, k0, nI q, d0, e0, nx)).2.2.2.2.2.1) d1 := congr (congrArg (tm_tw) ew6_0) rfl
      have ew7_0 : (nI k0) = (nI (tm_ss P q (R0, C0, A0, k0, nI q, d0, e0, nx)).2.2.2.1) := congrArg nI (by first | (simp [tm_ss, hv, f13, ee0, ee5, ee6, ee7, ee8, ee9, ee10, ee11, ee12, ee13, f7, f9, f4, f10, hab]; done) | (simp [tm_ss, hv, f13, ee0, ee5, ee6, ee7, ee8, ee9, ee10, ee11, ee12, ee13, f7, f9, f4, f10, hab]; omega) | omega)
      have ew7 : tm_tw (nI k0) (nI k1) = tm_tw (nI (tm_ss P q (R0, C0, A0, k0, nI q, d0, e0, nx)).2.2.2.1) (nI k1) := congr (congrArg (tm_tw) ew7_0) rfl
      have ew8_0 : A0 = ((tm_ss P q (R0, C0, A0, k0, nI q, d0, e0, nx)).2.2.1) := by first | rfl | (simp [tm_ss, hv, f13, ee0, ee5, ee6, ee7, ee8, ee9, ee10, ee11, ee12, ee13, f7, f9, f4, f10, hab]; done)
      have ew8 : tm_jn 120 A0 A1 = tm_jn 120 ((tm_ss P q (R0, C0, A0, k0, nI q, d0, e0, nx)).2.2.1) A1 := congr (congrArg (tm_jn 120) ew8_0) rfl
      have hP : va_P D cls [(m0, .inr (5, [.int th, .int (nI n), .ref oA, .ref aA, .ref bB, .ref cC, .int tl, .int (nI k), .ref gA, .ref zA, .ref bA, .ref sR, .ref sD, .ref rA, .ref eC, .ref eA, .ref pA, .ref dA, .ref kA, .ref acA, .int ((tm_ss P q (R0, C0, A0, k0, nI q, d0, e0, nx)).2.2.2.2.2.2.2)])), (oA, .inl (cI, 24, .inl Po)), (aA, .inl (cI, 24, .inl Pa)), (bB, .inl (cI, 24, .inl Pb)), (cC, .inl (cI, 24, .inl Pc)), (gA, .inl (cI, 1600, .inl G)), (zA, .inl (cZ, 400, .inl O)), (bA, .inl (cI, 25, .inl B)), (sR, .inl (cI, 8, .inl sr)), (sD, .inl (cI, 32, .inl sd)), (rA, .inl (cI, 16, .inl (tm_jn 8 ((tm_ss P q (R0, C0, A0, k0, nI q, d0, e0, nx)).1) R1))), (eC, .inl (cI, 128, .inl (tm_jn 64 ((tm_ss P q (R0, C0, A0, k0, nI q, d0, e0, nx)).2.1) C1))), (eA, .inl (cI, 2, .inl (tm_tw ((tm_ss P q (R0, C0, A0, k0, nI q, d0, e0, nx)).2.2.2.2.2.2.1) e1))), (pA, .inl (cI, 2, .inl (tm_tw ((tm_ss P q (R0, C0, A0, k0, nI q, d0, e0, nx)).2.2.2.2.1) h1))), (dA, .inl (cI, 2, .inl (tm_tw ((tm_ss P q (R0, C0, A0, k0, nI q, d0, e0, nx)).2.2.2.2.2.1) d1))), (kA, .inl (cI, 2, .inl (tm_tw (nI (tm_ss P q (R0, C0, A0, k0, nI q, d0, e0, nx)).2.2.2.1) (nI k1)))), (acA, .inl (cI, 240, .inl (tm_jn 120 ((tm_ss P q (R0, C0, A0, k0, nI q, d0, e0, nx)).2.2.1) A1)))] H := by rw [← ew1, ← ew2, ← ew3, ← ew4, ← ew5, ← ew6, ← ew7, ← ew8]; exact hP
      have hD : va_D A [(m0, .inr (5, [.int th, .int (nI n), .ref oA, .ref aA, .ref bB, .ref cC, .int tl, .int (nI k), .ref gA, .ref zA, .ref bA, .ref sR, .ref sD, .ref rA, .ref eC, .ref eA, .ref pA, .ref dA, .ref kA, .ref acA, .int ((tm_ss P q (R0, C0, A0, k0, nI q, d0, e0, nx)).2.2.2.2.2.2.2)])), (oA, .inl (cI, 24, .inl Po)), (aA, .inl (cI, 24, .inl Pa)), (bB, .inl (cI, 24, .inl Pb)), (cC, .inl (cI, 24, .inl Pc)), (gA, .inl (cI, 1600, .inl G)), (zA, .inl (cZ, 400, .inl O)), (bA, .inl (cI, 25, .inl B)), (sR, .inl (cI, 8, .inl sr)), (sD, .inl (cI, 32, .inl sd)), (rA, .inl (cI, 16, .inl (tm_jn 8 ((tm_ss P q (R0, C0, A0, k0, nI q, d0, e0, nx)).1) R1))), (eC, .inl (cI, 128, .inl (tm_jn 64 ((tm_ss P q (R0, C0, A0, k0, nI q, d0, e0, nx)).2.1) C1))), (eA, .inl (cI, 2, .inl (tm_tw ((tm_ss P q (R0, C0, A0, k0, nI q, d0, e0, nx)).2.2.2.2.2.2.1) e1))), (pA, .inl (cI, 2, .inl (tm_tw ((tm_ss P q (R0, C0, A0, k0, nI q, d0, e0, nx)).2.2.2.2.1) h1))), (dA, .inl (cI, 2, .inl (tm_tw ((tm_ss P q (R0, C0, A0, k0, nI q, d0, e0, nx)).2.2.2.2.2.1) d1))), (kA, .inl (cI, 2, .inl (tm_tw (nI (tm_ss P q (R0, C0, A0, k0, nI q, d0, e0, nx)).2.2.2.1) (nI k1)))), (acA, .inl (cI, 240, .inl (tm_jn 120 ((tm_ss P q (R0, C0, A0, k0, nI q, d0, e0, nx)).2.2.1) A1)))] := by rw [← ew1, ← ew2, ← ew3, ← ew4, ← ew5, ← ew6, ← ew7, ← ew8]; exact hD
      exact W.vret hx hb hr (fun t9 ht9 hW9 => ⟨⟨(), rfl, trivial, by rw [ht9]; exact hP, hD⟩, hS.F ht9⟩) hS.2.2 d_Mo_source_392
  · have f13 : ¬ 13 < nI v := nI_nlt (a := 13) (b := v) (by omega) (by decide)
    have ee0 : ¬ nI v = 0 := xn_ne (w := 0) (by omega) (by decide) (by omega)
    have ee5 : ¬ nI v = 5 := xn_ne (w := 5) (by omega) (by decide) (by omega)
    have ee6 : ¬ nI v = 6 := xn_ne (w := 6) (by omega) (by decide) (by omega)
    have ee7 : ¬ nI v = 7 := xn_ne (w := 7) (by omega) (by decide) (by omega)
    have ee8 : ¬ nI v = 8 := xn_ne (w := 8) (by omega) (by decide) (by omega)
    have ee9 : ¬ nI v = 9 := xn_ne (w := 9) (by omega) (by decide) (by omega)
    have ee10 : ¬ nI v = 10 := xn_ne (w := 10) (by omega) (by decide) (by omega)
    have ee11 : nI v = 11 := by rw [hcase]; rfl
    have ee12 : ¬ nI v = 12 := xn_ne (w := 12) (by omega) (by decide) (by omega)
    have ee13 : ¬ nI v = 13 := xn_ne (w := 13) (by omega) (by decide) (by omega)
    have f7 : ¬ nI v < 7 := nI_nlt (a := v) (b := 7) (by omega) (by omega)
    have f9 : ¬ nI v < 9 := nI_nlt (a := v) (b := 9) (by omega) (by omega)
    have f4 : 4 < nI v := nI_lt (a := 4) (b := v) (by omega) (by omega)
    have f10 : 10 < nI v := nI_lt (a := 10) (b := v) (by omega) (by omega)
    refine lv_aload_n hx hb d_Mo_source_0 rfl (lv_at hl 0 rfl) ?_
    refine va_get (D := D) (ci := 5) (v := .ref pA) (C := R_Mo) (T := F_Mo) (N := 21) hx hb hg f_Mo hown hK.1 hP 0 rfl rfl 16 (by decide) (hg _ q579) (fun _ h9 => h9) rfl d_Mo_source_1 ?_
    refine lv_iconst (v := 0) hx hb d_Mo_source_4 (by decide) ?_
    refine xa_ld hx hb hK hP 13 0 rfl rfl (kx := 0) (rfl) (by decide) (by decide) d_Mo_source_5 ?_
    have eq9 : ((tm_tw (nI q) h1) 0 : Int32) = nI q := rfl
    refine W.eq (g2 := F0 m 6 ls [.int (nI q)]) (by rw [eq9]) ?_
    refine lv_istore_n hx hb d_Mo_source_6 rfl hl (by decide) rfl (fun ls hl => ?_)
    have hl : lv_has ls 7 [(1, .int (nI q)), (0, .ref m0)] := hl
    refine lv_iload_n hx hb d_Mo_source_7 rfl (lv_at hl 0 rfl) ?_
    refine lv_iconst (v := 0) hx hb d_Mo_source_8 (by decide) ?_
    refine lv_aload_n hx hb d_Mo_source_9 rfl (lv_at hl 1 rfl) ?_
    refine va_get (D := D) (ci := 5) (v := .int (nI n)) (C := R_Mo) (T := F_Mo) (N := 21) hx hb hg f_Mo hown hK.1 hP 0 rfl rfl 1 (by decide) (hg _ q564) (fun _ h9 => h9) rfl d_Mo_source_10 ?_
    refine lv_iconst (v := 1) hx hb d_Mo_source_13 (by decide) ?_
    refine lv_isub hx hb d_Mo_source_14 ?_
    have eq9 : ((nI n) - 1 : Int32) = nI (n - 1) := pk_sub (a := n) (b := 1) (by omega)
    refine W.eq (g2 := F0 m 15 ls [.int (nI (n - 1)), .int 0, .int (nI q)]) (by rw [eq9]) ?_
    refine xr_S (As := [.int (nI q), .int 0, .int (nI (n - 1))]) (rest := []) ⟨hx, hb, hml, hown, hg⟩ (c_Mo_in l D cI cZ cJ (nI q) 0 (nI (n - 1))) m_Mo_in q636 ⟨rfl, rfl⟩ ⟨Nat.le_of_ble_eq_true rfl, Nat.le_of_ble_eq_true rfl⟩ hK hP [] rfl rfl hl.1 rfl (Nat.le_of_ble_eq_true rfl) d_Mo_source_15 ⟨Nat.zero_le _, Nat.zero_le _⟩ ?_
    refine lv_if_eq (tgt := 30) hx hb d_Mo_source_18 rfl (fun hz9 => absurd hz9 (tm_wi_y (nI_le (a := 0) (b := q) (by omega) (by omega)) (nI_le (a := q) (b := n - 1) (by omega) (by omega)))) (fun _ => ?_)
    refine lv_aload_n hx hb d_Mo_source_21 rfl (lv_at hl 1 rfl) ?_
    refine va_get (D := D) (ci := 5) (v := .ref oA) (C := R_Mo) (T := F_Mo) (N := 21) hx hb hg f_Mo hown hK.1 hP 0 rfl rfl 2 (by decide) (hg _ q565) (fun _ h9 => h9) rfl d_Mo_source_22 ?_
    refine lv_iload_n hx hb d_Mo_source_25 rfl (lv_at hl 0 rfl) ?_
    refine xa_ld hx hb hK hP 1 0 rfl rfl (kx := q) (rfl) (by omega) (by decide) d_Mo_source_26 ?_
    have eq9 : (Po q : Int32) = P (4 * q) := hPo q
    refine W.eq (g2 := F0 m 27 ls [.int (P (4 * q))]) (by rw [eq9]) ?_
    refine lv_goto (tgt := 32) hx hb d_Mo_source_27 rfl ?_
    have eq9 : (P (4 * q) : Int32) = nI v := hv
    refine W.eq (g2 := F0 m 32 ls [.int (nI v)]) (by rw [eq9]) ?_
    refine lv_istore_n hx hb d_Mo_source_32 rfl hl (by decide) rfl (fun ls hl => ?_)
    have hl : lv_has ls 7 [(2, .int (nI v)), (1, .int (nI q)), (0, .ref m0)] := hl
    refine lv_iload_n hx hb d_Mo_source_33 rfl (lv_at hl 0 rfl) ?_
    refine lv_bipush (v := 13) hx hb d_Mo_source_34 (by decide) ?_
    refine lv_icmp_le (tgt := 43) hx hb d_Mo_source_36 rfl (fun _ => ?_) (fun hz9 => absurd (nI_le (a := v) (b := 13) (by omega) (by decide)) hz9)
    refine lv_aload_n hx hb d_Mo_source_43 rfl (lv_at hl 2 rfl) ?_
    refine va_get (D := D) (ci := 5) (v := .ref rA) (C := R_Mo) (T := F_Mo) (N := 21) hx hb hg f_Mo hown hK.1 hP 0 rfl rfl 13 (by decide) (hg _ q576) (fun _ h9 => h9) rfl d_Mo_source_44 ?_
    refine lv_aload_n hx hb d_Mo_source_47 rfl (lv_at hl 2 rfl) ?_
    refine va_get (D := D) (ci := 5) (v := .ref aA) (C := R_Mo) (T := F_Mo) (N := 21) hx hb hg f_Mo hown hK.1 hP 0 rfl rfl 3 (by decide) (hg _ q566) (fun _ h9 => h9) rfl d_Mo_source_48 ?_
    refine lv_iload_n hx hb d_Mo_source_51 rfl (lv_at hl 1 rfl) ?_
    refine xa_ld hx hb hK hP 2 0 rfl rfl (kx := q) (rfl) (by omega) (by decide) d_Mo_source_52 ?_
    have eq9 : (Pa q : Int32) = P (4 * q + 1) := hPa q
    refine W.eq (g2 := F0 m 53 ls [.int (P (4 * q + 1)), .ref rA]) (by rw [eq9]) ?_
    refine xa_ld hx hb hK hP 10 0 rfl rfl (kx := a) (ha) (by omega) (by decide) d_Mo_source_53 ?_
    have eq9 : ((tm_jn 8 R0 R1) a : Int32) = R0 a := tm_jn_lo (by omega)
    refine W.eq (g2 := F0 m 54 ls [.int (R0 a)]) (by rw [eq9]) ?_
    refine lv_istore_n hx hb d_Mo_source_54 rfl hl (by decide) rfl (fun ls hl => ?_)
    have hl : lv_has ls 7 [(3, .int (R0 a)), (2, .int (nI v)), (1, .int (nI q)), (0, .ref m0)] := hl
    refine lv_iload_n hx hb d_Mo_source_55 rfl (lv_at hl 1 rfl) ?_
    refine lv_bipush (v := 13) hx hb d_Mo_source_56 (by decide) ?_
    refine lv_icmp_le (tgt := 65) hx hb d_Mo_source_58 rfl (fun _ => ?_) (fun hz9 => absurd (nI_le (a := v) (b := 13) (by omega) (by decide)) hz9)
    refine lv_aload_n hx hb d_Mo_source_65 rfl (lv_at hl 3 rfl) ?_
    refine va_get (D := D) (ci := 5) (v := .ref rA) (C := R_Mo) (T := F_Mo) (N := 21) hx hb hg f_Mo hown hK.1 hP 0 rfl rfl 13 (by decide) (hg _ q576) (fun _ h9 => h9) rfl d_Mo_source_66 ?_
    refine lv_aload_n hx hb d_Mo_source_69 rfl (lv_at hl 3 rfl) ?_
    refine va_get (D := D) (ci := 5) (v := .ref bB) (C := R_Mo) (T := F_Mo) (N := 21) hx hb hg f_Mo hown hK.1 hP 0 rfl rfl 4 (by decide) (hg _ q567) (fun _ h9 => h9) rfl d_Mo_source_70 ?_
    refine lv_iload_n hx hb d_Mo_source_73 rfl (lv_at hl 2 rfl) ?_
    refine xa_ld hx hb hK hP 3 0 rfl rfl (kx := q) (rfl) (by omega) (by decide) d_Mo_source_74 ?_
    have eq9 : (Pb q : Int32) = P (4 * q + 2) := hPb q
    refine W.eq (g2 := F0 m 75 ls [.int (P (4 * q + 2)), .ref rA]) (by rw [eq9]) ?_
    refine xa_ld hx hb hK hP 10 0 rfl rfl (kx := b) (hbb) (by omega) (by decide) d_Mo_source_75 ?_
    have eq9 : ((tm_jn 8 R0 R1) b : Int32) = R0 b := tm_jn_lo (by omega)
    refine W.eq (g2 := F0 m 76 ls [.int (R0 b)]) (by rw [eq9]) ?_
    refine lv_istore hx hb d_Mo_source_76 hl (by decide) rfl (fun ls hl => ?_)
    have hl : lv_has ls 7 [(4, .int (R0 b)), (3, .int (R0 a)), (2, .int (nI v)), (1, .int (nI q)), (0, .ref m0)] := hl
    refine lv_iload_n hx hb d_Mo_source_78 rfl (lv_at hl 2 rfl) ?_
    refine lv_bipush (v := 13) hx hb d_Mo_source_79 (by decide) ?_
    refine lv_icmp_le (tgt := 88) hx hb d_Mo_source_81 rfl (fun _ => ?_) (fun hz9 => absurd (nI_le (a := v) (b := 13) (by omega) (by decide)) hz9)
    refine lv_iload hx hb d_Mo_source_88 (lv_at hl 0 rfl) ?_
    refine lv_aload_n hx hb d_Mo_source_90 rfl (lv_at hl 4 rfl) ?_
    refine va_get (D := D) (ci := 5) (v := .ref cC) (C := R_Mo) (T := F_Mo) (N := 21) hx hb hg f_Mo hown hK.1 hP 0 rfl rfl 5 (by decide) (hg _ q568) (fun _ h9 => h9) rfl d_Mo_source_91 ?_
    refine lv_iload_n hx hb d_Mo_source_94 rfl (lv_at hl 3 rfl) ?_
    refine xa_ld hx hb hK hP 4 0 rfl rfl (kx := q) (rfl) (by omega) (by decide) d_Mo_source_95 ?_
    have eq9 : (Pc q : Int32) = P (4 * q + 3) := hPc q
    refine W.eq (g2 := F0 m 96 ls [.int (P (4 * q + 3)), .int (R0 b)]) (by rw [eq9]) ?_
    refine lv_iadd hx hb d_Mo_source_96 ?_
    refine xr_S (As := [.int ((R0 b) + (P (4 * q + 3)))]) (rest := []) ⟨hx, hb, hml, hown, hg⟩ (c_Mo_round l D cI cZ cJ ((R0 b) + (P (4 * q + 3)))) m_Mo_round q725 ⟨rfl, rfl⟩ ⟨Nat.le_of_ble_eq_true rfl, Nat.le_of_ble_eq_true rfl⟩ hK hP [] rfl rfl hl.1 rfl (Nat.le_of_ble_eq_true rfl) d_Mo_source_97 ⟨Nat.zero_le _, Nat.zero_le _⟩ ?_
    refine lv_istore hx hb d_Mo_source_100 hl (by decide) rfl (fun ls hl => ?_)
    have hl : lv_has ls 7 [(5, .int (tm_wr ((R0 b) + (P (4 * q + 3))))), (4, .int (R0 b)), (3, .int (R0 a)), (2, .int (nI v)), (1, .int (nI q)), (0, .ref m0)] := hl
    refine lv_iload_n hx hb d_Mo_source_102 rfl (lv_at hl 3 rfl) ?_
    refine lv_bipush (v := 13) hx hb d_Mo_source_103 (by decide) ?_
    refine lv_icmp_gt (tgt := 131) hx hb d_Mo_source_105 rfl (fun hz9 => absurd hz9 (f13)) (fun _ => ?_)
    refine lv_iload_n hx hb d_Mo_source_108 rfl (lv_at hl 3 rfl) ?_
    refine lv_bipush (v := 7) hx hb d_Mo_source_109 (by decide) ?_
    refine lv_icmp_eq (tgt := 120) hx hb d_Mo_source_111 rfl (fun hz9 => absurd hz9 (ee7)) (fun _ => ?_)
    refine lv_iload_n hx hb d_Mo_source_114 rfl (lv_at hl 3 rfl) ?_
    refine lv_bipush (v := 8) hx hb d_Mo_source_115 (by decide) ?_
    refine lv_icmp_ne (tgt := 139) hx hb d_Mo_source_117 rfl (fun _ => ?_) (fun hz9 => absurd hz9 (ee8))
    refine lv_aload_n hx hb d_Mo_source_139 rfl (lv_at hl 5 rfl) ?_
    refine va_get (D := D) (ci := 5) (v := .ref dA) (C := R_Mo) (T := F_Mo) (N := 21) hx hb hg f_Mo hown hK.1 hP 0 rfl rfl 17 (by decide) (hg _ q580) (fun _ h9 => h9) rfl d_Mo_source_140 ?_
    refine lv_iconst (v := 0) hx hb d_Mo_source_143 (by decide) ?_
    refine lv_dup2_11 hx hb d_Mo_source_144 rfl rfl ?_
    refine xa_ld hx hb hK hP 14 0 rfl rfl (kx := 0) (rfl) (by decide) (by decide) d_Mo_source_145 ?_
    have eq9 : ((tm_tw d0 d1) 0 : Int32) = d0 := rfl
    refine W.eq (g2 := F0 m 146 ls [.int d0, .int 0, .ref dA]) (by rw [eq9]) ?_
    refine lv_iconst (v := 1) hx hb d_Mo_source_146 (by decide) ?_
    refine lv_iadd hx hb d_Mo_source_147 ?_
    refine xa_st hx hb hK hP hD hS 14 0 rfl rfl (kx := 0) (rfl) (by decide) (by decide) d_Mo_source_148 (fun H locs hP hD hS => ?_)
    have hP : va_P D cls [(m0, .inr (5, [.int th, .int (nI n), .ref oA, .ref aA, .ref bB, .ref cC, .int tl, .int (nI k), .ref gA, .ref zA, .ref bA, .ref sR, .ref sD, .ref rA, .ref eC, .ref eA, .ref pA, .ref dA, .ref kA, .ref acA, .int nx])), (oA, .inl (cI, 24, .inl Po)), (aA, .inl (cI, 24, .inl Pa)), (bB, .inl (cI, 24, .inl Pb)), (cC, .inl (cI, 24, .inl Pc)), (gA, .inl (cI, 1600, .inl G)), (zA, .inl (cZ, 400, .inl O)), (bA, .inl (cI, 25, .inl B)), (sR, .inl (cI, 8, .inl sr)), (sD, .inl (cI, 32, .inl sd)), (rA, .inl (cI, 16, .inl (tm_jn 8 R0 R1))), (eC, .inl (cI, 128, .inl (tm_jn 64 C0 C1))), (eA, .inl (cI, 2, .inl (tm_tw e0 e1))), (pA, .inl (cI, 2, .inl (tm_tw (nI q) h1))), (dA, .inl (cI, 2, .inl (upd (tm_tw d0 d1) 0 (d0 + 1)))), (kA, .inl (cI, 2, .inl (tm_tw (nI k0) (nI k1)))), (acA, .inl (cI, 240, .inl (tm_jn 120 A0 A1)))] H := hP
    have hD : va_D A [(m0, .inr (5, [.int th, .int (nI n), .ref oA, .ref aA, .ref bB, .ref cC, .int tl, .int (nI k), .ref gA, .ref zA, .ref bA, .ref sR, .ref sD, .ref rA, .ref eC, .ref eA, .ref pA, .ref dA, .ref kA, .ref acA, .int nx])), (oA, .inl (cI, 24, .inl Po)), (aA, .inl (cI, 24, .inl Pa)), (bB, .inl (cI, 24, .inl Pb)), (cC, .inl (cI, 24, .inl Pc)), (gA, .inl (cI, 1600, .inl G)), (zA, .inl (cZ, 400, .inl O)), (bA, .inl (cI, 25, .inl B)), (sR, .inl (cI, 8, .inl sr)), (sD, .inl (cI, 32, .inl sd)), (rA, .inl (cI, 16, .inl (tm_jn 8 R0 R1))), (eC, .inl (cI, 128, .inl (tm_jn 64 C0 C1))), (eA, .inl (cI, 2, .inl (tm_tw e0 e1))), (pA, .inl (cI, 2, .inl (tm_tw (nI q) h1))), (dA, .inl (cI, 2, .inl (upd (tm_tw d0 d1) 0 (d0 + 1)))), (kA, .inl (cI, 2, .inl (tm_tw (nI k0) (nI k1)))), (acA, .inl (cI, 240, .inl (tm_jn 120 A0 A1)))] := hD
    rw [tm_tw_0] at hP hD
    have hP : va_P D cls [(m0, .inr (5, [.int th, .int (nI n), .ref oA, .ref aA, .ref bB, .ref cC, .int tl, .int (nI k), .ref gA, .ref zA, .ref bA, .ref sR, .ref sD, .ref rA, .ref eC, .ref eA, .ref pA, .ref dA, .ref kA, .ref acA, .int nx])), (oA, .inl (cI, 24, .inl Po)), (aA, .inl (cI, 24, .inl Pa)), (bB, .inl (cI, 24, .inl Pb)), (cC, .inl (cI, 24, .inl Pc)), (gA, .inl (cI, 1600, .inl G)), (zA, .inl (cZ, 400, .inl O)), (bA, .inl (cI, 25, .inl B)), (sR, .inl (cI, 8, .inl sr)), (sD, .inl (cI, 32, .inl sd)), (rA, .inl (cI, 16, .inl (tm_jn 8 R0 R1))), (eC, .inl (cI, 128, .inl (tm_jn 64 C0 C1))), (eA, .inl (cI, 2, .inl (tm_tw e0 e1))), (pA, .inl (cI, 2, .inl (tm_tw (nI q) h1))), (dA, .inl (cI, 2, .inl (tm_tw (d0 + 1) d1))), (kA, .inl (cI, 2, .inl (tm_tw (nI k0) (nI k1)))), (acA, .inl (cI, 240, .inl (tm_jn 120 A0 A1)))] H := hP
    have hD : va_D A [(m0, .inr (5, [.int th, .int (nI n), .ref oA, .ref aA, .ref bB, .ref cC, .int tl, .int (nI k), .ref gA, .ref zA, .ref bA, .ref sR, .ref sD, .ref rA, .ref eC, .ref eA, .ref pA, .ref dA, .ref kA, .ref acA, .int nx])), (oA, .inl (cI, 24, .inl Po)), (aA, .inl (cI, 24, .inl Pa)), (bB, .inl (cI, 24, .inl Pb)), (cC, .inl (cI, 24, .inl Pc)), (gA, .inl (cI, 1600, .inl G)), (zA, .inl (cZ, 400, .inl O)), (bA, .inl (cI, 25, .inl B)), (sR, .inl (cI, 8, .inl sr)), (sD, .inl (cI, 32, .inl sd)), (rA, .inl (cI, 16, .inl (tm_jn 8 R0 R1))), (eC, .inl (cI, 128, .inl (tm_jn 64 C0 C1))), (eA, .inl (cI, 2, .inl (tm_tw e0 e1))), (pA, .inl (cI, 2, .inl (tm_tw (nI q) h1))), (dA, .inl (cI, 2, .inl (tm_tw (d0 + 1) d1))), (kA, .inl (cI, 2, .inl (tm_tw (nI k0) (nI k1)))), (acA, .inl (cI, 240, .inl (tm_jn 120 A0 A1)))] := hD
    refine lv_iload_n hx hb d_Mo_source_149 rfl (lv_at hl 3 rfl) ?_
    refine lv_if_ne (tgt := 161) hx hb d_Mo_source_150 rfl (fun _ => ?_) (fun hz9 => absurd hz9 (ee0))
    refine lv_aload_n hx hb d_Mo_source_161 rfl (lv_at hl 5 rfl) ?_
    refine va_get (D := D) (ci := 5) (v := .int nx) (C := R_Mo) (T := F_Mo) (N := 21) hx hb hg f_Mo hown hK.1 hP 0 rfl rfl 20 (by decide) (hg _ q583) (fun _ h9 => h9) rfl d_Mo_source_162 ?_
    refine lv_iconst (v := 1) hx hb d_Mo_source_165 (by decide) ?_
    refine lv_iadd hx hb d_Mo_source_166 ?_
    refine lv_istore hx hb d_Mo_source_167 hl (by decide) rfl (fun ls hl => ?_)
    have hl : lv_has ls 7 [(6, .int (nx + 1)), (5, .int (tm_wr ((R0 b) + (P (4 * q + 3))))), (4, .int (R0 b)), (3, .int (R0 a)), (2, .int (nI v)), (1, .int (nI q)), (0, .ref m0)] := hl
    refine lv_iload_n hx hb d_Mo_source_169 rfl (lv_at hl 4 rfl) ?_
    refine lv_iconst (v := 5) hx hb d_Mo_source_170 (by decide) ?_
    refine lv_icmp_gt (tgt := 222) hx hb d_Mo_source_171 rfl (fun _ => ?_) (fun hz9 => absurd (nI_lt (a := 5) (b := v) (by omega) (by omega)) hz9)
    refine lv_iload_n hx hb d_Mo_source_222 rfl (lv_at hl 4 rfl) ?_
    refine lv_bipush (v := 6) hx hb d_Mo_source_223 (by decide) ?_
    refine lv_icmp_ne (tgt := 255) hx hb d_Mo_source_225 rfl (fun _ => ?_) (fun hz9 => absurd hz9 (ee6))
    refine lv_iload_n hx hb d_Mo_source_255 rfl (lv_at hl 4 rfl) ?_
    refine lv_bipush (v := 7) hx hb d_Mo_source_256 (by decide) ?_
    refine lv_icmp_eq (tgt := 267) hx hb d_Mo_source_258 rfl (fun hz9 => absurd hz9 (ee7)) (fun _ => ?_)
    refine lv_iload_n hx hb d_Mo_source_261 rfl (lv_at hl 4 rfl) ?_
    refine lv_bipush (v := 8) hx hb d_Mo_source_262 (by decide) ?_
    refine lv_icmp_ne (tgt := 294) hx hb d_Mo_source_264 rfl (fun _ => ?_) (fun hz9 => absurd hz9 (ee8))
    refine lv_iload_n hx hb d_Mo_source_294 rfl (lv_at hl 4 rfl) ?_
    refine lv_bipush (v := 13) hx hb d_Mo_source_295 (by decide) ?_
    refine lv_icmp_ne (tgt := 306) hx hb d_Mo_source_297 rfl (fun _ => ?_) (fun hz9 => absurd hz9 (ee13))
    refine lv_iload_n hx hb d_Mo_source_306 rfl (lv_at hl 4 rfl) ?_
    refine lv_bipush (v := 11) hx hb d_Mo_source_307 (by decide) ?_
    refine lv_icmp_eq (tgt := 343) hx hb d_Mo_source_309 rfl (fun _ => ?_) (fun hz9 => absurd (ee11) hz9)
    refine lv_aload_n hx hb d_Mo_source_343 rfl (lv_at hl 6 rfl) ?_
    refine lv_iload_n hx hb d_Mo_source_344 rfl (lv_at hl 5 rfl) ?_
    refine xr_V (C := R_Mo) (As := [.int (nI q)]) (rest := []) ⟨hx, hb, hml, hown, hg⟩ (c_Mo_goal l D cI cZ cJ m0 oA aA bB cC gA zA bA sR sD rA eC eA pA dA kA acA Po Pa Pb Pc G O B sr sd (tm_jn 8 R0 R1) (tm_jn 64 C0 C1) (tm_tw e0 e1) (tm_tw (nI q) h1) (tm_tw (d0 + 1) d1) (tm_tw (nI k0) (nI k1)) (tm_jn 120 A0 A1) n k th tl nx P q v (hPo) (hPa) (hPb) (hPc) (by omega) (by omega) (hv) (by omega) (by omega)) m_Mo_goal q658 sp_Mo_goal ⟨rfl, rfl⟩ ⟨Nat.le_of_ble_eq_true rfl, Nat.le_of_ble_eq_true rfl⟩ hK hP [0, 1, 2, 3, 4, 5, 6, 7, 8, 9, 10, 11, 12, 13, 14, 15, 16] rfl (va_recv (q0 := 0) hK.1 hP rfl rfl) rfl hl.1 rfl (Nat.le_of_ble_eq_true rfl) d_Mo_source_345 ⟨Nat.zero_le _, Nat.zero_le _⟩ ?_
    refine lv_istore hx hb d_Mo_source_348 hl (by decide) rfl (fun ls hl => ?_)
    have hl : lv_has ls 7 [(6, .int (tm_ld P q)), (5, .int (tm_wr ((R0 b) + (P (4 * q + 3))))), (4, .int (R0 b)), (3, .int (R0 a)), (2, .int (nI v)), (1, .int (nI q)), (0, .ref m0)] := hl
    refine lv_iload_n hx hb d_Mo_source_350 rfl (lv_at hl 4 rfl) ?_
    refine lv_bipush (v := 12) hx hb d_Mo_source_351 (by decide) ?_
    refine lv_icmp_ne (tgt := 369) hx hb d_Mo_source_353 rfl (fun _ => ?_) (fun hz9 => absurd hz9 (ee12))
    refine lv_aload_n hx hb d_Mo_source_369 rfl (lv_at hl 6 rfl) ?_
    refine va_get (D := D) (ci := 5) (v := .ref rA) (C := R_Mo) (T := F_Mo) (N := 21) hx hb hg f_Mo hown hK.1 hP 0 rfl rfl 13 (by decide) (hg _ q576) (fun _ h9 => h9) rfl d_Mo_source_370 ?_
    refine lv_iconst (v := 0) hx hb d_Mo_source_373 (by decide) ?_
    refine lv_iconst (v := 0) hx hb d_Mo_source_374 (by decide) ?_
    refine xa_st hx hb hK hP hD hS 10 0 rfl rfl (kx := 0) (rfl) (by decide) (by decide) d_Mo_source_375 (fun H locs hP hD hS => ?_)
    have hP : va_P D cls [(m0, .inr (5, [.int th, .int (nI n), .ref oA, .ref aA, .ref bB, .ref cC, .int tl, .int (nI k), .ref gA, .ref zA, .ref bA, .ref sR, .ref sD, .ref rA, .ref eC, .ref eA, .ref pA, .ref dA, .ref kA, .ref acA, .int nx])), (oA, .inl (cI, 24, .inl Po)), (aA, .inl (cI, 24, .inl Pa)), (bB, .inl (cI, 24, .inl Pb)), (cC, .inl (cI, 24, .inl Pc)), (gA, .inl (cI, 1600, .inl G)), (zA, .inl (cZ, 400, .inl O)), (bA, .inl (cI, 25, .inl B)), (sR, .inl (cI, 8, .inl sr)), (sD, .inl (cI, 32, .inl sd)), (rA, .inl (cI, 16, .inl (upd (tm_jn 8 R0 R1) 0 0))), (eC, .inl (cI, 128, .inl (tm_jn 64 C0 C1))), (eA, .inl (cI, 2, .inl (tm_tw e0 e1))), (pA, .inl (cI, 2, .inl (tm_tw (nI q) h1))), (dA, .inl (cI, 2, .inl (tm_tw (d0 + 1) d1))), (kA, .inl (cI, 2, .inl (tm_tw (nI k0) (nI k1)))), (acA, .inl (cI, 240, .inl (tm_jn 120 A0 A1)))] H := hP
    have hD : va_D A [(m0, .inr (5, [.int th, .int (nI n), .ref oA, .ref aA, .ref bB, .ref cC, .int tl, .int (nI k), .ref gA, .ref zA, .ref bA, .ref sR, .ref sD, .ref rA, .ref eC, .ref eA, .ref pA, .ref dA, .ref kA, .ref acA, .int nx])), (oA, .inl (cI, 24, .inl Po)), (aA, .inl (cI, 24, .inl Pa)), (bB, .inl (cI, 24, .inl Pb)), (cC, .inl (cI, 24, .inl Pc)), (gA, .inl (cI, 1600, .inl G)), (zA, .inl (cZ, 400, .inl O)), (bA, .inl (cI, 25, .inl B)), (sR, .inl (cI, 8, .inl sr)), (sD, .inl (cI, 32, .inl sd)), (rA, .inl (cI, 16, .inl (upd (tm_jn 8 R0 R1) 0 0))), (eC, .inl (cI, 128, .inl (tm_jn 64 C0 C1))), (eA, .inl (cI, 2, .inl (tm_tw e0 e1))), (pA, .inl (cI, 2, .inl (tm_tw (nI q) h1))), (dA, .inl (cI, 2, .inl (tm_tw (d0 + 1) d1))), (kA, .inl (cI, 2, .inl (tm_tw (nI k0) (nI k1)))), (acA, .inl (cI, 240, .inl (tm_jn 120 A0 A1)))] := hD
    rw [tm_jn_ul (by omega)] at hP hD
    have hP : va_P D cls [(m0, .inr (5, [.int th, .int (nI n), .ref oA, .ref aA, .ref bB, .ref cC, .int tl, .int (nI k), .ref gA, .ref zA, .ref bA, .ref sR, .ref sD, .ref rA, .ref eC, .ref eA, .ref pA, .ref dA, .ref kA, .ref acA, .int nx])), (oA, .inl (cI, 24, .inl Po)), (aA, .inl (cI, 24, .inl Pa)), (bB, .inl (cI, 24, .inl Pb)), (cC, .inl (cI, 24, .inl Pc)), (gA, .inl (cI, 1600, .inl G)), (zA, .inl (cZ, 400, .inl O)), (bA, .inl (cI, 25, .inl B)), (sR, .inl (cI, 8, .inl sr)), (sD, .inl (cI, 32, .inl sd)), (rA, .inl (cI, 16, .inl (tm_jn 8 (upd R0 0 0) R1))), (eC, .inl (cI, 128, .inl (tm_jn 64 C0 C1))), (eA, .inl (cI, 2, .inl (tm_tw e0 e1))), (pA, .inl (cI, 2, .inl (tm_tw (nI q) h1))), (dA, .inl (cI, 2, .inl (tm_tw (d0 + 1) d1))), (kA, .inl (cI, 2, .inl (tm_tw (nI k0) (nI k1)))), (acA, .inl (cI, 240, .inl (tm_jn 120 A0 A1)))] H := hP
    have hD : va_D A [(m0, .inr (5, [.int th, .int (nI n), .ref oA, .ref aA, .ref bB, .ref cC, .int tl, .int (nI k), .ref gA, .ref zA, .ref bA, .ref sR, .ref sD, .ref rA, .ref eC, .ref eA, .ref pA, .ref dA, .ref kA, .ref acA, .int nx])), (oA, .inl (cI, 24, .inl Po)), (aA, .inl (cI, 24, .inl Pa)), (bB, .inl (cI, 24, .inl Pb)), (cC, .inl (cI, 24, .inl Pc)), (gA, .inl (cI, 1600, .inl G)), (zA, .inl (cZ, 400, .inl O)), (bA, .inl (cI, 25, .inl B)), (sR, .inl (cI, 8, .inl sr)), (sD, .inl (cI, 32, .inl sd)), (rA, .inl (cI, 16, .inl (tm_jn 8 (upd R0 0 0) R1))), (eC, .inl (cI, 128, .inl (tm_jn 64 C0 C1))), (eA, .inl (cI, 2, .inl (tm_tw e0 e1))), (pA, .inl (cI, 2, .inl (tm_tw (nI q) h1))), (dA, .inl (cI, 2, .inl (tm_tw (d0 + 1) d1))), (kA, .inl (cI, 2, .inl (tm_tw (nI k0) (nI k1)))), (acA, .inl (cI, 240, .inl (tm_jn 120 A0 A1)))] := hD
    refine lv_aload_n hx hb d_Mo_source_376 rfl (lv_at hl 6 rfl) ?_
    refine va_get (D := D) (ci := 5) (v := .ref pA) (C := R_Mo) (T := F_Mo) (N := 21) hx hb hg f_Mo hown hK.1 hP 0 rfl rfl 16 (by decide) (hg _ q579) (fun _ h9 => h9) rfl d_Mo_source_377 ?_
    refine lv_iconst (v := 0) hx hb d_Mo_source_380 (by decide) ?_
    refine lv_aload_n hx hb d_Mo_source_381 rfl (lv_at hl 6 rfl) ?_
    refine va_get (D := D) (ci := 5) (v := .int nx) (C := R_Mo) (T := F_Mo) (N := 21) hx hb hg f_Mo hown hK.1 hP 0 rfl rfl 20 (by decide) (hg _ q583) (fun _ h9 => h9) rfl d_Mo_source_382 ?_
    refine xa_st hx hb hK hP hD hS 13 0 rfl rfl (kx := 0) (rfl) (by decide) (by decide) d_Mo_source_385 (fun H locs hP hD hS => ?_)
    have hP : va_P D cls [(m0, .inr (5, [.int th, .int (nI n), .ref oA, .ref aA, .ref bB, .ref cC, .int tl, .int (nI k), .ref gA, .ref zA, .ref bA, .ref sR, .ref sD, .ref rA, .ref eC, .ref eA, .ref pA, .ref dA, .ref kA, .ref acA, .int nx])), (oA, .inl (cI, 24, .inl Po)), (aA, .inl (cI, 24, .inl Pa)), (bB, .inl (cI, 24, .inl Pb)), (cC, .inl (cI, 24, .inl Pc)), (gA, .inl (cI, 1600, .inl G)), (zA, .inl (cZ, 400, .inl O)), (bA, .inl (cI, 25, .inl B)), (sR, .inl (cI, 8, .inl sr)), (sD, .inl (cI, 32, .inl sd)), (rA, .inl (cI, 16, .inl (tm_jn 8 (upd R0 0 0) R1))), (eC, .inl (cI, 128, .inl (tm_jn 64 C0 C1))), (eA, .inl (cI, 2, .inl (tm_tw e0 e1))), (pA, .inl (cI, 2, .inl (upd (tm_tw (nI q) h1) 0 nx))), (dA, .inl (cI, 2, .inl (tm_tw (d0 + 1) d1))), (kA, .inl (cI, 2, .inl (tm_tw (nI k0) (nI k1)))), (acA, .inl (cI, 240, .inl (tm_jn 120 A0 A1)))] H := hP
    have hD : va_D A [(m0, .inr (5, [.int th, .int (nI n), .ref oA, .ref aA, .ref bB, .ref cC, .int tl, .int (nI k), .ref gA, .ref zA, .ref bA, .ref sR, .ref sD, .ref rA, .ref eC, .ref eA, .ref pA, .ref dA, .ref kA, .ref acA, .int nx])), (oA, .inl (cI, 24, .inl Po)), (aA, .inl (cI, 24, .inl Pa)), (bB, .inl (cI, 24, .inl Pb)), (cC, .inl (cI, 24, .inl Pc)), (gA, .inl (cI, 1600, .inl G)), (zA, .inl (cZ, 400, .inl O)), (bA, .inl (cI, 25, .inl B)), (sR, .inl (cI, 8, .inl sr)), (sD, .inl (cI, 32, .inl sd)), (rA, .inl (cI, 16, .inl (tm_jn 8 (upd R0 0 0) R1))), (eC, .inl (cI, 128, .inl (tm_jn 64 C0 C1))), (eA, .inl (cI, 2, .inl (tm_tw e0 e1))), (pA, .inl (cI, 2, .inl (upd (tm_tw (nI q) h1) 0 nx))), (dA, .inl (cI, 2, .inl (tm_tw (d0 + 1) d1))), (kA, .inl (cI, 2, .inl (tm_tw (nI k0) (nI k1)))), (acA, .inl (cI, 240, .inl (tm_jn 120 A0 A1)))] := hD
    rw [tm_tw_0] at hP hD
    have hP : va_P D cls [(m0, .inr (5, [.int th, .int (nI n), .ref oA, .ref aA, .ref bB, .ref cC, .int tl, .int (nI k), .ref gA, .ref zA, .ref bA, .ref sR, .ref sD, .ref rA, .ref eC, .ref eA, .ref pA, .ref dA, .ref kA, .ref acA, .int nx])), (oA, .inl (cI, 24, .inl Po)), (aA, .inl (cI, 24, .inl Pa)), (bB, .inl (cI, 24, .inl Pb)), (cC, .inl (cI, 24, .inl Pc)), (gA, .inl (cI, 1600, .inl G)), (zA, .inl (cZ, 400, .inl O)), (bA, .inl (cI, 25, .inl B)), (sR, .inl (cI, 8, .inl sr)), (sD, .inl (cI, 32, .inl sd)), (rA, .inl (cI, 16, .inl (tm_jn 8 (upd R0 0 0) R1))), (eC, .inl (cI, 128, .inl (tm_jn 64 C0 C1))), (eA, .inl (cI, 2, .inl (tm_tw e0 e1))), (pA, .inl (cI, 2, .inl (tm_tw nx h1))), (dA, .inl (cI, 2, .inl (tm_tw (d0 + 1) d1))), (kA, .inl (cI, 2, .inl (tm_tw (nI k0) (nI k1)))), (acA, .inl (cI, 240, .inl (tm_jn 120 A0 A1)))] H := hP
    have hD : va_D A [(m0, .inr (5, [.int th, .int (nI n), .ref oA, .ref aA, .ref bB, .ref cC, .int tl, .int (nI k), .ref gA, .ref zA, .ref bA, .ref sR, .ref sD, .ref rA, .ref eC, .ref eA, .ref pA, .ref dA, .ref kA, .ref acA, .int nx])), (oA, .inl (cI, 24, .inl Po)), (aA, .inl (cI, 24, .inl Pa)), (bB, .inl (cI, 24, .inl Pb)), (cC, .inl (cI, 24, .inl Pc)), (gA, .inl (cI, 1600, .inl G)), (zA, .inl (cZ, 400, .inl O)), (bA, .inl (cI, 25, .inl B)), (sR, .inl (cI, 8, .inl sr)), (sD, .inl (cI, 32, .inl sd)), (rA, .inl (cI, 16, .inl (tm_jn 8 (upd R0 0 0) R1))), (eC, .inl (cI, 128, .inl (tm_jn 64 C0 C1))), (eA, .inl (cI, 2, .inl (tm_tw e0 e1))), (pA, .inl (cI, 2, .inl (tm_tw nx h1))), (dA, .inl (cI, 2, .inl (tm_tw (d0 + 1) d1))), (kA, .inl (cI, 2, .inl (tm_tw (nI k0) (nI k1)))), (acA, .inl (cI, 240, .inl (tm_jn 120 A0 A1)))] := hD
    refine lv_aload_n hx hb d_Mo_source_386 rfl (lv_at hl 6 rfl) ?_
    refine lv_iload hx hb d_Mo_source_387 (lv_at hl 0 rfl) ?_
    refine va_put (D := D) (ci := 5) (v := .int (tm_ld P q)) (ty := .int) (C := R_Mo) (T := F_Mo) (N := 21) hx hb hg f_Mo t_Mo t_Mo_ok n_Mo hown hK.1 hP hD hS 0 rfl rfl 20 (by decide) (hg _ q583) (fun _ h9 => h9) rfl (by decide +kernel) rfl rfl (Nat.le_of_ble_eq_true rfl) d_Mo_source_389 (fun H locs hP hD hS => ?_)
    have hP : va_P D cls [(m0, .inr (5, [.int th, .int (nI n), .ref oA, .ref aA, .ref bB, .ref cC, .int tl, .int (nI k), .ref gA, .ref zA, .ref bA, .ref sR, .ref sD, .ref rA, .ref eC, .ref eA, .ref pA, .ref dA, .ref kA, .ref acA, .int (tm_ld P q)])), (oA, .inl (cI, 24, .inl Po)), (aA, .inl (cI, 24, .inl Pa)), (bB, .inl (cI, 24, .inl Pb)), (cC, .inl (cI, 24, .inl Pc)), (gA, .inl (cI, 1600, .inl G)), (zA, .inl (cZ, 400, .inl O)), (bA, .inl (cI, 25, .inl B)), (sR, .inl (cI, 8, .inl sr)), (sD, .inl (cI, 32, .inl sd)), (rA, .inl (cI, 16, .inl (tm_jn 8 (upd R0 0 0) R1))), (eC, .inl (cI, 128, .inl (tm_jn 64 C0 C1))), (eA, .inl (cI, 2, .inl (tm_tw e0 e1))), (pA, .inl (cI, 2, .inl (tm_tw nx h1))), (dA, .inl (cI, 2, .inl (tm_tw (d0 + 1) d1))), (kA, .inl (cI, 2, .inl (tm_tw (nI k0) (nI k1)))), (acA, .inl (cI, 240, .inl (tm_jn 120 A0 A1)))] H := hP
    have hD : va_D A [(m0, .inr (5, [.int th, .int (nI n), .ref oA, .ref aA, .ref bB, .ref cC, .int tl, .int (nI k), .ref gA, .ref zA, .ref bA, .ref sR, .ref sD, .ref rA, .ref eC, .ref eA, .ref pA, .ref dA, .ref kA, .ref acA, .int (tm_ld P q)])), (oA, .inl (cI, 24, .inl Po)), (aA, .inl (cI, 24, .inl Pa)), (bB, .inl (cI, 24, .inl Pb)), (cC, .inl (cI, 24, .inl Pc)), (gA, .inl (cI, 1600, .inl G)), (zA, .inl (cZ, 400, .inl O)), (bA, .inl (cI, 25, .inl B)), (sR, .inl (cI, 8, .inl sr)), (sD, .inl (cI, 32, .inl sd)), (rA, .inl (cI, 16, .inl (tm_jn 8 (upd R0 0 0) R1))), (eC, .inl (cI, 128, .inl (tm_jn 64 C0 C1))), (eA, .inl (cI, 2, .inl (tm_tw e0 e1))), (pA, .inl (cI, 2, .inl (tm_tw nx h1))), (dA, .inl (cI, 2, .inl (tm_tw (d0 + 1) d1))), (kA, .inl (cI, 2, .inl (tm_tw (nI k0) (nI k1)))), (acA, .inl (cI, 240, .inl (tm_jn 120 A0 A1)))] := hD
    have ew1 : tm_ld P q = (tm_ss P q (R0, C0, A0, k0, nI q, d0, e0, nx)).2.2.2.2.2.2.2 := by simp [tm_ss, tm_sb, tm_ld, hv, ha, hbb, hc_a, hc_b, f13, ee0, ee5, ee6, ee7, ee8, ee9, ee10, ee11, ee12, ee13, f7, f9, f4, f10]
    have ew2_0 : (upd R0 0 0) = ((tm_ss P q (R0, C0, A0, k0, nI q, d0, e0, nx)).1) := by rw [tm_upd0 hR0]; simp [tm_ss, hv, f13, ee0, ee5, ee6, ee7, ee8, ee9, ee10, ee11, ee12, ee13, f7, f9, f4, f10]
    have ew2 : tm_jn 8 (upd R0 0 0) R1 = tm_jn 8 ((tm_ss P q (R0, C0, A0, k0, nI q, d0, e0, nx)).1) R1 := congr (congrArg (tm_jn 8) ew2_0) rfl
    have ew3_0 : C0 = ((tm_ss P q (R0, C0, A0, k0, nI q, d0, e0, nx)).2.1) := by first | rfl | (simp [tm_ss, hv, f13, ee0, ee5, ee6, ee7, ee8, ee9, ee10, ee11, ee12, ee13, f7, f9, f4, f10]; done)
    have ew3 : tm_jn 64 C0 C1 = tm_jn 64 ((tm_ss P q (R0, C0, A0, k0, nI q, d0, e0, nx)).2.1) C1 := congr (congrArg (tm_jn 64) ew3_0) rfl
    have ew4_0 : e0 = ((tm_ss P q (R0, C0, A0, k0, nI q, d0, e0, nx)).2.2.2.2.2.2.1) := by first | rfl | (simp [tm_ss, hv, f13, ee0, ee5, ee6, ee7, ee8, ee9, ee10, ee11, ee12, ee13, f7, f9, f4, f10]; done)
    have ew4 : tm_tw e0 e1 = tm_tw ((tm_ss P q (R0, C0, A0, k0, nI q, d0, e0, nx)).2.2.2.2.2.2.1) e1 := congr (congrArg (tm_tw) ew4_0) rfl
    have ew5_0 : nx = ((tm_ss P q (R0, C0, A0, k0, nI q, d0, e0, nx)).2.2.2.2.1) := by first | rfl | (simp [tm_ss, hv, f13, ee0, ee5, ee6, ee7, ee8, ee9, ee10, ee11, ee12, ee13, f7, f9, f4, f10]; done)
    have ew5 : tm_tw nx h1 = tm_tw ((tm_ss P q (R0, C0, A0, k0, nI q, d0, e0, nx)).2.2.2.2.1) h1 := congr (congrArg (tm_tw) ew5_0) rfl
    have ew6_0 : (d0 + 1) = ((tm_ss P q (R0, C0, A0, k0, nI q, d0, e0, nx)).2.2.2.2.2.1) := by first | rfl | (simp [tm_ss, hv, f13, ee0, ee5, ee6, ee7, ee8, ee9, ee10, ee11, ee12, ee13, f7, f9, f4, f10]; done)
    have ew6 : tm_tw (d0 + 1) d1 = tm_tw ((tm_ss P q (R0, C0, A0, k0, nI q, d0, e0, nx)).2.2.2.2.2.1) d1 := congr (congrArg (tm_tw) ew6_0) rfl
    have ew7_0 : (nI k0) = (nI (tm_ss P q (R0, C0, A0, k0, nI q, d0, e0, nx)).2.2.2.1) := congrArg nI (by first | (simp [tm_ss, hv, f13, ee0, ee5, ee6, ee7, ee8, ee9, ee10, ee11, ee12, ee13, f7, f9, f4, f10]; done) | (simp [tm_ss, hv, f13, ee0, ee5, ee6, ee7, ee8, ee9, ee10, ee11, ee12, ee13, f7, f9, f4, f10]; omega) | omega)
    have ew7 : tm_tw (nI k0) (nI k1) = tm_tw (nI (tm_ss P q (R0, C0, A0, k0, nI q, d0, e0, nx)).2.2.2.1) (nI k1) := congr (congrArg (tm_tw) ew7_0) rfl
    have ew8_0 : A0 = ((tm_ss P q (R0, C0, A0, k0, nI q, d0, e0, nx)).2.2.1) := by first | rfl | (simp [tm_ss, hv, f13, ee0, ee5, ee6, ee7, ee8, ee9, ee10, ee11, ee12, ee13, f7, f9, f4, f10]; done)
    have ew8 : tm_jn 120 A0 A1 = tm_jn 120 ((tm_ss P q (R0, C0, A0, k0, nI q, d0, e0, nx)).2.2.1) A1 := congr (congrArg (tm_jn 120) ew8_0) rfl
    have hP : va_P D cls [(m0, .inr (5, [.int th, .int (nI n), .ref oA, .ref aA, .ref bB, .ref cC, .int tl, .int (nI k), .ref gA, .ref zA, .ref bA, .ref sR, .ref sD, .ref rA, .ref eC, .ref eA, .ref pA, .ref dA, .ref kA, .ref acA, .int ((tm_ss P q (R0, C0, A0, k0, nI q, d0, e0, nx)).2.2.2.2.2.2.2)])), (oA, .inl (cI, 24, .inl Po)), (aA, .inl (cI, 24, .inl Pa)), (bB, .inl (cI, 24, .inl Pb)), (cC, .inl (cI, 24, .inl Pc)), (gA, .inl (cI, 1600, .inl G)), (zA, .inl (cZ, 400, .inl O)), (bA, .inl (cI, 25, .inl B)), (sR, .inl (cI, 8, .inl sr)), (sD, .inl (cI, 32, .inl sd)), (rA, .inl (cI, 16, .inl (tm_jn 8 ((tm_ss P q (R0, C0, A0, k0, nI q, d0, e0, nx)).1) R1))), (eC, .inl (cI, 128, .inl (tm_jn 64 ((tm_ss P q (R0, C0, A0, k0, nI q, d0, e0, nx)).2.1) C1))), (eA, .inl (cI, 2, .inl (tm_tw ((tm_ss P q (R0, C0, A0, k0, nI q, d0, e0, nx)).2.2.2.2.2.2.1) e1))), (pA, .inl (cI, 2, .inl (tm_tw ((tm_ss P q (R0, C0, A0, k0, nI q, d0, e0, nx)).2.2.2.2.1) h1))), (dA, .inl (cI, 2, .inl (tm_tw ((tm_ss P q (R0, C0, A0, k0, nI q, d0, e0, nx)).2.2.2.2.2.1) d1))), (kA, .inl (cI, 2, .inl (tm_tw (nI (tm_ss P q (R0, C0, A0, k0, nI q, d0, e0, nx)).2.2.2.1) (nI k1)))), (acA, .inl (cI, 240, .inl (tm_jn 120 ((tm_ss P q (R0, C0, A0, k0, nI q, d0, e0, nx)).2.2.1) A1)))] H := by rw [← ew1, ← ew2, ← ew3, ← ew4, ← ew5, ← ew6, ← ew7, ← ew8]; exact hP
    have hD : va_D A [(m0, .inr (5, [.int th, .int (nI n), .ref oA, .ref aA, .ref bB, .ref cC, .int tl, .int (nI k), .ref gA, .ref zA, .ref bA, .ref sR, .ref sD, .ref rA, .ref eC, .ref eA, .ref pA, .ref dA, .ref kA, .ref acA, .int ((tm_ss P q (R0, C0, A0, k0, nI q, d0, e0, nx)).2.2.2.2.2.2.2)])), (oA, .inl (cI, 24, .inl Po)), (aA, .inl (cI, 24, .inl Pa)), (bB, .inl (cI, 24, .inl Pb)), (cC, .inl (cI, 24, .inl Pc)), (gA, .inl (cI, 1600, .inl G)), (zA, .inl (cZ, 400, .inl O)), (bA, .inl (cI, 25, .inl B)), (sR, .inl (cI, 8, .inl sr)), (sD, .inl (cI, 32, .inl sd)), (rA, .inl (cI, 16, .inl (tm_jn 8 ((tm_ss P q (R0, C0, A0, k0, nI q, d0, e0, nx)).1) R1))), (eC, .inl (cI, 128, .inl (tm_jn 64 ((tm_ss P q (R0, C0, A0, k0, nI q, d0, e0, nx)).2.1) C1))), (eA, .inl (cI, 2, .inl (tm_tw ((tm_ss P q (R0, C0, A0, k0, nI q, d0, e0, nx)).2.2.2.2.2.2.1) e1))), (pA, .inl (cI, 2, .inl (tm_tw ((tm_ss P q (R0, C0, A0, k0, nI q, d0, e0, nx)).2.2.2.2.1) h1))), (dA, .inl (cI, 2, .inl (tm_tw ((tm_ss P q (R0, C0, A0, k0, nI q, d0, e0, nx)).2.2.2.2.2.1) d1))), (kA, .inl (cI, 2, .inl (tm_tw (nI (tm_ss P q (R0, C0, A0, k0, nI q, d0, e0, nx)).2.2.2.1) (nI k1)))), (acA, .inl (cI, 240, .inl (tm_jn 120 ((tm_ss P q (R0, C0, A0, k0, nI q, d0, e0, nx)).2.2.1) A1)))] := by rw [← ew1, ← ew2, ← ew3, ← ew4, ← ew5, ← ew6, ← ew7, ← ew8]; exact hD
    exact W.vret hx hb hr (fun t9 ht9 hW9 => ⟨⟨(), rfl, trivial, by rw [ht9]; exact hP, hD⟩, hS.F ht9⟩) hS.2.2 d_Mo_source_392
  · have f13 : ¬ 13 < nI v := nI_nlt (a := 13) (b := v) (by omega) (by decide)
    have ee0 : ¬ nI v = 0 := xn_ne (w := 0) (by omega) (by decide) (by omega)
    have ee5 : ¬ nI v = 5 := xn_ne (w := 5) (by omega) (by decide) (by omega)
    have ee6 : ¬ nI v = 6 := xn_ne (w := 6) (by omega) (by decide) (by omega)
    have ee7 : ¬ nI v = 7 := xn_ne (w := 7) (by omega) (by decide) (by omega)
    have ee8 : ¬ nI v = 8 := xn_ne (w := 8) (by omega) (by decide) (by omega)
    have ee9 : ¬ nI v = 9 := xn_ne (w := 9) (by omega) (by decide) (by omega)
    have ee10 : ¬ nI v = 10 := xn_ne (w := 10) (by omega) (by decide) (by omega)
    have ee11 : ¬ nI v = 11 := xn_ne (w := 11) (by omega) (by decide) (by omega)
    have ee12 : nI v = 12 := by rw [hcase]; rfl
    have ee13 : ¬ nI v = 13 := xn_ne (w := 13) (by omega) (by decide) (by omega)
    have f7 : ¬ nI v < 7 := nI_nlt (a := v) (b := 7) (by omega) (by omega)
    have f9 : ¬ nI v < 9 := nI_nlt (a := v) (b := 9) (by omega) (by omega)
    have f4 : 4 < nI v := nI_lt (a := 4) (b := v) (by omega) (by omega)
    have f10 : 10 < nI v := nI_lt (a := 10) (b := v) (by omega) (by omega)
    refine lv_aload_n hx hb d_Mo_source_0 rfl (lv_at hl 0 rfl) ?_
    refine va_get (D := D) (ci := 5) (v := .ref pA) (C := R_Mo) (T := F_Mo) (N := 21) hx hb hg f_Mo hown hK.1 hP 0 rfl rfl 16 (by decide) (hg _ q579) (fun _ h9 => h9) rfl d_Mo_source_1 ?_
    refine lv_iconst (v := 0) hx hb d_Mo_source_4 (by decide) ?_
    refine xa_ld hx hb hK hP 13 0 rfl rfl (kx := 0) (rfl) (by decide) (by decide) d_Mo_source_5 ?_
    have eq9 : ((tm_tw (nI q) h1) 0 : Int32) = nI q := rfl
    refine W.eq (g2 := F0 m 6 ls [.int (nI q)]) (by rw [eq9]) ?_
    refine lv_istore_n hx hb d_Mo_source_6 rfl hl (by decide) rfl (fun ls hl => ?_)
    have hl : lv_has ls 7 [(1, .int (nI q)), (0, .ref m0)] := hl
    refine lv_iload_n hx hb d_Mo_source_7 rfl (lv_at hl 0 rfl) ?_
    refine lv_iconst (v := 0) hx hb d_Mo_source_8 (by decide) ?_
    refine lv_aload_n hx hb d_Mo_source_9 rfl (lv_at hl 1 rfl) ?_
    refine va_get (D := D) (ci := 5) (v := .int (nI n)) (C := R_Mo) (T := F_Mo) (N := 21) hx hb hg f_Mo hown hK.1 hP 0 rfl rfl 1 (by decide) (hg _ q564) (fun _ h9 => h9) rfl d_Mo_source_10 ?_
    refine lv_iconst (v := 1) hx hb d_Mo_source_13 (by decide) ?_
    refine lv_isub hx hb d_Mo_source_14 ?_
    have eq9 : ((nI n) - 1 : Int32) = nI (n - 1) := pk_sub (a := n) (b := 1) (by omega)
    refine W.eq (g2 := F0 m 15 ls [.int (nI (n - 1)), .int 0, .int (nI q)]) (by rw [eq9]) ?_
    refine xr_S (As := [.int (nI q), .int 0, .int (nI (n - 1))]) (rest := []) ⟨hx, hb, hml, hown, hg⟩ (c_Mo_in l D cI cZ cJ (nI q) 0 (nI (n - 1))) m_Mo_in q636 ⟨rfl, rfl⟩ ⟨Nat.le_of_ble_eq_true rfl, Nat.le_of_ble_eq_true rfl⟩ hK hP [] rfl rfl hl.1 rfl (Nat.le_of_ble_eq_true rfl) d_Mo_source_15 ⟨Nat.zero_le _, Nat.zero_le _⟩ ?_
    refine lv_if_eq (tgt := 30) hx hb d_Mo_source_18 rfl (fun hz9 => absurd hz9 (tm_wi_y (nI_le (a := 0) (b := q) (by omega) (by omega)) (nI_le (a := q) (b := n - 1) (by omega) (by omega)))) (fun _ => ?_)
    refine lv_aload_n hx hb d_Mo_source_21 rfl (lv_at hl 1 rfl) ?_
    refine va_get (D := D) (ci := 5) (v := .ref oA) (C := R_Mo) (T := F_Mo) (N := 21) hx hb hg f_Mo hown hK.1 hP 0 rfl rfl 2 (by decide) (hg _ q565) (fun _ h9 => h9) rfl d_Mo_source_22 ?_
    refine lv_iload_n hx hb d_Mo_source_25 rfl (lv_at hl 0 rfl) ?_
    refine xa_ld hx hb hK hP 1 0 rfl rfl (kx := q) (rfl) (by omega) (by decide) d_Mo_source_26 ?_
    have eq9 : (Po q : Int32) = P (4 * q) := hPo q
    refine W.eq (g2 := F0 m 27 ls [.int (P (4 * q))]) (by rw [eq9]) ?_
    refine lv_goto (tgt := 32) hx hb d_Mo_source_27 rfl ?_
    have eq9 : (P (4 * q) : Int32) = nI v := hv
    refine W.eq (g2 := F0 m 32 ls [.int (nI v)]) (by rw [eq9]) ?_
    refine lv_istore_n hx hb d_Mo_source_32 rfl hl (by decide) rfl (fun ls hl => ?_)
    have hl : lv_has ls 7 [(2, .int (nI v)), (1, .int (nI q)), (0, .ref m0)] := hl
    refine lv_iload_n hx hb d_Mo_source_33 rfl (lv_at hl 0 rfl) ?_
    refine lv_bipush (v := 13) hx hb d_Mo_source_34 (by decide) ?_
    refine lv_icmp_le (tgt := 43) hx hb d_Mo_source_36 rfl (fun _ => ?_) (fun hz9 => absurd (nI_le (a := v) (b := 13) (by omega) (by decide)) hz9)
    refine lv_aload_n hx hb d_Mo_source_43 rfl (lv_at hl 2 rfl) ?_
    refine va_get (D := D) (ci := 5) (v := .ref rA) (C := R_Mo) (T := F_Mo) (N := 21) hx hb hg f_Mo hown hK.1 hP 0 rfl rfl 13 (by decide) (hg _ q576) (fun _ h9 => h9) rfl d_Mo_source_44 ?_
    refine lv_aload_n hx hb d_Mo_source_47 rfl (lv_at hl 2 rfl) ?_
    refine va_get (D := D) (ci := 5) (v := .ref aA) (C := R_Mo) (T := F_Mo) (N := 21) hx hb hg f_Mo hown hK.1 hP 0 rfl rfl 3 (by decide) (hg _ q566) (fun _ h9 => h9) rfl d_Mo_source_48 ?_
    refine lv_iload_n hx hb d_Mo_source_51 rfl (lv_at hl 1 rfl) ?_
    refine xa_ld hx hb hK hP 2 0 rfl rfl (kx := q) (rfl) (by omega) (by decide) d_Mo_source_52 ?_
    have eq9 : (Pa q : Int32) = P (4 * q + 1) := hPa q
    refine W.eq (g2 := F0 m 53 ls [.int (P (4 * q + 1)), .ref rA]) (by rw [eq9]) ?_
    refine xa_ld hx hb hK hP 10 0 rfl rfl (kx := a) (ha) (by omega) (by decide) d_Mo_source_53 ?_
    have eq9 : ((tm_jn 8 R0 R1) a : Int32) = R0 a := tm_jn_lo (by omega)
    refine W.eq (g2 := F0 m 54 ls [.int (R0 a)]) (by rw [eq9]) ?_
    refine lv_istore_n hx hb d_Mo_source_54 rfl hl (by decide) rfl (fun ls hl => ?_)
    have hl : lv_has ls 7 [(3, .int (R0 a)), (2, .int (nI v)), (1, .int (nI q)), (0, .ref m0)] := hl
    refine lv_iload_n hx hb d_Mo_source_55 rfl (lv_at hl 1 rfl) ?_
    refine lv_bipush (v := 13) hx hb d_Mo_source_56 (by decide) ?_
    refine lv_icmp_le (tgt := 65) hx hb d_Mo_source_58 rfl (fun _ => ?_) (fun hz9 => absurd (nI_le (a := v) (b := 13) (by omega) (by decide)) hz9)
    refine lv_aload_n hx hb d_Mo_source_65 rfl (lv_at hl 3 rfl) ?_
    refine va_get (D := D) (ci := 5) (v := .ref rA) (C := R_Mo) (T := F_Mo) (N := 21) hx hb hg f_Mo hown hK.1 hP 0 rfl rfl 13 (by decide) (hg _ q576) (fun _ h9 => h9) rfl d_Mo_source_66 ?_
    refine lv_aload_n hx hb d_Mo_source_69 rfl (lv_at hl 3 rfl) ?_
    refine va_get (D := D) (ci := 5) (v := .ref bB) (C := R_Mo) (T := F_Mo) (N := 21) hx hb hg f_Mo hown hK.1 hP 0 rfl rfl 4 (by decide) (hg _ q567) (fun _ h9 => h9) rfl d_Mo_source_70 ?_
    refine lv_iload_n hx hb d_Mo_source_73 rfl (lv_at hl 2 rfl) ?_
    refine xa_ld hx hb hK hP 3 0 rfl rfl (kx := q) (rfl) (by omega) (by decide) d_Mo_source_74 ?_
    have eq9 : (Pb q : Int32) = P (4 * q + 2) := hPb q
    refine W.eq (g2 := F0 m 75 ls [.int (P (4 * q + 2)), .ref rA]) (by rw [eq9]) ?_
    refine xa_ld hx hb hK hP 10 0 rfl rfl (kx := b) (hbb) (by omega) (by decide) d_Mo_source_75 ?_
    have eq9 : ((tm_jn 8 R0 R1) b : Int32) = R0 b := tm_jn_lo (by omega)
    refine W.eq (g2 := F0 m 76 ls [.int (R0 b)]) (by rw [eq9]) ?_
    refine lv_istore hx hb d_Mo_source_76 hl (by decide) rfl (fun ls hl => ?_)
    have hl : lv_has ls 7 [(4, .int (R0 b)), (3, .int (R0 a)), (2, .int (nI v)), (1, .int (nI q)), (0, .ref m0)] := hl
    refine lv_iload_n hx hb d_Mo_source_78 rfl (lv_at hl 2 rfl) ?_
    refine lv_bipush (v := 13) hx hb d_Mo_source_79 (by decide) ?_
    refine lv_icmp_le (tgt := 88) hx hb d_Mo_source_81 rfl (fun _ => ?_) (fun hz9 => absurd (nI_le (a := v) (b := 13) (by omega) (by decide)) hz9)
    refine lv_iload hx hb d_Mo_source_88 (lv_at hl 0 rfl) ?_
    refine lv_aload_n hx hb d_Mo_source_90 rfl (lv_at hl 4 rfl) ?_
    refine va_get (D := D) (ci := 5) (v := .ref cC) (C := R_Mo) (T := F_Mo) (N := 21) hx hb hg f_Mo hown hK.1 hP 0 rfl rfl 5 (by decide) (hg _ q568) (fun _ h9 => h9) rfl d_Mo_source_91 ?_
    refine lv_iload_n hx hb d_Mo_source_94 rfl (lv_at hl 3 rfl) ?_
    refine xa_ld hx hb hK hP 4 0 rfl rfl (kx := q) (rfl) (by omega) (by decide) d_Mo_source_95 ?_
    have eq9 : (Pc q : Int32) = P (4 * q + 3) := hPc q
    refine W.eq (g2 := F0 m 96 ls [.int (P (4 * q + 3)), .int (R0 b)]) (by rw [eq9]) ?_
    refine lv_iadd hx hb d_Mo_source_96 ?_
    refine xr_S (As := [.int ((R0 b) + (P (4 * q + 3)))]) (rest := []) ⟨hx, hb, hml, hown, hg⟩ (c_Mo_round l D cI cZ cJ ((R0 b) + (P (4 * q + 3)))) m_Mo_round q725 ⟨rfl, rfl⟩ ⟨Nat.le_of_ble_eq_true rfl, Nat.le_of_ble_eq_true rfl⟩ hK hP [] rfl rfl hl.1 rfl (Nat.le_of_ble_eq_true rfl) d_Mo_source_97 ⟨Nat.zero_le _, Nat.zero_le _⟩ ?_
    refine lv_istore hx hb d_Mo_source_100 hl (by decide) rfl (fun ls hl => ?_)
    have hl : lv_has ls 7 [(5, .int (tm_wr ((R0 b) + (P (4 * q + 3))))), (4, .int (R0 b)), (3, .int (R0 a)), (2, .int (nI v)), (1, .int (nI q)), (0, .ref m0)] := hl
    refine lv_iload_n hx hb d_Mo_source_102 rfl (lv_at hl 3 rfl) ?_
    refine lv_bipush (v := 13) hx hb d_Mo_source_103 (by decide) ?_
    refine lv_icmp_gt (tgt := 131) hx hb d_Mo_source_105 rfl (fun hz9 => absurd hz9 (f13)) (fun _ => ?_)
    refine lv_iload_n hx hb d_Mo_source_108 rfl (lv_at hl 3 rfl) ?_
    refine lv_bipush (v := 7) hx hb d_Mo_source_109 (by decide) ?_
    refine lv_icmp_eq (tgt := 120) hx hb d_Mo_source_111 rfl (fun hz9 => absurd hz9 (ee7)) (fun _ => ?_)
    refine lv_iload_n hx hb d_Mo_source_114 rfl (lv_at hl 3 rfl) ?_
    refine lv_bipush (v := 8) hx hb d_Mo_source_115 (by decide) ?_
    refine lv_icmp_ne (tgt := 139) hx hb d_Mo_source_117 rfl (fun _ => ?_) (fun hz9 => absurd hz9 (ee8))
    refine lv_aload_n hx hb d_Mo_source_139 rfl (lv_at hl 5 rfl) ?_
    refine va_get (D := D) (ci := 5) (v := .ref dA) (C := R_Mo) (T := F_Mo) (N := 21) hx hb hg f_Mo hown hK.1 hP 0 rfl rfl 17 (by decide) (hg _ q580) (fun _ h9 => h9) rfl d_Mo_source_140 ?_
    refine lv_iconst (v := 0) hx hb d_Mo_source_143 (by decide) ?_
    refine lv_dup2_11 hx hb d_Mo_source_144 rfl rfl ?_
    refine xa_ld hx hb hK hP 14 0 rfl rfl (kx := 0) (rfl) (by decide) (by decide) d_Mo_source_145 ?_
    have eq9 : ((tm_tw d0 d1) 0 : Int32) = d0 := rfl
    refine W.eq (g2 := F0 m 146 ls [.int d0, .int 0, .ref dA]) (by rw [eq9]) ?_
    refine lv_iconst (v := 1) hx hb d_Mo_source_146 (by decide) ?_
    refine lv_iadd hx hb d_Mo_source_147 ?_
    refine xa_st hx hb hK hP hD hS 14 0 rfl rfl (kx := 0) (rfl) (by decide) (by decide) d_Mo_source_148 (fun H locs hP hD hS => ?_)
    have hP : va_P D cls [(m0, .inr (5, [.int th, .int (nI n), .ref oA, .ref aA, .ref bB, .ref cC, .int tl, .int (nI k), .ref gA, .ref zA, .ref bA, .ref sR, .ref sD, .ref rA, .ref eC, .ref eA, .ref pA, .ref dA, .ref kA, .ref acA, .int nx])), (oA, .inl (cI, 24, .inl Po)), (aA, .inl (cI, 24, .inl Pa)), (bB, .inl (cI, 24, .inl Pb)), (cC, .inl (cI, 24, .inl Pc)), (gA, .inl (cI, 1600, .inl G)), (zA, .inl (cZ, 400, .inl O)), (bA, .inl (cI, 25, .inl B)), (sR, .inl (cI, 8, .inl sr)), (sD, .inl (cI, 32, .inl sd)), (rA, .inl (cI, 16, .inl (tm_jn 8 R0 R1))), (eC, .inl (cI, 128, .inl (tm_jn 64 C0 C1))), (eA, .inl (cI, 2, .inl (tm_tw e0 e1))), (pA, .inl (cI, 2, .inl (tm_tw (nI q) h1))), (dA, .inl (cI, 2, .inl (upd (tm_tw d0 d1) 0 (d0 + 1)))), (kA, .inl (cI, 2, .inl (tm_tw (nI k0) (nI k1)))), (acA, .inl (cI, 240, .inl (tm_jn 120 A0 A1)))] H := hP
    have hD : va_D A [(m0, .inr (5, [.int th, .int (nI n), .ref oA, .ref aA, .ref bB, .ref cC, .int tl, .int (nI k), .ref gA, .ref zA, .ref bA, .ref sR, .ref sD, .ref rA, .ref eC, .ref eA, .ref pA, .ref dA, .ref kA, .ref acA, .int nx])), (oA, .inl (cI, 24, .inl Po)), (aA, .inl (cI, 24, .inl Pa)), (bB, .inl (cI, 24, .inl Pb)), (cC, .inl (cI, 24, .inl Pc)), (gA, .inl (cI, 1600, .inl G)), (zA, .inl (cZ, 400, .inl O)), (bA, .inl (cI, 25, .inl B)), (sR, .inl (cI, 8, .inl sr)), (sD, .inl (cI, 32, .inl sd)), (rA, .inl (cI, 16, .inl (tm_jn 8 R0 R1))), (eC, .inl (cI, 128, .inl (tm_jn 64 C0 C1))), (eA, .inl (cI, 2, .inl (tm_tw e0 e1))), (pA, .inl (cI, 2, .inl (tm_tw (nI q) h1))), (dA, .inl (cI, 2, .inl (upd (tm_tw d0 d1) 0 (d0 + 1)))), (kA, .inl (cI, 2, .inl (tm_tw (nI k0) (nI k1)))), (acA, .inl (cI, 240, .inl (tm_jn 120 A0 A1)))] := hD
    rw [tm_tw_0] at hP hD
    have hP : va_P D cls [(m0, .inr (5, [.int th, .int (nI n), .ref oA, .ref aA, .ref bB, .ref cC, .int tl, .int (nI k), .ref gA, .ref zA, .ref bA, .ref sR, .ref sD, .ref rA, .ref eC, .ref eA, .ref pA, .ref dA, .ref kA, .ref acA, .int nx])), (oA, .inl (cI, 24, .inl Po)), (aA, .inl (cI, 24, .inl Pa)), (bB, .inl (cI, 24, .inl Pb)), (cC, .inl (cI, 24, .inl Pc)), (gA, .inl (cI, 1600, .inl G)), (zA, .inl (cZ, 400, .inl O)), (bA, .inl (cI, 25, .inl B)), (sR, .inl (cI, 8, .inl sr)), (sD, .inl (cI, 32, .inl sd)), (rA, .inl (cI, 16, .inl (tm_jn 8 R0 R1))), (eC, .inl (cI, 128, .inl (tm_jn 64 C0 C1))), (eA, .inl (cI, 2, .inl (tm_tw e0 e1))), (pA, .inl (cI, 2, .inl (tm_tw (nI q) h1))), (dA, .inl (cI, 2, .inl (tm_tw (d0 + 1) d1))), (kA, .inl (cI, 2, .inl (tm_tw (nI k0) (nI k1)))), (acA, .inl (cI, 240, .inl (tm_jn 120 A0 A1)))] H := hP
    have hD : va_D A [(m0, .inr (5, [.int th, .int (nI n), .ref oA, .ref aA, .ref bB, .ref cC, .int tl, .int (nI k), .ref gA, .ref zA, .ref bA, .ref sR, .ref sD, .ref rA, .ref eC, .ref eA, .ref pA, .ref dA, .ref kA, .ref acA, .int nx])), (oA, .inl (cI, 24, .inl Po)), (aA, .inl (cI, 24, .inl Pa)), (bB, .inl (cI, 24, .inl Pb)), (cC, .inl (cI, 24, .inl Pc)), (gA, .inl (cI, 1600, .inl G)), (zA, .inl (cZ, 400, .inl O)), (bA, .inl (cI, 25, .inl B)), (sR, .inl (cI, 8, .inl sr)), (sD, .inl (cI, 32, .inl sd)), (rA, .inl (cI, 16, .inl (tm_jn 8 R0 R1))), (eC, .inl (cI, 128, .inl (tm_jn 64 C0 C1))), (eA, .inl (cI, 2, .inl (tm_tw e0 e1))), (pA, .inl (cI, 2, .inl (tm_tw (nI q) h1))), (dA, .inl (cI, 2, .inl (tm_tw (d0 + 1) d1))), (kA, .inl (cI, 2, .inl (tm_tw (nI k0) (nI k1)))), (acA, .inl (cI, 240, .inl (tm_jn 120 A0 A1)))] := hD
    refine lv_iload_n hx hb d_Mo_source_149 rfl (lv_at hl 3 rfl) ?_
    refine lv_if_ne (tgt := 161) hx hb d_Mo_source_150 rfl (fun _ => ?_) (fun hz9 => absurd hz9 (ee0))
    refine lv_aload_n hx hb d_Mo_source_161 rfl (lv_at hl 5 rfl) ?_
    refine va_get (D := D) (ci := 5) (v := .int nx) (C := R_Mo) (T := F_Mo) (N := 21) hx hb hg f_Mo hown hK.1 hP 0 rfl rfl 20 (by decide) (hg _ q583) (fun _ h9 => h9) rfl d_Mo_source_162 ?_
    refine lv_iconst (v := 1) hx hb d_Mo_source_165 (by decide) ?_
    refine lv_iadd hx hb d_Mo_source_166 ?_
    refine lv_istore hx hb d_Mo_source_167 hl (by decide) rfl (fun ls hl => ?_)
    have hl : lv_has ls 7 [(6, .int (nx + 1)), (5, .int (tm_wr ((R0 b) + (P (4 * q + 3))))), (4, .int (R0 b)), (3, .int (R0 a)), (2, .int (nI v)), (1, .int (nI q)), (0, .ref m0)] := hl
    refine lv_iload_n hx hb d_Mo_source_169 rfl (lv_at hl 4 rfl) ?_
    refine lv_iconst (v := 5) hx hb d_Mo_source_170 (by decide) ?_
    refine lv_icmp_gt (tgt := 222) hx hb d_Mo_source_171 rfl (fun _ => ?_) (fun hz9 => absurd (nI_lt (a := 5) (b := v) (by omega) (by omega)) hz9)
    refine lv_iload_n hx hb d_Mo_source_222 rfl (lv_at hl 4 rfl) ?_
    refine lv_bipush (v := 6) hx hb d_Mo_source_223 (by decide) ?_
    refine lv_icmp_ne (tgt := 255) hx hb d_Mo_source_225 rfl (fun _ => ?_) (fun hz9 => absurd hz9 (ee6))
    refine lv_iload_n hx hb d_Mo_source_255 rfl (lv_at hl 4 rfl) ?_
    refine lv_bipush (v := 7) hx hb d_Mo_source_256 (by decide) ?_
    refine lv_icmp_eq (tgt := 267) hx hb d_Mo_source_258 rfl (fun hz9 => absurd hz9 (ee7)) (fun _ => ?_)
    refine lv_iload_n hx hb d_Mo_source_261 rfl (lv_at hl 4 rfl) ?_
    refine lv_bipush (v := 8) hx hb d_Mo_source_262 (by decide) ?_
    refine lv_icmp_ne (tgt := 294) hx hb d_Mo_source_264 rfl (fun _ => ?_) (fun hz9 => absurd hz9 (ee8))
    refine lv_iload_n hx hb d_Mo_source_294 rfl (lv_at hl 4 rfl) ?_
    refine lv_bipush (v := 13) hx hb d_Mo_source_295 (by decide) ?_
    refine lv_icmp_ne (tgt := 306) hx hb d_Mo_source_297 rfl (fun _ => ?_) (fun hz9 => absurd hz9 (ee13))
    refine lv_iload_n hx hb d_Mo_source_306 rfl (lv_at hl 4 rfl) ?_
    refine lv_bipush (v := 11) hx hb d_Mo_source_307 (by decide) ?_
    refine lv_icmp_eq (tgt := 343) hx hb d_Mo_source_309 rfl (fun hz9 => absurd hz9 (ee11)) (fun _ => ?_)
    refine lv_iload_n hx hb d_Mo_source_312 rfl (lv_at hl 4 rfl) ?_
    refine lv_bipush (v := 12) hx hb d_Mo_source_313 (by decide) ?_
    refine lv_icmp_eq (tgt := 343) hx hb d_Mo_source_315 rfl (fun _ => ?_) (fun hz9 => absurd (ee12) hz9)
    refine lv_aload_n hx hb d_Mo_source_343 rfl (lv_at hl 6 rfl) ?_
    refine lv_iload_n hx hb d_Mo_source_344 rfl (lv_at hl 5 rfl) ?_
    refine xr_V (C := R_Mo) (As := [.int (nI q)]) (rest := []) ⟨hx, hb, hml, hown, hg⟩ (c_Mo_goal l D cI cZ cJ m0 oA aA bB cC gA zA bA sR sD rA eC eA pA dA kA acA Po Pa Pb Pc G O B sr sd (tm_jn 8 R0 R1) (tm_jn 64 C0 C1) (tm_tw e0 e1) (tm_tw (nI q) h1) (tm_tw (d0 + 1) d1) (tm_tw (nI k0) (nI k1)) (tm_jn 120 A0 A1) n k th tl nx P q v (hPo) (hPa) (hPb) (hPc) (by omega) (by omega) (hv) (by omega) (by omega)) m_Mo_goal q658 sp_Mo_goal ⟨rfl, rfl⟩ ⟨Nat.le_of_ble_eq_true rfl, Nat.le_of_ble_eq_true rfl⟩ hK hP [0, 1, 2, 3, 4, 5, 6, 7, 8, 9, 10, 11, 12, 13, 14, 15, 16] rfl (va_recv (q0 := 0) hK.1 hP rfl rfl) rfl hl.1 rfl (Nat.le_of_ble_eq_true rfl) d_Mo_source_345 ⟨Nat.zero_le _, Nat.zero_le _⟩ ?_
    refine lv_istore hx hb d_Mo_source_348 hl (by decide) rfl (fun ls hl => ?_)
    have hl : lv_has ls 7 [(6, .int (tm_ld P q)), (5, .int (tm_wr ((R0 b) + (P (4 * q + 3))))), (4, .int (R0 b)), (3, .int (R0 a)), (2, .int (nI v)), (1, .int (nI q)), (0, .ref m0)] := hl
    refine lv_iload_n hx hb d_Mo_source_350 rfl (lv_at hl 4 rfl) ?_
    refine lv_bipush (v := 12) hx hb d_Mo_source_351 (by decide) ?_
    refine lv_icmp_ne (tgt := 369) hx hb d_Mo_source_353 rfl (fun hz9 => absurd (ee12) hz9) (fun _ => ?_)
    refine lv_aload_n hx hb d_Mo_source_356 rfl (lv_at hl 6 rfl) ?_
    refine va_get (D := D) (ci := 5) (v := .ref rA) (C := R_Mo) (T := F_Mo) (N := 21) hx hb hg f_Mo hown hK.1 hP 0 rfl rfl 13 (by decide) (hg _ q576) (fun _ h9 => h9) rfl d_Mo_source_357 ?_
    refine lv_bipush (v := 7) hx hb d_Mo_source_360 (by decide) ?_
    refine lv_iload_n hx hb d_Mo_source_362 rfl (lv_at hl 5 rfl) ?_
    refine lv_iconst (v := 2) hx hb d_Mo_source_363 (by decide) ?_
    refine lv_iadd hx hb d_Mo_source_364 ?_
    have eq9 : ((nI q) + 2 : Int32) = nI (q + 2) := nI_add q 2
    refine W.eq (g2 := F0 m 365 ls [.int (nI (q + 2)), .int 7, .ref rA]) (by rw [eq9]) ?_
    refine xr_S (As := [.int (nI (q + 2))]) (rest := [.int 7, .ref rA]) ⟨hx, hb, hml, hown, hg⟩ (c_Mo_round l D cI cZ cJ (nI (q + 2))) m_Mo_round q725 ⟨rfl, rfl⟩ ⟨Nat.le_of_ble_eq_true rfl, Nat.le_of_ble_eq_true rfl⟩ hK hP [] rfl rfl hl.1 rfl (Nat.le_of_ble_eq_true rfl) d_Mo_source_365 ⟨Nat.zero_le _, Nat.zero_le _⟩ ?_
    have eq9 : (tm_wr (nI (q + 2)) : Int32) = nI (q + 2) := tm_wr_id (tm_sh_nI (by omega))
    refine W.eq (g2 := F0 m 368 ls [.int (nI (q + 2)), .int 7, .ref rA]) (by rw [eq9]) ?_
    refine xa_st hx hb hK hP hD hS 10 0 rfl rfl (kx := 7) (rfl) (by decide) (by decide) d_Mo_source_368 (fun H locs hP hD hS => ?_)
    have hP : va_P D cls [(m0, .inr (5, [.int th, .int (nI n), .ref oA, .ref aA, .ref bB, .ref cC, .int tl, .int (nI k), .ref gA, .ref zA, .ref bA, .ref sR, .ref sD, .ref rA, .ref eC, .ref eA, .ref pA, .ref dA, .ref kA, .ref acA, .int nx])), (oA, .inl (cI, 24, .inl Po)), (aA, .inl (cI, 24, .inl Pa)), (bB, .inl (cI, 24, .inl Pb)), (cC, .inl (cI, 24, .inl Pc)), (gA, .inl (cI, 1600, .inl G)), (zA, .inl (cZ, 400, .inl O)), (bA, .inl (cI, 25, .inl B)), (sR, .inl (cI, 8, .inl sr)), (sD, .inl (cI, 32, .inl sd)), (rA, .inl (cI, 16, .inl (upd (tm_jn 8 R0 R1) 7 (nI (q + 2))))), (eC, .inl (cI, 128, .inl (tm_jn 64 C0 C1))), (eA, .inl (cI, 2, .inl (tm_tw e0 e1))), (pA, .inl (cI, 2, .inl (tm_tw (nI q) h1))), (dA, .inl (cI, 2, .inl (tm_tw (d0 + 1) d1))), (kA, .inl (cI, 2, .inl (tm_tw (nI k0) (nI k1)))), (acA, .inl (cI, 240, .inl (tm_jn 120 A0 A1)))] H := hP
    have hD : va_D A [(m0, .inr (5, [.int th, .int (nI n), .ref oA, .ref aA, .ref bB, .ref cC, .int tl, .int (nI k), .ref gA, .ref zA, .ref bA, .ref sR, .ref sD, .ref rA, .ref eC, .ref eA, .ref pA, .ref dA, .ref kA, .ref acA, .int nx])), (oA, .inl (cI, 24, .inl Po)), (aA, .inl (cI, 24, .inl Pa)), (bB, .inl (cI, 24, .inl Pb)), (cC, .inl (cI, 24, .inl Pc)), (gA, .inl (cI, 1600, .inl G)), (zA, .inl (cZ, 400, .inl O)), (bA, .inl (cI, 25, .inl B)), (sR, .inl (cI, 8, .inl sr)), (sD, .inl (cI, 32, .inl sd)), (rA, .inl (cI, 16, .inl (upd (tm_jn 8 R0 R1) 7 (nI (q + 2))))), (eC, .inl (cI, 128, .inl (tm_jn 64 C0 C1))), (eA, .inl (cI, 2, .inl (tm_tw e0 e1))), (pA, .inl (cI, 2, .inl (tm_tw (nI q) h1))), (dA, .inl (cI, 2, .inl (tm_tw (d0 + 1) d1))), (kA, .inl (cI, 2, .inl (tm_tw (nI k0) (nI k1)))), (acA, .inl (cI, 240, .inl (tm_jn 120 A0 A1)))] := hD
    rw [tm_jn_ul (by omega)] at hP hD
    have hP : va_P D cls [(m0, .inr (5, [.int th, .int (nI n), .ref oA, .ref aA, .ref bB, .ref cC, .int tl, .int (nI k), .ref gA, .ref zA, .ref bA, .ref sR, .ref sD, .ref rA, .ref eC, .ref eA, .ref pA, .ref dA, .ref kA, .ref acA, .int nx])), (oA, .inl (cI, 24, .inl Po)), (aA, .inl (cI, 24, .inl Pa)), (bB, .inl (cI, 24, .inl Pb)), (cC, .inl (cI, 24, .inl Pc)), (gA, .inl (cI, 1600, .inl G)), (zA, .inl (cZ, 400, .inl O)), (bA, .inl (cI, 25, .inl B)), (sR, .inl (cI, 8, .inl sr)), (sD, .inl (cI, 32, .inl sd)), (rA, .inl (cI, 16, .inl (tm_jn 8 (upd R0 7 (nI (q + 2))) R1))), (eC, .inl (cI, 128, .inl (tm_jn 64 C0 C1))), (eA, .inl (cI, 2, .inl (tm_tw e0 e1))), (pA, .inl (cI, 2, .inl (tm_tw (nI q) h1))), (dA, .inl (cI, 2, .inl (tm_tw (d0 + 1) d1))), (kA, .inl (cI, 2, .inl (tm_tw (nI k0) (nI k1)))), (acA, .inl (cI, 240, .inl (tm_jn 120 A0 A1)))] H := hP
    have hD : va_D A [(m0, .inr (5, [.int th, .int (nI n), .ref oA, .ref aA, .ref bB, .ref cC, .int tl, .int (nI k), .ref gA, .ref zA, .ref bA, .ref sR, .ref sD, .ref rA, .ref eC, .ref eA, .ref pA, .ref dA, .ref kA, .ref acA, .int nx])), (oA, .inl (cI, 24, .inl Po)), (aA, .inl (cI, 24, .inl Pa)), (bB, .inl (cI, 24, .inl Pb)), (cC, .inl (cI, 24, .inl Pc)), (gA, .inl (cI, 1600, .inl G)), (zA, .inl (cZ, 400, .inl O)), (bA, .inl (cI, 25, .inl B)), (sR, .inl (cI, 8, .inl sr)), (sD, .inl (cI, 32, .inl sd)), (rA, .inl (cI, 16, .inl (tm_jn 8 (upd R0 7 (nI (q + 2))) R1))), (eC, .inl (cI, 128, .inl (tm_jn 64 C0 C1))), (eA, .inl (cI, 2, .inl (tm_tw e0 e1))), (pA, .inl (cI, 2, .inl (tm_tw (nI q) h1))), (dA, .inl (cI, 2, .inl (tm_tw (d0 + 1) d1))), (kA, .inl (cI, 2, .inl (tm_tw (nI k0) (nI k1)))), (acA, .inl (cI, 240, .inl (tm_jn 120 A0 A1)))] := hD
    refine lv_aload_n hx hb d_Mo_source_369 rfl (lv_at hl 6 rfl) ?_
    refine va_get (D := D) (ci := 5) (v := .ref rA) (C := R_Mo) (T := F_Mo) (N := 21) hx hb hg f_Mo hown hK.1 hP 0 rfl rfl 13 (by decide) (hg _ q576) (fun _ h9 => h9) rfl d_Mo_source_370 ?_
    refine lv_iconst (v := 0) hx hb d_Mo_source_373 (by decide) ?_
    refine lv_iconst (v := 0) hx hb d_Mo_source_374 (by decide) ?_
    refine xa_st hx hb hK hP hD hS 10 0 rfl rfl (kx := 0) (rfl) (by decide) (by decide) d_Mo_source_375 (fun H locs hP hD hS => ?_)
    have hP : va_P D cls [(m0, .inr (5, [.int th, .int (nI n), .ref oA, .ref aA, .ref bB, .ref cC, .int tl, .int (nI k), .ref gA, .ref zA, .ref bA, .ref sR, .ref sD, .ref rA, .ref eC, .ref eA, .ref pA, .ref dA, .ref kA, .ref acA, .int nx])), (oA, .inl (cI, 24, .inl Po)), (aA, .inl (cI, 24, .inl Pa)), (bB, .inl (cI, 24, .inl Pb)), (cC, .inl (cI, 24, .inl Pc)), (gA, .inl (cI, 1600, .inl G)), (zA, .inl (cZ, 400, .inl O)), (bA, .inl (cI, 25, .inl B)), (sR, .inl (cI, 8, .inl sr)), (sD, .inl (cI, 32, .inl sd)), (rA, .inl (cI, 16, .inl (upd (tm_jn 8 (upd R0 7 (nI (q + 2))) R1) 0 0))), (eC, .inl (cI, 128, .inl (tm_jn 64 C0 C1))), (eA, .inl (cI, 2, .inl (tm_tw e0 e1))), (pA, .inl (cI, 2, .inl (tm_tw (nI q) h1))), (dA, .inl (cI, 2, .inl (tm_tw (d0 + 1) d1))), (kA, .inl (cI, 2, .inl (tm_tw (nI k0) (nI k1)))), (acA, .inl (cI, 240, .inl (tm_jn 120 A0 A1)))] H := hP
    have hD : va_D A [(m0, .inr (5, [.int th, .int (nI n), .ref oA, .ref aA, .ref bB, .ref cC, .int tl, .int (nI k), .ref gA, .ref zA, .ref bA, .ref sR, .ref sD, .ref rA, .ref eC, .ref eA, .ref pA, .ref dA, .ref kA, .ref acA, .int nx])), (oA, .inl (cI, 24, .inl Po)), (aA, .inl (cI, 24, .inl Pa)), (bB, .inl (cI, 24, .inl Pb)), (cC, .inl (cI, 24, .inl Pc)), (gA, .inl (cI, 1600, .inl G)), (zA, .inl (cZ, 400, .inl O)), (bA, .inl (cI, 25, .inl B)), (sR, .inl (cI, 8, .inl sr)), (sD, .inl (cI, 32, .inl sd)), (rA, .inl (cI, 16, .inl (upd (tm_jn 8 (upd R0 7 (nI (q + 2))) R1) 0 0))), (eC, .inl (cI, 128, .inl (tm_jn 64 C0 C1))), (eA, .inl (cI, 2, .inl (tm_tw e0 e1))), (pA, .inl (cI, 2, .inl (tm_tw (nI q) h1))), (dA, .inl (cI, 2, .inl (tm_tw (d0 + 1) d1))), (kA, .inl (cI, 2, .inl (tm_tw (nI k0) (nI k1)))), (acA, .inl (cI, 240, .inl (tm_jn 120 A0 A1)))] := hD
    rw [tm_jn_ul (by omega)] at hP hD
    have hP : va_P D cls [(m0, .inr (5, [.int th, .int (nI n), .ref oA, .ref aA, .ref bB, .ref cC, .int tl, .int (nI k), .ref gA, .ref zA, .ref bA, .ref sR, .ref sD, .ref rA, .ref eC, .ref eA, .ref pA, .ref dA, .ref kA, .ref acA, .int nx])), (oA, .inl (cI, 24, .inl Po)), (aA, .inl (cI, 24, .inl Pa)), (bB, .inl (cI, 24, .inl Pb)), (cC, .inl (cI, 24, .inl Pc)), (gA, .inl (cI, 1600, .inl G)), (zA, .inl (cZ, 400, .inl O)), (bA, .inl (cI, 25, .inl B)), (sR, .inl (cI, 8, .inl sr)), (sD, .inl (cI, 32, .inl sd)), (rA, .inl (cI, 16, .inl (tm_jn 8 (upd (upd R0 7 (nI (q + 2))) 0 0) R1))), (eC, .inl (cI, 128, .inl (tm_jn 64 C0 C1))), (eA, .inl (cI, 2, .inl (tm_tw e0 e1))), (pA, .inl (cI, 2, .inl (tm_tw (nI q) h1))), (dA, .inl (cI, 2, .inl (tm_tw (d0 + 1) d1))), (kA, .inl (cI, 2, .inl (tm_tw (nI k0) (nI k1)))), (acA, .inl (cI, 240, .inl (tm_jn 120 A0 A1)))] H := hP
    have hD : va_D A [(m0, .inr (5, [.int th, .int (nI n), .ref oA, .ref aA, .ref bB, .ref cC, .int tl, .int (nI k), .ref gA, .ref zA, .ref bA, .ref sR, .ref sD, .ref rA, .ref eC, .ref eA, .ref pA, .ref dA, .ref kA, .ref acA, .int nx])), (oA, .inl (cI, 24, .inl Po)), (aA, .inl (cI, 24, .inl Pa)), (bB, .inl (cI, 24, .inl Pb)), (cC, .inl (cI, 24, .inl Pc)), (gA, .inl (cI, 1600, .inl G)), (zA, .inl (cZ, 400, .inl O)), (bA, .inl (cI, 25, .inl B)), (sR, .inl (cI, 8, .inl sr)), (sD, .inl (cI, 32, .inl sd)), (rA, .inl (cI, 16, .inl (tm_jn 8 (upd (upd R0 7 (nI (q + 2))) 0 0) R1))), (eC, .inl (cI, 128, .inl (tm_jn 64 C0 C1))), (eA, .inl (cI, 2, .inl (tm_tw e0 e1))), (pA, .inl (cI, 2, .inl (tm_tw (nI q) h1))), (dA, .inl (cI, 2, .inl (tm_tw (d0 + 1) d1))), (kA, .inl (cI, 2, .inl (tm_tw (nI k0) (nI k1)))), (acA, .inl (cI, 240, .inl (tm_jn 120 A0 A1)))] := hD
    refine lv_aload_n hx hb d_Mo_source_376 rfl (lv_at hl 6 rfl) ?_
    refine va_get (D := D) (ci := 5) (v := .ref pA) (C := R_Mo) (T := F_Mo) (N := 21) hx hb hg f_Mo hown hK.1 hP 0 rfl rfl 16 (by decide) (hg _ q579) (fun _ h9 => h9) rfl d_Mo_source_377 ?_
    refine lv_iconst (v := 0) hx hb d_Mo_source_380 (by decide) ?_
    refine lv_aload_n hx hb d_Mo_source_381 rfl (lv_at hl 6 rfl) ?_
    refine va_get (D := D) (ci := 5) (v := .int nx) (C := R_Mo) (T := F_Mo) (N := 21) hx hb hg f_Mo hown hK.1 hP 0 rfl rfl 20 (by decide) (hg _ q583) (fun _ h9 => h9) rfl d_Mo_source_382 ?_
    refine xa_st hx hb hK hP hD hS 13 0 rfl rfl (kx := 0) (rfl) (by decide) (by decide) d_Mo_source_385 (fun H locs hP hD hS => ?_)
    have hP : va_P D cls [(m0, .inr (5, [.int th, .int (nI n), .ref oA, .ref aA, .ref bB, .ref cC, .int tl, .int (nI k), .ref gA, .ref zA, .ref bA, .ref sR, .ref sD, .ref rA, .ref eC, .ref eA, .ref pA, .ref dA, .ref kA, .ref acA, .int nx])), (oA, .inl (cI, 24, .inl Po)), (aA, .inl (cI, 24, .inl Pa)), (bB, .inl (cI, 24, .inl Pb)), (cC, .inl (cI, 24, .inl Pc)), (gA, .inl (cI, 1600, .inl G)), (zA, .inl (cZ, 400, .inl O)), (bA, .inl (cI, 25, .inl B)), (sR, .inl (cI, 8, .inl sr)), (sD, .inl (cI, 32, .inl sd)), (rA, .inl (cI, 16, .inl (tm_jn 8 (upd (upd R0 7 (nI (q + 2))) 0 0) R1))), (eC, .inl (cI, 128, .inl (tm_jn 64 C0 C1))), (eA, .inl (cI, 2, .inl (tm_tw e0 e1))), (pA, .inl (cI, 2, .inl (upd (tm_tw (nI q) h1) 0 nx))), (dA, .inl (cI, 2, .inl (tm_tw (d0 + 1) d1))), (kA, .inl (cI, 2, .inl (tm_tw (nI k0) (nI k1)))), (acA, .inl (cI, 240, .inl (tm_jn 120 A0 A1)))] H := hP
    have hD : va_D A [(m0, .inr (5, [.int th, .int (nI n), .ref oA, .ref aA, .ref bB, .ref cC, .int tl, .int (nI k), .ref gA, .ref zA, .ref bA, .ref sR, .ref sD, .ref rA, .ref eC, .ref eA, .ref pA, .ref dA, .ref kA, .ref acA, .int nx])), (oA, .inl (cI, 24, .inl Po)), (aA, .inl (cI, 24, .inl Pa)), (bB, .inl (cI, 24, .inl Pb)), (cC, .inl (cI, 24, .inl Pc)), (gA, .inl (cI, 1600, .inl G)), (zA, .inl (cZ, 400, .inl O)), (bA, .inl (cI, 25, .inl B)), (sR, .inl (cI, 8, .inl sr)), (sD, .inl (cI, 32, .inl sd)), (rA, .inl (cI, 16, .inl (tm_jn 8 (upd (upd R0 7 (nI (q + 2))) 0 0) R1))), (eC, .inl (cI, 128, .inl (tm_jn 64 C0 C1))), (eA, .inl (cI, 2, .inl (tm_tw e0 e1))), (pA, .inl (cI, 2, .inl (upd (tm_tw (nI q) h1) 0 nx))), (dA, .inl (cI, 2, .inl (tm_tw (d0 + 1) d1))), (kA, .inl (cI, 2, .inl (tm_tw (nI k0) (nI k1)))), (acA, .inl (cI, 240, .inl (tm_jn 120 A0 A1)))] := hD
    rw [tm_tw_0] at hP hD
    have hP : va_P D cls [(m0, .inr (5, [.int th, .int (nI n), .ref oA, .ref aA, .ref bB, .ref cC, .int tl, .int (nI k), .ref gA, .ref zA, .ref bA, .ref sR, .ref sD, .ref rA, .ref eC, .ref eA, .ref pA, .ref dA, .ref kA, .ref acA, .int nx])), (oA, .inl (cI, 24, .inl Po)), (aA, .inl (cI, 24, .inl Pa)), (bB, .inl (cI, 24, .inl Pb)), (cC, .inl (cI, 24, .inl Pc)), (gA, .inl (cI, 1600, .inl G)), (zA, .inl (cZ, 400, .inl O)), (bA, .inl (cI, 25, .inl B)), (sR, .inl (cI, 8, .inl sr)), (sD, .inl (cI, 32, .inl sd)), (rA, .inl (cI, 16, .inl (tm_jn 8 (upd (upd R0 7 (nI (q + 2))) 0 0) R1))), (eC, .inl (cI, 128, .inl (tm_jn 64 C0 C1))), (eA, .inl (cI, 2, .inl (tm_tw e0 e1))), (pA, .inl (cI, 2, .inl (tm_tw nx h1))), (dA, .inl (cI, 2, .inl (tm_tw (d0 + 1) d1))), (kA, .inl (cI, 2, .inl (tm_tw (nI k0) (nI k1)))), (acA, .inl (cI, 240, .inl (tm_jn 120 A0 A1)))] H := hP
    have hD : va_D A [(m0, .inr (5, [.int th, .int (nI n), .ref oA, .ref aA, .ref bB, .ref cC, .int tl, .int (nI k), .ref gA, .ref zA, .ref bA, .ref sR, .ref sD, .ref rA, .ref eC, .ref eA, .ref pA, .ref dA, .ref kA, .ref acA, .int nx])), (oA, .inl (cI, 24, .inl Po)), (aA, .inl (cI, 24, .inl Pa)), (bB, .inl (cI, 24, .inl Pb)), (cC, .inl (cI, 24, .inl Pc)), (gA, .inl (cI, 1600, .inl G)), (zA, .inl (cZ, 400, .inl O)), (bA, .inl (cI, 25, .inl B)), (sR, .inl (cI, 8, .inl sr)), (sD, .inl (cI, 32, .inl sd)), (rA, .inl (cI, 16, .inl (tm_jn 8 (upd (upd R0 7 (nI (q + 2))) 0 0) R1))), (eC, .inl (cI, 128, .inl (tm_jn 64 C0 C1))), (eA, .inl (cI, 2, .inl (tm_tw e0 e1))), (pA, .inl (cI, 2, .inl (tm_tw nx h1))), (dA, .inl (cI, 2, .inl (tm_tw (d0 + 1) d1))), (kA, .inl (cI, 2, .inl (tm_tw (nI k0) (nI k1)))), (acA, .inl (cI, 240, .inl (tm_jn 120 A0 A1)))] := hD
    refine lv_aload_n hx hb d_Mo_source_386 rfl (lv_at hl 6 rfl) ?_
    refine lv_iload hx hb d_Mo_source_387 (lv_at hl 0 rfl) ?_
    refine va_put (D := D) (ci := 5) (v := .int (tm_ld P q)) (ty := .int) (C := R_Mo) (T := F_Mo) (N := 21) hx hb hg f_Mo t_Mo t_Mo_ok n_Mo hown hK.1 hP hD hS 0 rfl rfl 20 (by decide) (hg _ q583) (fun _ h9 => h9) rfl (by decide +kernel) rfl rfl (Nat.le_of_ble_eq_true rfl) d_Mo_source_389 (fun H locs hP hD hS => ?_)
    have hP : va_P D cls [(m0, .inr (5, [.int th, .int (nI n), .ref oA, .ref aA, .ref bB, .ref cC, .int tl, .int (nI k), .ref gA, .ref zA, .ref bA, .ref sR, .ref sD, .ref rA, .ref eC, .ref eA, .ref pA, .ref dA, .ref kA, .ref acA, .int (tm_ld P q)])), (oA, .inl (cI, 24, .inl Po)), (aA, .inl (cI, 24, .inl Pa)), (bB, .inl (cI, 24, .inl Pb)), (cC, .inl (cI, 24, .inl Pc)), (gA, .inl (cI, 1600, .inl G)), (zA, .inl (cZ, 400, .inl O)), (bA, .inl (cI, 25, .inl B)), (sR, .inl (cI, 8, .inl sr)), (sD, .inl (cI, 32, .inl sd)), (rA, .inl (cI, 16, .inl (tm_jn 8 (upd (upd R0 7 (nI (q + 2))) 0 0) R1))), (eC, .inl (cI, 128, .inl (tm_jn 64 C0 C1))), (eA, .inl (cI, 2, .inl (tm_tw e0 e1))), (pA, .inl (cI, 2, .inl (tm_tw nx h1))), (dA, .inl (cI, 2, .inl (tm_tw (d0 + 1) d1))), (kA, .inl (cI, 2, .inl (tm_tw (nI k0) (nI k1)))), (acA, .inl (cI, 240, .inl (tm_jn 120 A0 A1)))] H := hP
    have hD : va_D A [(m0, .inr (5, [.int th, .int (nI n), .ref oA, .ref aA, .ref bB, .ref cC, .int tl, .int (nI k), .ref gA, .ref zA, .ref bA, .ref sR, .ref sD, .ref rA, .ref eC, .ref eA, .ref pA, .ref dA, .ref kA, .ref acA, .int (tm_ld P q)])), (oA, .inl (cI, 24, .inl Po)), (aA, .inl (cI, 24, .inl Pa)), (bB, .inl (cI, 24, .inl Pb)), (cC, .inl (cI, 24, .inl Pc)), (gA, .inl (cI, 1600, .inl G)), (zA, .inl (cZ, 400, .inl O)), (bA, .inl (cI, 25, .inl B)), (sR, .inl (cI, 8, .inl sr)), (sD, .inl (cI, 32, .inl sd)), (rA, .inl (cI, 16, .inl (tm_jn 8 (upd (upd R0 7 (nI (q + 2))) 0 0) R1))), (eC, .inl (cI, 128, .inl (tm_jn 64 C0 C1))), (eA, .inl (cI, 2, .inl (tm_tw e0 e1))), (pA, .inl (cI, 2, .inl (tm_tw nx h1))), (dA, .inl (cI, 2, .inl (tm_tw (d0 + 1) d1))), (kA, .inl (cI, 2, .inl (tm_tw (nI k0) (nI k1)))), (acA, .inl (cI, 240, .inl (tm_jn 120 A0 A1)))] := hD
    have ew1 : tm_ld P q = (tm_ss P q (R0, C0, A0, k0, nI q, d0, e0, nx)).2.2.2.2.2.2.2 := by simp [tm_ss, tm_sb, tm_ld, hv, ha, hbb, hc_a, hc_b, f13, ee0, ee5, ee6, ee7, ee8, ee9, ee10, ee11, ee12, ee13, f7, f9, f4, f10]
    have ew2_0 : (upd (upd R0 7 (nI (q + 2))) 0 0) = ((tm_ss P q (R0, C0, A0, k0, nI q, d0, e0, nx)).1) := by rw [tm_set_m (a := 7) hR0 (by decide)]; simp [tm_ss, hv, h77, f13, ee0, ee5, ee6, ee7, ee8, ee9, ee10, ee11, ee12, ee13, f7, f9, f4, f10]
    have ew2 : tm_jn 8 (upd (upd R0 7 (nI (q + 2))) 0 0) R1 = tm_jn 8 ((tm_ss P q (R0, C0, A0, k0, nI q, d0, e0, nx)).1) R1 := congr (congrArg (tm_jn 8) ew2_0) rfl
    have ew3_0 : C0 = ((tm_ss P q (R0, C0, A0, k0, nI q, d0, e0, nx)).2.1) := by first | rfl | (simp [tm_ss, hv, f13, ee0, ee5, ee6, ee7, ee8, ee9, ee10, ee11, ee12, ee13, f7, f9, f4, f10]; done)
    have ew3 : tm_jn 64 C0 C1 = tm_jn 64 ((tm_ss P q (R0, C0, A0, k0, nI q, d0, e0, nx)).2.1) C1 := congr (congrArg (tm_jn 64) ew3_0) rfl
    have ew4_0 : e0 = ((tm_ss P q (R0, C0, A0, k0, nI q, d0, e0, nx)).2.2.2.2.2.2.1) := by first | rfl | (simp [tm_ss, hv, f13, ee0, ee5, ee6, ee7, ee8, ee9, ee10, ee11, ee12, ee13, f7, f9, f4, f10]; done)
    have ew4 : tm_tw e0 e1 = tm_tw ((tm_ss P q (R0, C0, A0, k0, nI q, d0, e0, nx)).2.2.2.2.2.2.1) e1 := congr (congrArg (tm_tw) ew4_0) rfl
    have ew5_0 : nx = ((tm_ss P q (R0, C0, A0, k0, nI q, d0, e0, nx)).2.2.2.2.1) := by first | rfl | (simp [tm_ss, hv, f13, ee0, ee5, ee6, ee7, ee8, ee9, ee10, ee11, ee12, ee13, f7, f9, f4, f10]; done)
    have ew5 : tm_tw nx h1 = tm_tw ((tm_ss P q (R0, C0, A0, k0, nI q, d0, e0, nx)).2.2.2.2.1) h1 := congr (congrArg (tm_tw) ew5_0) rfl
    have ew6_0 : (d0 + 1) = ((tm_ss P q (R0, C0, A0, k0, nI q, d0, e0, nx)).2.2.2.2.2.1) := by first | rfl | (simp [tm_ss, hv, f13, ee0, ee5, ee6, ee7, ee8, ee9, ee10, ee11, ee12, ee13, f7, f9, f4, f10]; done)
    have ew6 : tm_tw (d0 + 1) d1 = tm_tw ((tm_ss P q (R0, C0, A0, k0, nI q, d0, e0, nx)).2.2.2.2.2.1) d1 := congr (congrArg (tm_tw) ew6_0) rfl
    have ew7_0 : (nI k0) = (nI (tm_ss P q (R0, C0, A0, k0, nI q, d0, e0, nx)).2.2.2.1) := congrArg nI (by first | (simp [tm_ss, hv, f13, ee0, ee5, ee6, ee7, ee8, ee9, ee10, ee11, ee12, ee13, f7, f9, f4, f10]; done) | (simp [tm_ss, hv, f13, ee0, ee5, ee6, ee7, ee8, ee9, ee10, ee11, ee12, ee13, f7, f9, f4, f10]; omega) | omega)
    have ew7 : tm_tw (nI k0) (nI k1) = tm_tw (nI (tm_ss P q (R0, C0, A0, k0, nI q, d0, e0, nx)).2.2.2.1) (nI k1) := congr (congrArg (tm_tw) ew7_0) rfl
    have ew8_0 : A0 = ((tm_ss P q (R0, C0, A0, k0, nI q, d0, e0, nx)).2.2.1) := by first | rfl | (simp [tm_ss, hv, f13, ee0, ee5, ee6, ee7, ee8, ee9, ee10, ee11, ee12, ee13, f7, f9, f4, f10]; done)
    have ew8 : tm_jn 120 A0 A1 = tm_jn 120 ((tm_ss P q (R0, C0, A0, k0, nI q, d0, e0, nx)).2.2.1) A1 := congr (congrArg (tm_jn 120) ew8_0) rfl
    have hP : va_P D cls [(m0, .inr (5, [.int th, .int (nI n), .ref oA, .ref aA, .ref bB, .ref cC, .int tl, .int (nI k), .ref gA, .ref zA, .ref bA, .ref sR, .ref sD, .ref rA, .ref eC, .ref eA, .ref pA, .ref dA, .ref kA, .ref acA, .int ((tm_ss P q (R0, C0, A0, k0, nI q, d0, e0, nx)).2.2.2.2.2.2.2)])), (oA, .inl (cI, 24, .inl Po)), (aA, .inl (cI, 24, .inl Pa)), (bB, .inl (cI, 24, .inl Pb)), (cC, .inl (cI, 24, .inl Pc)), (gA, .inl (cI, 1600, .inl G)), (zA, .inl (cZ, 400, .inl O)), (bA, .inl (cI, 25, .inl B)), (sR, .inl (cI, 8, .inl sr)), (sD, .inl (cI, 32, .inl sd)), (rA, .inl (cI, 16, .inl (tm_jn 8 ((tm_ss P q (R0, C0, A0, k0, nI q, d0, e0, nx)).1) R1))), (eC, .inl (cI, 128, .inl (tm_jn 64 ((tm_ss P q (R0, C0, A0, k0, nI q, d0, e0, nx)).2.1) C1))), (eA, .inl (cI, 2, .inl (tm_tw ((tm_ss P q (R0, C0, A0, k0, nI q, d0, e0, nx)).2.2.2.2.2.2.1) e1))), (pA, .inl (cI, 2, .inl (tm_tw ((tm_ss P q (R0, C0, A0, k0, nI q, d0, e0, nx)).2.2.2.2.1) h1))), (dA, .inl (cI, 2, .inl (tm_tw ((tm_ss P q (R0, C0, A0, k0, nI q, d0, e0, nx)).2.2.2.2.2.1) d1))), (kA, .inl (cI, 2, .inl (tm_tw (nI (tm_ss P q (R0, C0, A0, k0, nI q, d0, e0, nx)).2.2.2.1) (nI k1)))), (acA, .inl (cI, 240, .inl (tm_jn 120 ((tm_ss P q (R0, C0, A0, k0, nI q, d0, e0, nx)).2.2.1) A1)))] H := by rw [← ew1, ← ew2, ← ew3, ← ew4, ← ew5, ← ew6, ← ew7, ← ew8]; exact hP
    have hD : va_D A [(m0, .inr (5, [.int th, .int (nI n), .ref oA, .ref aA, .ref bB, .ref cC, .int tl, .int (nI k), .ref gA, .ref zA, .ref bA, .ref sR, .ref sD, .ref rA, .ref eC, .ref eA, .ref pA, .ref dA, .ref kA, .ref acA, .int ((tm_ss P q (R0, C0, A0, k0, nI q, d0, e0, nx)).2.2.2.2.2.2.2)])), (oA, .inl (cI, 24, .inl Po)), (aA, .inl (cI, 24, .inl Pa)), (bB, .inl (cI, 24, .inl Pb)), (cC, .inl (cI, 24, .inl Pc)), (gA, .inl (cI, 1600, .inl G)), (zA, .inl (cZ, 400, .inl O)), (bA, .inl (cI, 25, .inl B)), (sR, .inl (cI, 8, .inl sr)), (sD, .inl (cI, 32, .inl sd)), (rA, .inl (cI, 16, .inl (tm_jn 8 ((tm_ss P q (R0, C0, A0, k0, nI q, d0, e0, nx)).1) R1))), (eC, .inl (cI, 128, .inl (tm_jn 64 ((tm_ss P q (R0, C0, A0, k0, nI q, d0, e0, nx)).2.1) C1))), (eA, .inl (cI, 2, .inl (tm_tw ((tm_ss P q (R0, C0, A0, k0, nI q, d0, e0, nx)).2.2.2.2.2.2.1) e1))), (pA, .inl (cI, 2, .inl (tm_tw ((tm_ss P q (R0, C0, A0, k0, nI q, d0, e0, nx)).2.2.2.2.1) h1))), (dA, .inl (cI, 2, .inl (tm_tw ((tm_ss P q (R0, C0, A0, k0, nI q, d0, e0, nx)).2.2.2.2.2.1) d1))), (kA, .inl (cI, 2, .inl (tm_tw (nI (tm_ss P q (R0, C0, A0, k0, nI q, d0, e0, nx)).2.2.2.1) (nI k1)))), (acA, .inl (cI, 240, .inl (tm_jn 120 ((tm_ss P q (R0, C0, A0, k0, nI q, d0, e0, nx)).2.2.1) A1)))] := by rw [← ew1, ← ew2, ← ew3, ← ew4, ← ew5, ← ew6, ← ew7, ← ew8]; exact hD
    exact W.vret hx hb hr (fun t9 ht9 hW9 => ⟨⟨(), rfl, trivial, by rw [ht9]; exact hP, hD⟩, hS.F ht9⟩) hS.2.2 d_Mo_source_392
  · have f13 : ¬ 13 < nI v := nI_nlt (a := 13) (b := v) (by omega) (by decide)
    have ee0 : ¬ nI v = 0 := xn_ne (w := 0) (by omega) (by decide) (by omega)
    have ee5 : ¬ nI v = 5 := xn_ne (w := 5) (by omega) (by decide) (by omega)
    have ee6 : ¬ nI v = 6 := xn_ne (w := 6) (by omega) (by decide) (by omega)
    have ee7 : ¬ nI v = 7 := xn_ne (w := 7) (by omega) (by decide) (by omega)
    have ee8 : ¬ nI v = 8 := xn_ne (w := 8) (by omega) (by decide) (by omega)
    have ee9 : ¬ nI v = 9 := xn_ne (w := 9) (by omega) (by decide) (by omega)
    have ee10 : ¬ nI v = 10 := xn_ne (w := 10) (by omega) (by decide) (by omega)
    have ee11 : ¬ nI v = 11 := xn_ne (w := 11) (by omega) (by decide) (by omega)
    have ee12 : ¬ nI v = 12 := xn_ne (w := 12) (by omega) (by decide) (by omega)
    have ee13 : nI v = 13 := by rw [hcase]; rfl
    have f7 : ¬ nI v < 7 := nI_nlt (a := v) (b := 7) (by omega) (by omega)
    have f9 : ¬ nI v < 9 := nI_nlt (a := v) (b := 9) (by omega) (by omega)
    have f4 : 4 < nI v := nI_lt (a := 4) (b := v) (by omega) (by omega)
    have f10 : 10 < nI v := nI_lt (a := 10) (b := v) (by omega) (by omega)
    refine lv_aload_n hx hb d_Mo_source_0 rfl (lv_at hl 0 rfl) ?_
    refine va_get (D := D) (ci := 5) (v := .ref pA) (C := R_Mo) (T := F_Mo) (N := 21) hx hb hg f_Mo hown hK.1 hP 0 rfl rfl 16 (by decide) (hg _ q579) (fun _ h9 => h9) rfl d_Mo_source_1 ?_
    refine lv_iconst (v := 0) hx hb d_Mo_source_4 (by decide) ?_
    refine xa_ld hx hb hK hP 13 0 rfl rfl (kx := 0) (rfl) (by decide) (by decide) d_Mo_source_5 ?_
    have eq9 : ((tm_tw (nI q) h1) 0 : Int32) = nI q := rfl
    refine W.eq (g2 := F0 m 6 ls [.int (nI q)]) (by rw [eq9]) ?_
    refine lv_istore_n hx hb d_Mo_source_6 rfl hl (by decide) rfl (fun ls hl => ?_)
    have hl : lv_has ls 7 [(1, .int (nI q)), (0, .ref m0)] := hl
    refine lv_iload_n hx hb d_Mo_source_7 rfl (lv_at hl 0 rfl) ?_
    refine lv_iconst (v := 0) hx hb d_Mo_source_8 (by decide) ?_
    refine lv_aload_n hx hb d_Mo_source_9 rfl (lv_at hl 1 rfl) ?_
    refine va_get (D := D) (ci := 5) (v := .int (nI n)) (C := R_Mo) (T := F_Mo) (N := 21) hx hb hg f_Mo hown hK.1 hP 0 rfl rfl 1 (by decide) (hg _ q564) (fun _ h9 => h9) rfl d_Mo_source_10 ?_
    refine lv_iconst (v := 1) hx hb d_Mo_source_13 (by decide) ?_
    refine lv_isub hx hb d_Mo_source_14 ?_
    have eq9 : ((nI n) - 1 : Int32) = nI (n - 1) := pk_sub (a := n) (b := 1) (by omega)
    refine W.eq (g2 := F0 m 15 ls [.int (nI (n - 1)), .int 0, .int (nI q)]) (by rw [eq9]) ?_
    refine xr_S (As := [.int (nI q), .int 0, .int (nI (n - 1))]) (rest := []) ⟨hx, hb, hml, hown, hg⟩ (c_Mo_in l D cI cZ cJ (nI q) 0 (nI (n - 1))) m_Mo_in q636 ⟨rfl, rfl⟩ ⟨Nat.le_of_ble_eq_true rfl, Nat.le_of_ble_eq_true rfl⟩ hK hP [] rfl rfl hl.1 rfl (Nat.le_of_ble_eq_true rfl) d_Mo_source_15 ⟨Nat.zero_le _, Nat.zero_le _⟩ ?_
    refine lv_if_eq (tgt := 30) hx hb d_Mo_source_18 rfl (fun hz9 => absurd hz9 (tm_wi_y (nI_le (a := 0) (b := q) (by omega) (by omega)) (nI_le (a := q) (b := n - 1) (by omega) (by omega)))) (fun _ => ?_)
    refine lv_aload_n hx hb d_Mo_source_21 rfl (lv_at hl 1 rfl) ?_
    refine va_get (D := D) (ci := 5) (v := .ref oA) (C := R_Mo) (T := F_Mo) (N := 21) hx hb hg f_Mo hown hK.1 hP 0 rfl rfl 2 (by decide) (hg _ q565) (fun _ h9 => h9) rfl d_Mo_source_22 ?_
    refine lv_iload_n hx hb d_Mo_source_25 rfl (lv_at hl 0 rfl) ?_
    refine xa_ld hx hb hK hP 1 0 rfl rfl (kx := q) (rfl) (by omega) (by decide) d_Mo_source_26 ?_
    have eq9 : (Po q : Int32) = P (4 * q) := hPo q
    refine W.eq (g2 := F0 m 27 ls [.int (P (4 * q))]) (by rw [eq9]) ?_
    refine lv_goto (tgt := 32) hx hb d_Mo_source_27 rfl ?_
    have eq9 : (P (4 * q) : Int32) = nI v := hv
    refine W.eq (g2 := F0 m 32 ls [.int (nI v)]) (by rw [eq9]) ?_
    refine lv_istore_n hx hb d_Mo_source_32 rfl hl (by decide) rfl (fun ls hl => ?_)
    have hl : lv_has ls 7 [(2, .int (nI v)), (1, .int (nI q)), (0, .ref m0)] := hl
    refine lv_iload_n hx hb d_Mo_source_33 rfl (lv_at hl 0 rfl) ?_
    refine lv_bipush (v := 13) hx hb d_Mo_source_34 (by decide) ?_
    refine lv_icmp_le (tgt := 43) hx hb d_Mo_source_36 rfl (fun _ => ?_) (fun hz9 => absurd (nI_le (a := v) (b := 13) (by omega) (by decide)) hz9)
    refine lv_aload_n hx hb d_Mo_source_43 rfl (lv_at hl 2 rfl) ?_
    refine va_get (D := D) (ci := 5) (v := .ref rA) (C := R_Mo) (T := F_Mo) (N := 21) hx hb hg f_Mo hown hK.1 hP 0 rfl rfl 13 (by decide) (hg _ q576) (fun _ h9 => h9) rfl d_Mo_source_44 ?_
    refine lv_aload_n hx hb d_Mo_source_47 rfl (lv_at hl 2 rfl) ?_
    refine va_get (D := D) (ci := 5) (v := .ref aA) (C := R_Mo) (T := F_Mo) (N := 21) hx hb hg f_Mo hown hK.1 hP 0 rfl rfl 3 (by decide) (hg _ q566) (fun _ h9 => h9) rfl d_Mo_source_48 ?_
    refine lv_iload_n hx hb d_Mo_source_51 rfl (lv_at hl 1 rfl) ?_
    refine xa_ld hx hb hK hP 2 0 rfl rfl (kx := q) (rfl) (by omega) (by decide) d_Mo_source_52 ?_
    have eq9 : (Pa q : Int32) = P (4 * q + 1) := hPa q
    refine W.eq (g2 := F0 m 53 ls [.int (P (4 * q + 1)), .ref rA]) (by rw [eq9]) ?_
    refine xa_ld hx hb hK hP 10 0 rfl rfl (kx := a) (ha) (by omega) (by decide) d_Mo_source_53 ?_
    have eq9 : ((tm_jn 8 R0 R1) a : Int32) = R0 a := tm_jn_lo (by omega)
    refine W.eq (g2 := F0 m 54 ls [.int (R0 a)]) (by rw [eq9]) ?_
    refine lv_istore_n hx hb d_Mo_source_54 rfl hl (by decide) rfl (fun ls hl => ?_)
    have hl : lv_has ls 7 [(3, .int (R0 a)), (2, .int (nI v)), (1, .int (nI q)), (0, .ref m0)] := hl
    refine lv_iload_n hx hb d_Mo_source_55 rfl (lv_at hl 1 rfl) ?_
    refine lv_bipush (v := 13) hx hb d_Mo_source_56 (by decide) ?_
    refine lv_icmp_le (tgt := 65) hx hb d_Mo_source_58 rfl (fun _ => ?_) (fun hz9 => absurd (nI_le (a := v) (b := 13) (by omega) (by decide)) hz9)
    refine lv_aload_n hx hb d_Mo_source_65 rfl (lv_at hl 3 rfl) ?_
    refine va_get (D := D) (ci := 5) (v := .ref rA) (C := R_Mo) (T := F_Mo) (N := 21) hx hb hg f_Mo hown hK.1 hP 0 rfl rfl 13 (by decide) (hg _ q576) (fun _ h9 => h9) rfl d_Mo_source_66 ?_
    refine lv_aload_n hx hb d_Mo_source_69 rfl (lv_at hl 3 rfl) ?_
    refine va_get (D := D) (ci := 5) (v := .ref bB) (C := R_Mo) (T := F_Mo) (N := 21) hx hb hg f_Mo hown hK.1 hP 0 rfl rfl 4 (by decide) (hg _ q567) (fun _ h9 => h9) rfl d_Mo_source_70 ?_
    refine lv_iload_n hx hb d_Mo_source_73 rfl (lv_at hl 2 rfl) ?_
    refine xa_ld hx hb hK hP 3 0 rfl rfl (kx := q) (rfl) (by omega) (by decide) d_Mo_source_74 ?_
    have eq9 : (Pb q : Int32) = P (4 * q + 2) := hPb q
    refine W.eq (g2 := F0 m 75 ls [.int (P (4 * q + 2)), .ref rA]) (by rw [eq9]) ?_
    refine xa_ld hx hb hK hP 10 0 rfl rfl (kx := b) (hbb) (by omega) (by decide) d_Mo_source_75 ?_
    have eq9 : ((tm_jn 8 R0 R1) b : Int32) = R0 b := tm_jn_lo (by omega)
    refine W.eq (g2 := F0 m 76 ls [.int (R0 b)]) (by rw [eq9]) ?_
    refine lv_istore hx hb d_Mo_source_76 hl (by decide) rfl (fun ls hl => ?_)
    have hl : lv_has ls 7 [(4, .int (R0 b)), (3, .int (R0 a)), (2, .int (nI v)), (1, .int (nI q)), (0, .ref m0)] := hl
    refine lv_iload_n hx hb d_Mo_source_78 rfl (lv_at hl 2 rfl) ?_
    refine lv_bipush (v := 13) hx hb d_Mo_source_79 (by decide) ?_
    refine lv_icmp_le (tgt := 88) hx hb d_Mo_source_81 rfl (fun _ => ?_) (fun hz9 => absurd (nI_le (a := v) (b := 13) (by omega) (by decide)) hz9)
    refine lv_iload hx hb d_Mo_source_88 (lv_at hl 0 rfl) ?_
    refine lv_aload_n hx hb d_Mo_source_90 rfl (lv_at hl 4 rfl) ?_
    refine va_get (D := D) (ci := 5) (v := .ref cC) (C := R_Mo) (T := F_Mo) (N := 21) hx hb hg f_Mo hown hK.1 hP 0 rfl rfl 5 (by decide) (hg _ q568) (fun _ h9 => h9) rfl d_Mo_source_91 ?_
    refine lv_iload_n hx hb d_Mo_source_94 rfl (lv_at hl 3 rfl) ?_
    refine xa_ld hx hb hK hP 4 0 rfl rfl (kx := q) (rfl) (by omega) (by decide) d_Mo_source_95 ?_
    have eq9 : (Pc q : Int32) = P (4 * q + 3) := hPc q
    refine W.eq (g2 := F0 m 96 ls [.int (P (4 * q + 3)), .int (R0 b)]) (by rw [eq9]) ?_
    refine lv_iadd hx hb d_Mo_source_96 ?_
    refine xr_S (As := [.int ((R0 b) + (P (4 * q + 3)))]) (rest := []) ⟨hx, hb, hml, hown, hg⟩ (c_Mo_round l D cI cZ cJ ((R0 b) + (P (4 * q + 3)))) m_Mo_round q725 ⟨rfl, rfl⟩ ⟨Nat.le_of_ble_eq_true rfl, Nat.le_of_ble_eq_true rfl⟩ hK hP [] rfl rfl hl.1 rfl (Nat.le_of_ble_eq_true rfl) d_Mo_source_97 ⟨Nat.zero_le _, Nat.zero_le _⟩ ?_
    refine lv_istore hx hb d_Mo_source_100 hl (by decide) rfl (fun ls hl => ?_)
    have hl : lv_has ls 7 [(5, .int (tm_wr ((R0 b) + (P (4 * q + 3))))), (4, .int (R0 b)), (3, .int (R0 a)), (2, .int (nI v)), (1, .int (nI q)), (0, .ref m0)] := hl
    refine lv_iload_n hx hb d_Mo_source_102 rfl (lv_at hl 3 rfl) ?_
    refine lv_bipush (v := 13) hx hb d_Mo_source_103 (by decide) ?_
    refine lv_icmp_gt (tgt := 131) hx hb d_Mo_source_105 rfl (fun hz9 => absurd hz9 (f13)) (fun _ => ?_)
    refine lv_iload_n hx hb d_Mo_source_108 rfl (lv_at hl 3 rfl) ?_
    refine lv_bipush (v := 7) hx hb d_Mo_source_109 (by decide) ?_
    refine lv_icmp_eq (tgt := 120) hx hb d_Mo_source_111 rfl (fun hz9 => absurd hz9 (ee7)) (fun _ => ?_)
    refine lv_iload_n hx hb d_Mo_source_114 rfl (lv_at hl 3 rfl) ?_
    refine lv_bipush (v := 8) hx hb d_Mo_source_115 (by decide) ?_
    refine lv_icmp_ne (tgt := 139) hx hb d_Mo_source_117 rfl (fun _ => ?_) (fun hz9 => absurd hz9 (ee8))
    refine lv_aload_n hx hb d_Mo_source_139 rfl (lv_at hl 5 rfl) ?_
    refine va_get (D := D) (ci := 5) (v := .ref dA) (C := R_Mo) (T := F_Mo) (N := 21) hx hb hg f_Mo hown hK.1 hP 0 rfl rfl 17 (by decide) (hg _ q580) (fun _ h9 => h9) rfl d_Mo_source_140 ?_
    refine lv_iconst (v := 0) hx hb d_Mo_source_143 (by decide) ?_
    refine lv_dup2_11 hx hb d_Mo_source_144 rfl rfl ?_
    refine xa_ld hx hb hK hP 14 0 rfl rfl (kx := 0) (rfl) (by decide) (by decide) d_Mo_source_145 ?_
    have eq9 : ((tm_tw d0 d1) 0 : Int32) = d0 := rfl
    refine W.eq (g2 := F0 m 146 ls [.int d0, .int 0, .ref dA]) (by rw [eq9]) ?_
    refine lv_iconst (v := 1) hx hb d_Mo_source_146 (by decide) ?_
    refine lv_iadd hx hb d_Mo_source_147 ?_
    refine xa_st hx hb hK hP hD hS 14 0 rfl rfl (kx := 0) (rfl) (by decide) (by decide) d_Mo_source_148 (fun H locs hP hD hS => ?_)
    have hP : va_P D cls [(m0, .inr (5, [.int th, .int (nI n), .ref oA, .ref aA, .ref bB, .ref cC, .int tl, .int (nI k), .ref gA, .ref zA, .ref bA, .ref sR, .ref sD, .ref rA, .ref eC, .ref eA, .ref pA, .ref dA, .ref kA, .ref acA, .int nx])), (oA, .inl (cI, 24, .inl Po)), (aA, .inl (cI, 24, .inl Pa)), (bB, .inl (cI, 24, .inl Pb)), (cC, .inl (cI, 24, .inl Pc)), (gA, .inl (cI, 1600, .inl G)), (zA, .inl (cZ, 400, .inl O)), (bA, .inl (cI, 25, .inl B)), (sR, .inl (cI, 8, .inl sr)), (sD, .inl (cI, 32, .inl sd)), (rA, .inl (cI, 16, .inl (tm_jn 8 R0 R1))), (eC, .inl (cI, 128, .inl (tm_jn 64 C0 C1))), (eA, .inl (cI, 2, .inl (tm_tw e0 e1))), (pA, .inl (cI, 2, .inl (tm_tw (nI q) h1))), (dA, .inl (cI, 2, .inl (upd (tm_tw d0 d1) 0 (d0 + 1)))), (kA, .inl (cI, 2, .inl (tm_tw (nI k0) (nI k1)))), (acA, .inl (cI, 240, .inl (tm_jn 120 A0 A1)))] H := hP
    have hD : va_D A [(m0, .inr (5, [.int th, .int (nI n), .ref oA, .ref aA, .ref bB, .ref cC, .int tl, .int (nI k), .ref gA, .ref zA, .ref bA, .ref sR, .ref sD, .ref rA, .ref eC, .ref eA, .ref pA, .ref dA, .ref kA, .ref acA, .int nx])), (oA, .inl (cI, 24, .inl Po)), (aA, .inl (cI, 24, .inl Pa)), (bB, .inl (cI, 24, .inl Pb)), (cC, .inl (cI, 24, .inl Pc)), (gA, .inl (cI, 1600, .inl G)), (zA, .inl (cZ, 400, .inl O)), (bA, .inl (cI, 25, .inl B)), (sR, .inl (cI, 8, .inl sr)), (sD, .inl (cI, 32, .inl sd)), (rA, .inl (cI, 16, .inl (tm_jn 8 R0 R1))), (eC, .inl (cI, 128, .inl (tm_jn 64 C0 C1))), (eA, .inl (cI, 2, .inl (tm_tw e0 e1))), (pA, .inl (cI, 2, .inl (tm_tw (nI q) h1))), (dA, .inl (cI, 2, .inl (upd (tm_tw d0 d1) 0 (d0 + 1)))), (kA, .inl (cI, 2, .inl (tm_tw (nI k0) (nI k1)))), (acA, .inl (cI, 240, .inl (tm_jn 120 A0 A1)))] := hD
    rw [tm_tw_0] at hP hD
    have hP : va_P D cls [(m0, .inr (5, [.int th, .int (nI n), .ref oA, .ref aA, .ref bB, .ref cC, .int tl, .int (nI k), .ref gA, .ref zA, .ref bA, .ref sR, .ref sD, .ref rA, .ref eC, .ref eA, .ref pA, .ref dA, .ref kA, .ref acA, .int nx])), (oA, .inl (cI, 24, .inl Po)), (aA, .inl (cI, 24, .inl Pa)), (bB, .inl (cI, 24, .inl Pb)), (cC, .inl (cI, 24, .inl Pc)), (gA, .inl (cI, 1600, .inl G)), (zA, .inl (cZ, 400, .inl O)), (bA, .inl (cI, 25, .inl B)), (sR, .inl (cI, 8, .inl sr)), (sD, .inl (cI, 32, .inl sd)), (rA, .inl (cI, 16, .inl (tm_jn 8 R0 R1))), (eC, .inl (cI, 128, .inl (tm_jn 64 C0 C1))), (eA, .inl (cI, 2, .inl (tm_tw e0 e1))), (pA, .inl (cI, 2, .inl (tm_tw (nI q) h1))), (dA, .inl (cI, 2, .inl (tm_tw (d0 + 1) d1))), (kA, .inl (cI, 2, .inl (tm_tw (nI k0) (nI k1)))), (acA, .inl (cI, 240, .inl (tm_jn 120 A0 A1)))] H := hP
    have hD : va_D A [(m0, .inr (5, [.int th, .int (nI n), .ref oA, .ref aA, .ref bB, .ref cC, .int tl, .int (nI k), .ref gA, .ref zA, .ref bA, .ref sR, .ref sD, .ref rA, .ref eC, .ref eA, .ref pA, .ref dA, .ref kA, .ref acA, .int nx])), (oA, .inl (cI, 24, .inl Po)), (aA, .inl (cI, 24, .inl Pa)), (bB, .inl (cI, 24, .inl Pb)), (cC, .inl (cI, 24, .inl Pc)), (gA, .inl (cI, 1600, .inl G)), (zA, .inl (cZ, 400, .inl O)), (bA, .inl (cI, 25, .inl B)), (sR, .inl (cI, 8, .inl sr)), (sD, .inl (cI, 32, .inl sd)), (rA, .inl (cI, 16, .inl (tm_jn 8 R0 R1))), (eC, .inl (cI, 128, .inl (tm_jn 64 C0 C1))), (eA, .inl (cI, 2, .inl (tm_tw e0 e1))), (pA, .inl (cI, 2, .inl (tm_tw (nI q) h1))), (dA, .inl (cI, 2, .inl (tm_tw (d0 + 1) d1))), (kA, .inl (cI, 2, .inl (tm_tw (nI k0) (nI k1)))), (acA, .inl (cI, 240, .inl (tm_jn 120 A0 A1)))] := hD
    refine lv_iload_n hx hb d_Mo_source_149 rfl (lv_at hl 3 rfl) ?_
    refine lv_if_ne (tgt := 161) hx hb d_Mo_source_150 rfl (fun _ => ?_) (fun hz9 => absurd hz9 (ee0))
    refine lv_aload_n hx hb d_Mo_source_161 rfl (lv_at hl 5 rfl) ?_
    refine va_get (D := D) (ci := 5) (v := .int nx) (C := R_Mo) (T := F_Mo) (N := 21) hx hb hg f_Mo hown hK.1 hP 0 rfl rfl 20 (by decide) (hg _ q583) (fun _ h9 => h9) rfl d_Mo_source_162 ?_
    refine lv_iconst (v := 1) hx hb d_Mo_source_165 (by decide) ?_
    refine lv_iadd hx hb d_Mo_source_166 ?_
    refine lv_istore hx hb d_Mo_source_167 hl (by decide) rfl (fun ls hl => ?_)
    have hl : lv_has ls 7 [(6, .int (nx + 1)), (5, .int (tm_wr ((R0 b) + (P (4 * q + 3))))), (4, .int (R0 b)), (3, .int (R0 a)), (2, .int (nI v)), (1, .int (nI q)), (0, .ref m0)] := hl
    refine lv_iload_n hx hb d_Mo_source_169 rfl (lv_at hl 4 rfl) ?_
    refine lv_iconst (v := 5) hx hb d_Mo_source_170 (by decide) ?_
    refine lv_icmp_gt (tgt := 222) hx hb d_Mo_source_171 rfl (fun _ => ?_) (fun hz9 => absurd (nI_lt (a := 5) (b := v) (by omega) (by omega)) hz9)
    refine lv_iload_n hx hb d_Mo_source_222 rfl (lv_at hl 4 rfl) ?_
    refine lv_bipush (v := 6) hx hb d_Mo_source_223 (by decide) ?_
    refine lv_icmp_ne (tgt := 255) hx hb d_Mo_source_225 rfl (fun _ => ?_) (fun hz9 => absurd hz9 (ee6))
    refine lv_iload_n hx hb d_Mo_source_255 rfl (lv_at hl 4 rfl) ?_
    refine lv_bipush (v := 7) hx hb d_Mo_source_256 (by decide) ?_
    refine lv_icmp_eq (tgt := 267) hx hb d_Mo_source_258 rfl (fun hz9 => absurd hz9 (ee7)) (fun _ => ?_)
    refine lv_iload_n hx hb d_Mo_source_261 rfl (lv_at hl 4 rfl) ?_
    refine lv_bipush (v := 8) hx hb d_Mo_source_262 (by decide) ?_
    refine lv_icmp_ne (tgt := 294) hx hb d_Mo_source_264 rfl (fun _ => ?_) (fun hz9 => absurd hz9 (ee8))
    refine lv_iload_n hx hb d_Mo_source_294 rfl (lv_at hl 4 rfl) ?_
    refine lv_bipush (v := 13) hx hb d_Mo_source_295 (by decide) ?_
    refine lv_icmp_ne (tgt := 306) hx hb d_Mo_source_297 rfl (fun hz9 => absurd (ee13) hz9) (fun _ => ?_)
    refine lv_iload_n hx hb d_Mo_source_300 rfl (lv_at hl 3 rfl) ?_
    refine lv_istore hx hb d_Mo_source_301 hl (by decide) rfl (fun ls hl => ?_)
    have hl : lv_has ls 7 [(6, .int (R0 a)), (5, .int (tm_wr ((R0 b) + (P (4 * q + 3))))), (4, .int (R0 b)), (3, .int (R0 a)), (2, .int (nI v)), (1, .int (nI q)), (0, .ref m0)] := hl
    refine lv_goto (tgt := 350) hx hb d_Mo_source_303 rfl ?_
    refine lv_iload_n hx hb d_Mo_source_350 rfl (lv_at hl 4 rfl) ?_
    refine lv_bipush (v := 12) hx hb d_Mo_source_351 (by decide) ?_
    refine lv_icmp_ne (tgt := 369) hx hb d_Mo_source_353 rfl (fun _ => ?_) (fun hz9 => absurd hz9 (ee12))
    refine lv_aload_n hx hb d_Mo_source_369 rfl (lv_at hl 6 rfl) ?_
    refine va_get (D := D) (ci := 5) (v := .ref rA) (C := R_Mo) (T := F_Mo) (N := 21) hx hb hg f_Mo hown hK.1 hP 0 rfl rfl 13 (by decide) (hg _ q576) (fun _ h9 => h9) rfl d_Mo_source_370 ?_
    refine lv_iconst (v := 0) hx hb d_Mo_source_373 (by decide) ?_
    refine lv_iconst (v := 0) hx hb d_Mo_source_374 (by decide) ?_
    refine xa_st hx hb hK hP hD hS 10 0 rfl rfl (kx := 0) (rfl) (by decide) (by decide) d_Mo_source_375 (fun H locs hP hD hS => ?_)
    have hP : va_P D cls [(m0, .inr (5, [.int th, .int (nI n), .ref oA, .ref aA, .ref bB, .ref cC, .int tl, .int (nI k), .ref gA, .ref zA, .ref bA, .ref sR, .ref sD, .ref rA, .ref eC, .ref eA, .ref pA, .ref dA, .ref kA, .ref acA, .int nx])), (oA, .inl (cI, 24, .inl Po)), (aA, .inl (cI, 24, .inl Pa)), (bB, .inl (cI, 24, .inl Pb)), (cC, .inl (cI, 24, .inl Pc)), (gA, .inl (cI, 1600, .inl G)), (zA, .inl (cZ, 400, .inl O)), (bA, .inl (cI, 25, .inl B)), (sR, .inl (cI, 8, .inl sr)), (sD, .inl (cI, 32, .inl sd)), (rA, .inl (cI, 16, .inl (upd (tm_jn 8 R0 R1) 0 0))), (eC, .inl (cI, 128, .inl (tm_jn 64 C0 C1))), (eA, .inl (cI, 2, .inl (tm_tw e0 e1))), (pA, .inl (cI, 2, .inl (tm_tw (nI q) h1))), (dA, .inl (cI, 2, .inl (tm_tw (d0 + 1) d1))), (kA, .inl (cI, 2, .inl (tm_tw (nI k0) (nI k1)))), (acA, .inl (cI, 240, .inl (tm_jn 120 A0 A1)))] H := hP
    have hD : va_D A [(m0, .inr (5, [.int th, .int (nI n), .ref oA, .ref aA, .ref bB, .ref cC, .int tl, .int (nI k), .ref gA, .ref zA, .ref bA, .ref sR, .ref sD, .ref rA, .ref eC, .ref eA, .ref pA, .ref dA, .ref kA, .ref acA, .int nx])), (oA, .inl (cI, 24, .inl Po)), (aA, .inl (cI, 24, .inl Pa)), (bB, .inl (cI, 24, .inl Pb)), (cC, .inl (cI, 24, .inl Pc)), (gA, .inl (cI, 1600, .inl G)), (zA, .inl (cZ, 400, .inl O)), (bA, .inl (cI, 25, .inl B)), (sR, .inl (cI, 8, .inl sr)), (sD, .inl (cI, 32, .inl sd)), (rA, .inl (cI, 16, .inl (upd (tm_jn 8 R0 R1) 0 0))), (eC, .inl (cI, 128, .inl (tm_jn 64 C0 C1))), (eA, .inl (cI, 2, .inl (tm_tw e0 e1))), (pA, .inl (cI, 2, .inl (tm_tw (nI q) h1))), (dA, .inl (cI, 2, .inl (tm_tw (d0 + 1) d1))), (kA, .inl (cI, 2, .inl (tm_tw (nI k0) (nI k1)))), (acA, .inl (cI, 240, .inl (tm_jn 120 A0 A1)))] := hD
    rw [tm_jn_ul (by omega)] at hP hD
    have hP : va_P D cls [(m0, .inr (5, [.int th, .int (nI n), .ref oA, .ref aA, .ref bB, .ref cC, .int tl, .int (nI k), .ref gA, .ref zA, .ref bA, .ref sR, .ref sD, .ref rA, .ref eC, .ref eA, .ref pA, .ref dA, .ref kA, .ref acA, .int nx])), (oA, .inl (cI, 24, .inl Po)), (aA, .inl (cI, 24, .inl Pa)), (bB, .inl (cI, 24, .inl Pb)), (cC, .inl (cI, 24, .inl Pc)), (gA, .inl (cI, 1600, .inl G)), (zA, .inl (cZ, 400, .inl O)), (bA, .inl (cI, 25, .inl B)), (sR, .inl (cI, 8, .inl sr)), (sD, .inl (cI, 32, .inl sd)), (rA, .inl (cI, 16, .inl (tm_jn 8 (upd R0 0 0) R1))), (eC, .inl (cI, 128, .inl (tm_jn 64 C0 C1))), (eA, .inl (cI, 2, .inl (tm_tw e0 e1))), (pA, .inl (cI, 2, .inl (tm_tw (nI q) h1))), (dA, .inl (cI, 2, .inl (tm_tw (d0 + 1) d1))), (kA, .inl (cI, 2, .inl (tm_tw (nI k0) (nI k1)))), (acA, .inl (cI, 240, .inl (tm_jn 120 A0 A1)))] H := hP
    have hD : va_D A [(m0, .inr (5, [.int th, .int (nI n), .ref oA, .ref aA, .ref bB, .ref cC, .int tl, .int (nI k), .ref gA, .ref zA, .ref bA, .ref sR, .ref sD, .ref rA, .ref eC, .ref eA, .ref pA, .ref dA, .ref kA, .ref acA, .int nx])), (oA, .inl (cI, 24, .inl Po)), (aA, .inl (cI, 24, .inl Pa)), (bB, .inl (cI, 24, .inl Pb)), (cC, .inl (cI, 24, .inl Pc)), (gA, .inl (cI, 1600, .inl G)), (zA, .inl (cZ, 400, .inl O)), (bA, .inl (cI, 25, .inl B)), (sR, .inl (cI, 8, .inl sr)), (sD, .inl (cI, 32, .inl sd)), (rA, .inl (cI, 16, .inl (tm_jn 8 (upd R0 0 0) R1))), (eC, .inl (cI, 128, .inl (tm_jn 64 C0 C1))), (eA, .inl (cI, 2, .inl (tm_tw e0 e1))), (pA, .inl (cI, 2, .inl (tm_tw (nI q) h1))), (dA, .inl (cI, 2, .inl (tm_tw (d0 + 1) d1))), (kA, .inl (cI, 2, .inl (tm_tw (nI k0) (nI k1)))), (acA, .inl (cI, 240, .inl (tm_jn 120 A0 A1)))] := hD
    refine lv_aload_n hx hb d_Mo_source_376 rfl (lv_at hl 6 rfl) ?_
    refine va_get (D := D) (ci := 5) (v := .ref pA) (C := R_Mo) (T := F_Mo) (N := 21) hx hb hg f_Mo hown hK.1 hP 0 rfl rfl 16 (by decide) (hg _ q579) (fun _ h9 => h9) rfl d_Mo_source_377 ?_
    refine lv_iconst (v := 0) hx hb d_Mo_source_380 (by decide) ?_
    refine lv_aload_n hx hb d_Mo_source_381 rfl (lv_at hl 6 rfl) ?_
    refine va_get (D := D) (ci := 5) (v := .int nx) (C := R_Mo) (T := F_Mo) (N := 21) hx hb hg f_Mo hown hK.1 hP 0 rfl rfl 20 (by decide) (hg _ q583) (fun _ h9 => h9) rfl d_Mo_source_382 ?_
    refine xa_st hx hb hK hP hD hS 13 0 rfl rfl (kx := 0) (rfl) (by decide) (by decide) d_Mo_source_385 (fun H locs hP hD hS => ?_)
    have hP : va_P D cls [(m0, .inr (5, [.int th, .int (nI n), .ref oA, .ref aA, .ref bB, .ref cC, .int tl, .int (nI k), .ref gA, .ref zA, .ref bA, .ref sR, .ref sD, .ref rA, .ref eC, .ref eA, .ref pA, .ref dA, .ref kA, .ref acA, .int nx])), (oA, .inl (cI, 24, .inl Po)), (aA, .inl (cI, 24, .inl Pa)), (bB, .inl (cI, 24, .inl Pb)), (cC, .inl (cI, 24, .inl Pc)), (gA, .inl (cI, 1600, .inl G)), (zA, .inl (cZ, 400, .inl O)), (bA, .inl (cI, 25, .inl B)), (sR, .inl (cI, 8, .inl sr)), (sD, .inl (cI, 32, .inl sd)), (rA, .inl (cI, 16, .inl (tm_jn 8 (upd R0 0 0) R1))), (eC, .inl (cI, 128, .inl (tm_jn 64 C0 C1))), (eA, .inl (cI, 2, .inl (tm_tw e0 e1))), (pA, .inl (cI, 2, .inl (upd (tm_tw (nI q) h1) 0 nx))), (dA, .inl (cI, 2, .inl (tm_tw (d0 + 1) d1))), (kA, .inl (cI, 2, .inl (tm_tw (nI k0) (nI k1)))), (acA, .inl (cI, 240, .inl (tm_jn 120 A0 A1)))] H := hP
    have hD : va_D A [(m0, .inr (5, [.int th, .int (nI n), .ref oA, .ref aA, .ref bB, .ref cC, .int tl, .int (nI k), .ref gA, .ref zA, .ref bA, .ref sR, .ref sD, .ref rA, .ref eC, .ref eA, .ref pA, .ref dA, .ref kA, .ref acA, .int nx])), (oA, .inl (cI, 24, .inl Po)), (aA, .inl (cI, 24, .inl Pa)), (bB, .inl (cI, 24, .inl Pb)), (cC, .inl (cI, 24, .inl Pc)), (gA, .inl (cI, 1600, .inl G)), (zA, .inl (cZ, 400, .inl O)), (bA, .inl (cI, 25, .inl B)), (sR, .inl (cI, 8, .inl sr)), (sD, .inl (cI, 32, .inl sd)), (rA, .inl (cI, 16, .inl (tm_jn 8 (upd R0 0 0) R1))), (eC, .inl (cI, 128, .inl (tm_jn 64 C0 C1))), (eA, .inl (cI, 2, .inl (tm_tw e0 e1))), (pA, .inl (cI, 2, .inl (upd (tm_tw (nI q) h1) 0 nx))), (dA, .inl (cI, 2, .inl (tm_tw (d0 + 1) d1))), (kA, .inl (cI, 2, .inl (tm_tw (nI k0) (nI k1)))), (acA, .inl (cI, 240, .inl (tm_jn 120 A0 A1)))] := hD
    rw [tm_tw_0] at hP hD
    have hP : va_P D cls [(m0, .inr (5, [.int th, .int (nI n), .ref oA, .ref aA, .ref bB, .ref cC, .int tl, .int (nI k), .ref gA, .ref zA, .ref bA, .ref sR, .ref sD, .ref rA, .ref eC, .ref eA, .ref pA, .ref dA, .ref kA, .ref acA, .int nx])), (oA, .inl (cI, 24, .inl Po)), (aA, .inl (cI, 24, .inl Pa)), (bB, .inl (cI, 24, .inl Pb)), (cC, .inl (cI, 24, .inl Pc)), (gA, .inl (cI, 1600, .inl G)), (zA, .inl (cZ, 400, .inl O)), (bA, .inl (cI, 25, .inl B)), (sR, .inl (cI, 8, .inl sr)), (sD, .inl (cI, 32, .inl sd)), (rA, .inl (cI, 16, .inl (tm_jn 8 (upd R0 0 0) R1))), (eC, .inl (cI, 128, .inl (tm_jn 64 C0 C1))), (eA, .inl (cI, 2, .inl (tm_tw e0 e1))), (pA, .inl (cI, 2, .inl (tm_tw nx h1))), (dA, .inl (cI, 2, .inl (tm_tw (d0 + 1) d1))), (kA, .inl (cI, 2, .inl (tm_tw (nI k0) (nI k1)))), (acA, .inl (cI, 240, .inl (tm_jn 120 A0 A1)))] H := hP
    have hD : va_D A [(m0, .inr (5, [.int th, .int (nI n), .ref oA, .ref aA, .ref bB, .ref cC, .int tl, .int (nI k), .ref gA, .ref zA, .ref bA, .ref sR, .ref sD, .ref rA, .ref eC, .ref eA, .ref pA, .ref dA, .ref kA, .ref acA, .int nx])), (oA, .inl (cI, 24, .inl Po)), (aA, .inl (cI, 24, .inl Pa)), (bB, .inl (cI, 24, .inl Pb)), (cC, .inl (cI, 24, .inl Pc)), (gA, .inl (cI, 1600, .inl G)), (zA, .inl (cZ, 400, .inl O)), (bA, .inl (cI, 25, .inl B)), (sR, .inl (cI, 8, .inl sr)), (sD, .inl (cI, 32, .inl sd)), (rA, .inl (cI, 16, .inl (tm_jn 8 (upd R0 0 0) R1))), (eC, .inl (cI, 128, .inl (tm_jn 64 C0 C1))), (eA, .inl (cI, 2, .inl (tm_tw e0 e1))), (pA, .inl (cI, 2, .inl (tm_tw nx h1))), (dA, .inl (cI, 2, .inl (tm_tw (d0 + 1) d1))), (kA, .inl (cI, 2, .inl (tm_tw (nI k0) (nI k1)))), (acA, .inl (cI, 240, .inl (tm_jn 120 A0 A1)))] := hD
    refine lv_aload_n hx hb d_Mo_source_386 rfl (lv_at hl 6 rfl) ?_
    refine lv_iload hx hb d_Mo_source_387 (lv_at hl 0 rfl) ?_
    refine va_put (D := D) (ci := 5) (v := .int (R0 a)) (ty := .int) (C := R_Mo) (T := F_Mo) (N := 21) hx hb hg f_Mo t_Mo t_Mo_ok n_Mo hown hK.1 hP hD hS 0 rfl rfl 20 (by decide) (hg _ q583) (fun _ h9 => h9) rfl (by decide +kernel) rfl rfl (Nat.le_of_ble_eq_true rfl) d_Mo_source_389 (fun H locs hP hD hS => ?_)
    have hP : va_P D cls [(m0, .inr (5, [.int th, .int (nI n), .ref oA, .ref aA, .ref bB, .ref cC, .int tl, .int (nI k), .ref gA, .ref zA, .ref bA, .ref sR, .ref sD, .ref rA, .ref eC, .ref eA, .ref pA, .ref dA, .ref kA, .ref acA, .int (R0 a)])), (oA, .inl (cI, 24, .inl Po)), (aA, .inl (cI, 24, .inl Pa)), (bB, .inl (cI, 24, .inl Pb)), (cC, .inl (cI, 24, .inl Pc)), (gA, .inl (cI, 1600, .inl G)), (zA, .inl (cZ, 400, .inl O)), (bA, .inl (cI, 25, .inl B)), (sR, .inl (cI, 8, .inl sr)), (sD, .inl (cI, 32, .inl sd)), (rA, .inl (cI, 16, .inl (tm_jn 8 (upd R0 0 0) R1))), (eC, .inl (cI, 128, .inl (tm_jn 64 C0 C1))), (eA, .inl (cI, 2, .inl (tm_tw e0 e1))), (pA, .inl (cI, 2, .inl (tm_tw nx h1))), (dA, .inl (cI, 2, .inl (tm_tw (d0 + 1) d1))), (kA, .inl (cI, 2, .inl (tm_tw (nI k0) (nI k1)))), (acA, .inl (cI, 240, .inl (tm_jn 120 A0 A1)))] H := hP
    have hD : va_D A [(m0, .inr (5, [.int th, .int (nI n), .ref oA, .ref aA, .ref bB, .ref cC, .int tl, .int (nI k), .ref gA, .ref zA, .ref bA, .ref sR, .ref sD, .ref rA, .ref eC, .ref eA, .ref pA, .ref dA, .ref kA, .ref acA, .int (R0 a)])), (oA, .inl (cI, 24, .inl Po)), (aA, .inl (cI, 24, .inl Pa)), (bB, .inl (cI, 24, .inl Pb)), (cC, .inl (cI, 24, .inl Pc)), (gA, .inl (cI, 1600, .inl G)), (zA, .inl (cZ, 400, .inl O)), (bA, .inl (cI, 25, .inl B)), (sR, .inl (cI, 8, .inl sr)), (sD, .inl (cI, 32, .inl sd)), (rA, .inl (cI, 16, .inl (tm_jn 8 (upd R0 0 0) R1))), (eC, .inl (cI, 128, .inl (tm_jn 64 C0 C1))), (eA, .inl (cI, 2, .inl (tm_tw e0 e1))), (pA, .inl (cI, 2, .inl (tm_tw nx h1))), (dA, .inl (cI, 2, .inl (tm_tw (d0 + 1) d1))), (kA, .inl (cI, 2, .inl (tm_tw (nI k0) (nI k1)))), (acA, .inl (cI, 240, .inl (tm_jn 120 A0 A1)))] := hD
    have ew1 : R0 a = (tm_ss P q (R0, C0, A0, k0, nI q, d0, e0, nx)).2.2.2.2.2.2.2 := by simp [tm_ss, tm_sb, tm_ld, hv, ha, hbb, hc_a, hc_b, f13, ee0, ee5, ee6, ee7, ee8, ee9, ee10, ee11, ee12, ee13, f7, f9, f4, f10]
    have ew2_0 : (upd R0 0 0) = ((tm_ss P q (R0, C0, A0, k0, nI q, d0, e0, nx)).1) := by rw [tm_upd0 hR0]; simp [tm_ss, hv, f13, ee0, ee5, ee6, ee7, ee8, ee9, ee10, ee11, ee12, ee13, f7, f9, f4, f10]
    have ew2 : tm_jn 8 (upd R0 0 0) R1 = tm_jn 8 ((tm_ss P q (R0, C0, A0, k0, nI q, d0, e0, nx)).1) R1 := congr (congrArg (tm_jn 8) ew2_0) rfl
    have ew3_0 : C0 = ((tm_ss P q (R0, C0, A0, k0, nI q, d0, e0, nx)).2.1) := by first | rfl | (simp [tm_ss, hv, f13, ee0, ee5, ee6, ee7, ee8, ee9, ee10, ee11, ee12, ee13, f7, f9, f4, f10]; done)
    have ew3 : tm_jn 64 C0 C1 = tm_jn 64 ((tm_ss P q (R0, C0, A0, k0, nI q, d0, e0, nx)).2.1) C1 := congr (congrArg (tm_jn 64) ew3_0) rfl
    have ew4_0 : e0 = ((tm_ss P q (R0, C0, A0, k0, nI q, d0, e0, nx)).2.2.2.2.2.2.1) := by first | rfl | (simp [tm_ss, hv, f13, ee0, ee5, ee6, ee7, ee8, ee9, ee10, ee11, ee12, ee13, f7, f9, f4, f10]; done)
    have ew4 : tm_tw e0 e1 = tm_tw ((tm_ss P q (R0, C0, A0, k0, nI q, d0, e0, nx)).2.2.2.2.2.2.1) e1 := congr (congrArg (tm_tw) ew4_0) rfl
    have ew5_0 : nx = ((tm_ss P q (R0, C0, A0, k0, nI q, d0, e0, nx)).2.2.2.2.1) := by first | rfl | (simp [tm_ss, hv, f13, ee0, ee5, ee6, ee7, ee8, ee9, ee10, ee11, ee12, ee13, f7, f9, f4, f10]; done)
    have ew5 : tm_tw nx h1 = tm_tw ((tm_ss P q (R0, C0, A0, k0, nI q, d0, e0, nx)).2.2.2.2.1) h1 := congr (congrArg (tm_tw) ew5_0) rfl
    have ew6_0 : (d0 + 1) = ((tm_ss P q (R0, C0, A0, k0, nI q, d0, e0, nx)).2.2.2.2.2.1) := by first | rfl | (simp [tm_ss, hv, f13, ee0, ee5, ee6, ee7, ee8, ee9, ee10, ee11, ee12, ee13, f7, f9, f4, f10]; done)
    have ew6 : tm_tw (d0 + 1) d1 = tm_tw ((tm_ss P q (R0, C0, A0, k0, nI q, d0, e0, nx)).2.2.2.2.2.1) d1 := congr (congrArg (tm_tw) ew6_0) rfl
    have ew7_0 : (nI k0) = (nI (tm_ss P q (R0, C0, A0, k0, nI q, d0, e0, nx)).2.2.2.1) := congrArg nI (by first | (simp [tm_ss, hv, f13, ee0, ee5, ee6, ee7, ee8, ee9, ee10, ee11, ee12, ee13, f7, f9, f4, f10]; done) | (simp [tm_ss, hv, f13, ee0, ee5, ee6, ee7, ee8, ee9, ee10, ee11, ee12, ee13, f7, f9, f4, f10]; omega) | omega)
    have ew7 : tm_tw (nI k0) (nI k1) = tm_tw (nI (tm_ss P q (R0, C0, A0, k0, nI q, d0, e0, nx)).2.2.2.1) (nI k1) := congr (congrArg (tm_tw) ew7_0) rfl
    have ew8_0 : A0 = ((tm_ss P q (R0, C0, A0, k0, nI q, d0, e0, nx)).2.2.1) := by first | rfl | (simp [tm_ss, hv, f13, ee0, ee5, ee6, ee7, ee8, ee9, ee10, ee11, ee12, ee13, f7, f9, f4, f10]; done)
    have ew8 : tm_jn 120 A0 A1 = tm_jn 120 ((tm_ss P q (R0, C0, A0, k0, nI q, d0, e0, nx)).2.2.1) A1 := congr (congrArg (tm_jn 120) ew8_0) rfl
    have hP : va_P D cls [(m0, .inr (5, [.int th, .int (nI n), .ref oA, .ref aA, .ref bB, .ref cC, .int tl, .int (nI k), .ref gA, .ref zA, .ref bA, .ref sR, .ref sD, .ref rA, .ref eC, .ref eA, .ref pA, .ref dA, .ref kA, .ref acA, .int ((tm_ss P q (R0, C0, A0, k0, nI q, d0, e0, nx)).2.2.2.2.2.2.2)])), (oA, .inl (cI, 24, .inl Po)), (aA, .inl (cI, 24, .inl Pa)), (bB, .inl (cI, 24, .inl Pb)), (cC, .inl (cI, 24, .inl Pc)), (gA, .inl (cI, 1600, .inl G)), (zA, .inl (cZ, 400, .inl O)), (bA, .inl (cI, 25, .inl B)), (sR, .inl (cI, 8, .inl sr)), (sD, .inl (cI, 32, .inl sd)), (rA, .inl (cI, 16, .inl (tm_jn 8 ((tm_ss P q (R0, C0, A0, k0, nI q, d0, e0, nx)).1) R1))), (eC, .inl (cI, 128, .inl (tm_jn 64 ((tm_ss P q (R0, C0, A0, k0, nI q, d0, e0, nx)).2.1) C1))), (eA, .inl (cI, 2, .inl (tm_tw ((tm_ss P q (R0, C0, A0, k0, nI q, d0, e0, nx)).2.2.2.2.2.2.1) e1))), (pA, .inl (cI, 2, .inl (tm_tw ((tm_ss P q (R0, C0, A0, k0, nI q, d0, e0, nx)).2.2.2.2.1) h1))), (dA, .inl (cI, 2, .inl (tm_tw ((tm_ss P q (R0, C0, A0, k0, nI q, d0, e0, nx)).2.2.2.2.2.1) d1))), (kA, .inl (cI, 2, .inl (tm_tw (nI (tm_ss P q (R0, C0, A0, k0, nI q, d0, e0, nx)).2.2.2.1) (nI k1)))), (acA, .inl (cI, 240, .inl (tm_jn 120 ((tm_ss P q (R0, C0, A0, k0, nI q, d0, e0, nx)).2.2.1) A1)))] H := by rw [← ew1, ← ew2, ← ew3, ← ew4, ← ew5, ← ew6, ← ew7, ← ew8]; exact hP
    have hD : va_D A [(m0, .inr (5, [.int th, .int (nI n), .ref oA, .ref aA, .ref bB, .ref cC, .int tl, .int (nI k), .ref gA, .ref zA, .ref bA, .ref sR, .ref sD, .ref rA, .ref eC, .ref eA, .ref pA, .ref dA, .ref kA, .ref acA, .int ((tm_ss P q (R0, C0, A0, k0, nI q, d0, e0, nx)).2.2.2.2.2.2.2)])), (oA, .inl (cI, 24, .inl Po)), (aA, .inl (cI, 24, .inl Pa)), (bB, .inl (cI, 24, .inl Pb)), (cC, .inl (cI, 24, .inl Pc)), (gA, .inl (cI, 1600, .inl G)), (zA, .inl (cZ, 400, .inl O)), (bA, .inl (cI, 25, .inl B)), (sR, .inl (cI, 8, .inl sr)), (sD, .inl (cI, 32, .inl sd)), (rA, .inl (cI, 16, .inl (tm_jn 8 ((tm_ss P q (R0, C0, A0, k0, nI q, d0, e0, nx)).1) R1))), (eC, .inl (cI, 128, .inl (tm_jn 64 ((tm_ss P q (R0, C0, A0, k0, nI q, d0, e0, nx)).2.1) C1))), (eA, .inl (cI, 2, .inl (tm_tw ((tm_ss P q (R0, C0, A0, k0, nI q, d0, e0, nx)).2.2.2.2.2.2.1) e1))), (pA, .inl (cI, 2, .inl (tm_tw ((tm_ss P q (R0, C0, A0, k0, nI q, d0, e0, nx)).2.2.2.2.1) h1))), (dA, .inl (cI, 2, .inl (tm_tw ((tm_ss P q (R0, C0, A0, k0, nI q, d0, e0, nx)).2.2.2.2.2.1) d1))), (kA, .inl (cI, 2, .inl (tm_tw (nI (tm_ss P q (R0, C0, A0, k0, nI q, d0, e0, nx)).2.2.2.1) (nI k1)))), (acA, .inl (cI, 240, .inl (tm_jn 120 ((tm_ss P q (R0, C0, A0, k0, nI q, d0, e0, nx)).2.2.1) A1)))] := by rw [← ew1, ← ew2, ← ew3, ← ew4, ← ew5, ← ew6, ← ew7, ← ew8]; exact hD
    exact W.vret hx hb hr (fun t9 ht9 hW9 => ⟨⟨(), rfl, trivial, by rw [ht9]; exact hP, hD⟩, hS.F ht9⟩) hS.2.2 d_Mo_source_392

set_option maxHeartbeats 4000000 in
set_option maxRecDepth 100000 in
theorem c_Mo_source_out (l : Launch) (D : va_G) (cI cZ cJ : ClassId) (m0 oA aA bB cC gA zA bA sR sD rA eC eA pA dA kA acA : Nat) (Po Pa Pb Pc G O B sr sd R0 R1 C0 C1 A0 A1 : Nat → Int32) (n k k0 k1 : Nat) (th tl nx e0 e1 h0 h1 d0 d1 : Int32) (hn : n ≤ 24) (ho : tm_wi h0 0 (nI n - 1) = 0) : xw_Met l y_Mo_source b_Mo_source 7 none { frames := 1, cells := 0, slots := 0, locals := 22 } [.ref m0] D cls (tyL cI cZ cJ) [(m0, .inr (5, [.int th, .int (nI n), .ref oA, .ref aA, .ref bB, .ref cC, .int tl, .int (nI k), .ref gA, .ref zA, .ref bA, .ref sR, .ref sD, .ref rA, .ref eC, .ref eA, .ref pA, .ref dA, .ref kA, .ref acA, .int nx])), (oA, .inl (cI, 24, .inl Po)), (aA, .inl (cI, 24, .inl Pa)), (bB, .inl (cI, 24, .inl Pb)), (cC, .inl (cI, 24, .inl Pc)), (gA, .inl (cI, 1600, .inl G)), (zA, .inl (cZ, 400, .inl O)), (bA, .inl (cI, 25, .inl B)), (sR, .inl (cI, 8, .inl sr)), (sD, .inl (cI, 32, .inl sd)), (rA, .inl (cI, 16, .inl (tm_jn 8 R0 R1))), (eC, .inl (cI, 128, .inl (tm_jn 64 C0 C1))), (eA, .inl (cI, 2, .inl (tm_tw e0 e1))), (pA, .inl (cI, 2, .inl (tm_tw h0 h1))), (dA, .inl (cI, 2, .inl (tm_tw d0 d1))), (kA, .inl (cI, 2, .inl (tm_tw (nI k0) (nI k1)))), (acA, .inl (cI, 240, .inl (tm_jn 120 A0 A1)))] [(m0, .inr (5, [.int th, .int (nI n), .ref oA, .ref aA, .ref bB, .ref cC, .int tl, .int (nI k), .ref gA, .ref zA, .ref bA, .ref sR, .ref sD, .ref rA, .ref eC, .ref eA, .ref pA, .ref dA, .ref kA, .ref acA, .int nx])), (oA, .inl (cI, 24, .inl Po)), (aA, .inl (cI, 24, .inl Pa)), (bB, .inl (cI, 24, .inl Pb)), (cC, .inl (cI, 24, .inl Pc)), (gA, .inl (cI, 1600, .inl G)), (zA, .inl (cZ, 400, .inl O)), (bA, .inl (cI, 25, .inl B)), (sR, .inl (cI, 8, .inl sr)), (sD, .inl (cI, 32, .inl sd)), (rA, .inl (cI, 16, .inl (tm_jn 8 R0 R1))), (eC, .inl (cI, 128, .inl (tm_jn 64 C0 C1))), (eA, .inl (cI, 2, .inl (tm_tw 2 e1))), (pA, .inl (cI, 2, .inl (tm_tw h0 h1))), (dA, .inl (cI, 2, .inl (tm_tw d0 d1))), (kA, .inl (cI, 2, .inl (tm_tw (nI k0) (nI k1)))), (acA, .inl (cI, 240, .inl (tm_jn 120 A0 A1)))] := by
  intro sz
  refine Met.ofW (cc := b_Mo_source) (maxL := 7) (ret := none) (by decide) rfl ?_
  intro p e s m args below meth c s₁ B0 hml hv
  obtain ⟨rfl, hsz, hP, hK, hD0⟩ := hv
  have hx := B0.exec
  have hb := B0.bytes
  have hr := B0.returns
  have hlocks := B0.notSynchronized
  have hg : ∀ w ∈ gG, w.before _ s = true := fun w h => atoms_spec B0.pre w (List.mem_cons_of_mem _ h)
  have hown : s.vm.findClass R_Mo = some m.cls := findClass_of_methodNamed B0.named
  subst hsz
  have hD := hD0.self (sz := s.heap.size)
  generalize hAe : va_A [(m0, .inr (5, [.int th, .int (nI n), .ref oA, .ref aA, .ref bB, .ref cC, .int tl, .int (nI k), .ref gA, .ref zA, .ref bA, .ref sR, .ref sD, .ref rA, .ref eC, .ref eA, .ref pA, .ref dA, .ref kA, .ref acA, .int nx])), (oA, .inl (cI, 24, .inl Po)), (aA, .inl (cI, 24, .inl Pa)), (bB, .inl (cI, 24, .inl Pb)), (cC, .inl (cI, 24, .inl Pc)), (gA, .inl (cI, 1600, .inl G)), (zA, .inl (cZ, 400, .inl O)), (bA, .inl (cI, 25, .inl B)), (sR, .inl (cI, 8, .inl sr)), (sD, .inl (cI, 32, .inl sd)), (rA, .inl (cI, 16, .inl (tm_jn 8 R0 R1))), (eC, .inl (cI, 128, .inl (tm_jn 64 C0 C1))), (eA, .inl (cI, 2, .inl (tm_tw e0 e1))), (pA, .inl (cI, 2, .inl (tm_tw h0 h1))), (dA, .inl (cI, 2, .inl (tm_tw d0 d1))), (kA, .inl (cI, 2, .inl (tm_tw (nI k0) (nI k1)))), (acA, .inl (cI, 240, .inl (tm_jn 120 A0 A1)))] s.heap.size = A at hD ⊢
  have hA : ∀ q : Nat, s.heap.size ≤ q → A q := fun q h => by rw [← hAe]; exact Or.inr h
  have hS : va_S A s.heap s.heap [] := va_S.rf
  have hP : va_P D cls [(m0, .inr (5, [.int th, .int (nI n), .ref oA, .ref aA, .ref bB, .ref cC, .int tl, .int (nI k), .ref gA, .ref zA, .ref bA, .ref sR, .ref sD, .ref rA, .ref eC, .ref eA, .ref pA, .ref dA, .ref kA, .ref acA, .int nx])), (oA, .inl (cI, 24, .inl Po)), (aA, .inl (cI, 24, .inl Pa)), (bB, .inl (cI, 24, .inl Pb)), (cC, .inl (cI, 24, .inl Pc)), (gA, .inl (cI, 1600, .inl G)), (zA, .inl (cZ, 400, .inl O)), (bA, .inl (cI, 25, .inl B)), (sR, .inl (cI, 8, .inl sr)), (sD, .inl (cI, 32, .inl sd)), (rA, .inl (cI, 16, .inl (tm_jn 8 R0 R1))), (eC, .inl (cI, 128, .inl (tm_jn 64 C0 C1))), (eA, .inl (cI, 2, .inl (tm_tw e0 e1))), (pA, .inl (cI, 2, .inl (tm_tw h0 h1))), (dA, .inl (cI, 2, .inl (tm_tw d0 d1))), (kA, .inl (cI, 2, .inl (tm_tw (nI k0) (nI k1)))), (acA, .inl (cI, 240, .inl (tm_jn 120 A0 A1)))] s.heap := hP
  have hl := lv_entry ([.ref m0]) (n := 7) (Nat.le_of_ble_eq_true rfl)
  rw [lg_entry_eq]
  generalize (lg_sl ([.ref m0]) ++ List.replicate (7 - (lg_sl ([.ref m0])).length) Slot.unset).toArray = ls at hl ⊢
  have hl : lv_has ls 7 [(0, .ref m0)] := hl
  refine lv_aload_n hx hb d_Mo_source_0 rfl (lv_at hl 0 rfl) ?_
  refine va_get (D := D) (ci := 5) (v := .ref pA) (C := R_Mo) (T := F_Mo) (N := 21) hx hb hg f_Mo hown hK.1 hP 0 rfl rfl 16 (by decide) (hg _ q579) (fun _ h9 => h9) rfl d_Mo_source_1 ?_
  refine lv_iconst (v := 0) hx hb d_Mo_source_4 (by decide) ?_
  refine xa_ld hx hb hK hP 13 0 rfl rfl (kx := 0) (rfl) (by decide) (by decide) d_Mo_source_5 ?_
  have eq9 : ((tm_tw h0 h1) 0 : Int32) = h0 := rfl
  refine W.eq (g2 := F0 m 6 ls [.int h0]) (by rw [eq9]) ?_
  refine lv_istore_n hx hb d_Mo_source_6 rfl hl (by decide) rfl (fun ls hl => ?_)
  have hl : lv_has ls 7 [(1, .int h0), (0, .ref m0)] := hl
  refine lv_iload_n hx hb d_Mo_source_7 rfl (lv_at hl 0 rfl) ?_
  refine lv_iconst (v := 0) hx hb d_Mo_source_8 (by decide) ?_
  refine lv_aload_n hx hb d_Mo_source_9 rfl (lv_at hl 1 rfl) ?_
  refine va_get (D := D) (ci := 5) (v := .int (nI n)) (C := R_Mo) (T := F_Mo) (N := 21) hx hb hg f_Mo hown hK.1 hP 0 rfl rfl 1 (by decide) (hg _ q564) (fun _ h9 => h9) rfl d_Mo_source_10 ?_
  refine lv_iconst (v := 1) hx hb d_Mo_source_13 (by decide) ?_
  refine lv_isub hx hb d_Mo_source_14 ?_
  refine xr_S (As := [.int h0, .int 0, .int ((nI n) - 1)]) (rest := []) ⟨hx, hb, hml, hown, hg⟩ (c_Mo_in l D cI cZ cJ h0 0 ((nI n) - 1)) m_Mo_in q636 ⟨rfl, rfl⟩ ⟨Nat.le_of_ble_eq_true rfl, Nat.le_of_ble_eq_true rfl⟩ hK hP [] rfl rfl hl.1 rfl (Nat.le_of_ble_eq_true rfl) d_Mo_source_15 ⟨Nat.zero_le _, Nat.zero_le _⟩ ?_
  refine lv_if_eq (tgt := 30) hx hb d_Mo_source_18 rfl (fun _ => ?_) (fun hz9 => absurd (ho) hz9)
  refine lv_bipush (v := 15) hx hb d_Mo_source_30 (by decide) ?_
  refine lv_istore_n hx hb d_Mo_source_32 rfl hl (by decide) rfl (fun ls hl => ?_)
  have hl : lv_has ls 7 [(2, .int 15), (1, .int h0), (0, .ref m0)] := hl
  refine lv_iload_n hx hb d_Mo_source_33 rfl (lv_at hl 0 rfl) ?_
  refine lv_bipush (v := 13) hx hb d_Mo_source_34 (by decide) ?_
  refine lv_icmp_le (tgt := 43) hx hb d_Mo_source_36 rfl (fun hz9 => absurd hz9 (by decide)) (fun _ => ?_)
  refine lv_iconst (v := 0) hx hb d_Mo_source_39 (by decide) ?_
  refine lv_goto (tgt := 54) hx hb d_Mo_source_40 rfl ?_
  refine lv_istore_n hx hb d_Mo_source_54 rfl hl (by decide) rfl (fun ls hl => ?_)
  have hl : lv_has ls 7 [(3, .int 0), (2, .int 15), (1, .int h0), (0, .ref m0)] := hl
  refine lv_iload_n hx hb d_Mo_source_55 rfl (lv_at hl 1 rfl) ?_
  refine lv_bipush (v := 13) hx hb d_Mo_source_56 (by decide) ?_
  refine lv_icmp_le (tgt := 65) hx hb d_Mo_source_58 rfl (fun hz9 => absurd hz9 (by decide)) (fun _ => ?_)
  refine lv_iconst (v := 0) hx hb d_Mo_source_61 (by decide) ?_
  refine lv_goto (tgt := 76) hx hb d_Mo_source_62 rfl ?_
  refine lv_istore hx hb d_Mo_source_76 hl (by decide) rfl (fun ls hl => ?_)
  have hl : lv_has ls 7 [(4, .int 0), (3, .int 0), (2, .int 15), (1, .int h0), (0, .ref m0)] := hl
  refine lv_iload_n hx hb d_Mo_source_78 rfl (lv_at hl 2 rfl) ?_
  refine lv_bipush (v := 13) hx hb d_Mo_source_79 (by decide) ?_
  refine lv_icmp_le (tgt := 88) hx hb d_Mo_source_81 rfl (fun hz9 => absurd hz9 (by decide)) (fun _ => ?_)
  refine lv_iconst (v := 0) hx hb d_Mo_source_84 (by decide) ?_
  refine lv_goto (tgt := 100) hx hb d_Mo_source_85 rfl ?_
  refine lv_istore hx hb d_Mo_source_100 hl (by decide) rfl (fun ls hl => ?_)
  have hl : lv_has ls 7 [(5, .int 0), (4, .int 0), (3, .int 0), (2, .int 15), (1, .int h0), (0, .ref m0)] := hl
  refine lv_iload_n hx hb d_Mo_source_102 rfl (lv_at hl 3 rfl) ?_
  refine lv_bipush (v := 13) hx hb d_Mo_source_103 (by decide) ?_
  refine lv_icmp_gt (tgt := 131) hx hb d_Mo_source_105 rfl (fun _ => ?_) (fun hz9 => absurd (by decide) hz9)
  refine lv_aload_n hx hb d_Mo_source_131 rfl (lv_at hl 5 rfl) ?_
  refine va_get (D := D) (ci := 5) (v := .ref eA) (C := R_Mo) (T := F_Mo) (N := 21) hx hb hg f_Mo hown hK.1 hP 0 rfl rfl 15 (by decide) (hg _ q578) (fun _ h9 => h9) rfl d_Mo_source_132 ?_
  refine lv_iconst (v := 0) hx hb d_Mo_source_135 (by decide) ?_
  refine lv_iconst (v := 2) hx hb d_Mo_source_136 (by decide) ?_
  refine xa_st hx hb hK hP hD hS 12 0 rfl rfl (kx := 0) (rfl) (by decide) (by decide) d_Mo_source_137 (fun H locs hP hD hS => ?_)
  have hP : va_P D cls [(m0, .inr (5, [.int th, .int (nI n), .ref oA, .ref aA, .ref bB, .ref cC, .int tl, .int (nI k), .ref gA, .ref zA, .ref bA, .ref sR, .ref sD, .ref rA, .ref eC, .ref eA, .ref pA, .ref dA, .ref kA, .ref acA, .int nx])), (oA, .inl (cI, 24, .inl Po)), (aA, .inl (cI, 24, .inl Pa)), (bB, .inl (cI, 24, .inl Pb)), (cC, .inl (cI, 24, .inl Pc)), (gA, .inl (cI, 1600, .inl G)), (zA, .inl (cZ, 400, .inl O)), (bA, .inl (cI, 25, .inl B)), (sR, .inl (cI, 8, .inl sr)), (sD, .inl (cI, 32, .inl sd)), (rA, .inl (cI, 16, .inl (tm_jn 8 R0 R1))), (eC, .inl (cI, 128, .inl (tm_jn 64 C0 C1))), (eA, .inl (cI, 2, .inl (upd (tm_tw e0 e1) 0 2))), (pA, .inl (cI, 2, .inl (tm_tw h0 h1))), (dA, .inl (cI, 2, .inl (tm_tw d0 d1))), (kA, .inl (cI, 2, .inl (tm_tw (nI k0) (nI k1)))), (acA, .inl (cI, 240, .inl (tm_jn 120 A0 A1)))] H := hP
  have hD : va_D A [(m0, .inr (5, [.int th, .int (nI n), .ref oA, .ref aA, .ref bB, .ref cC, .int tl, .int (nI k), .ref gA, .ref zA, .ref bA, .ref sR, .ref sD, .ref rA, .ref eC, .ref eA, .ref pA, .ref dA, .ref kA, .ref acA, .int nx])), (oA, .inl (cI, 24, .inl Po)), (aA, .inl (cI, 24, .inl Pa)), (bB, .inl (cI, 24, .inl Pb)), (cC, .inl (cI, 24, .inl Pc)), (gA, .inl (cI, 1600, .inl G)), (zA, .inl (cZ, 400, .inl O)), (bA, .inl (cI, 25, .inl B)), (sR, .inl (cI, 8, .inl sr)), (sD, .inl (cI, 32, .inl sd)), (rA, .inl (cI, 16, .inl (tm_jn 8 R0 R1))), (eC, .inl (cI, 128, .inl (tm_jn 64 C0 C1))), (eA, .inl (cI, 2, .inl (upd (tm_tw e0 e1) 0 2))), (pA, .inl (cI, 2, .inl (tm_tw h0 h1))), (dA, .inl (cI, 2, .inl (tm_tw d0 d1))), (kA, .inl (cI, 2, .inl (tm_tw (nI k0) (nI k1)))), (acA, .inl (cI, 240, .inl (tm_jn 120 A0 A1)))] := hD
  rw [tm_tw_0] at hP hD
  have hP : va_P D cls [(m0, .inr (5, [.int th, .int (nI n), .ref oA, .ref aA, .ref bB, .ref cC, .int tl, .int (nI k), .ref gA, .ref zA, .ref bA, .ref sR, .ref sD, .ref rA, .ref eC, .ref eA, .ref pA, .ref dA, .ref kA, .ref acA, .int nx])), (oA, .inl (cI, 24, .inl Po)), (aA, .inl (cI, 24, .inl Pa)), (bB, .inl (cI, 24, .inl Pb)), (cC, .inl (cI, 24, .inl Pc)), (gA, .inl (cI, 1600, .inl G)), (zA, .inl (cZ, 400, .inl O)), (bA, .inl (cI, 25, .inl B)), (sR, .inl (cI, 8, .inl sr)), (sD, .inl (cI, 32, .inl sd)), (rA, .inl (cI, 16, .inl (tm_jn 8 R0 R1))), (eC, .inl (cI, 128, .inl (tm_jn 64 C0 C1))), (eA, .inl (cI, 2, .inl (tm_tw 2 e1))), (pA, .inl (cI, 2, .inl (tm_tw h0 h1))), (dA, .inl (cI, 2, .inl (tm_tw d0 d1))), (kA, .inl (cI, 2, .inl (tm_tw (nI k0) (nI k1)))), (acA, .inl (cI, 240, .inl (tm_jn 120 A0 A1)))] H := hP
  have hD : va_D A [(m0, .inr (5, [.int th, .int (nI n), .ref oA, .ref aA, .ref bB, .ref cC, .int tl, .int (nI k), .ref gA, .ref zA, .ref bA, .ref sR, .ref sD, .ref rA, .ref eC, .ref eA, .ref pA, .ref dA, .ref kA, .ref acA, .int nx])), (oA, .inl (cI, 24, .inl Po)), (aA, .inl (cI, 24, .inl Pa)), (bB, .inl (cI, 24, .inl Pb)), (cC, .inl (cI, 24, .inl Pc)), (gA, .inl (cI, 1600, .inl G)), (zA, .inl (cZ, 400, .inl O)), (bA, .inl (cI, 25, .inl B)), (sR, .inl (cI, 8, .inl sr)), (sD, .inl (cI, 32, .inl sd)), (rA, .inl (cI, 16, .inl (tm_jn 8 R0 R1))), (eC, .inl (cI, 128, .inl (tm_jn 64 C0 C1))), (eA, .inl (cI, 2, .inl (tm_tw 2 e1))), (pA, .inl (cI, 2, .inl (tm_tw h0 h1))), (dA, .inl (cI, 2, .inl (tm_tw d0 d1))), (kA, .inl (cI, 2, .inl (tm_tw (nI k0) (nI k1)))), (acA, .inl (cI, 240, .inl (tm_jn 120 A0 A1)))] := hD
  have hP : va_P D cls [(m0, .inr (5, [.int th, .int (nI n), .ref oA, .ref aA, .ref bB, .ref cC, .int tl, .int (nI k), .ref gA, .ref zA, .ref bA, .ref sR, .ref sD, .ref rA, .ref eC, .ref eA, .ref pA, .ref dA, .ref kA, .ref acA, .int nx])), (oA, .inl (cI, 24, .inl Po)), (aA, .inl (cI, 24, .inl Pa)), (bB, .inl (cI, 24, .inl Pb)), (cC, .inl (cI, 24, .inl Pc)), (gA, .inl (cI, 1600, .inl G)), (zA, .inl (cZ, 400, .inl O)), (bA, .inl (cI, 25, .inl B)), (sR, .inl (cI, 8, .inl sr)), (sD, .inl (cI, 32, .inl sd)), (rA, .inl (cI, 16, .inl (tm_jn 8 R0 R1))), (eC, .inl (cI, 128, .inl (tm_jn 64 C0 C1))), (eA, .inl (cI, 2, .inl (tm_tw 2 e1))), (pA, .inl (cI, 2, .inl (tm_tw h0 h1))), (dA, .inl (cI, 2, .inl (tm_tw d0 d1))), (kA, .inl (cI, 2, .inl (tm_tw (nI k0) (nI k1)))), (acA, .inl (cI, 240, .inl (tm_jn 120 A0 A1)))] H := by exact hP
  have hD : va_D A [(m0, .inr (5, [.int th, .int (nI n), .ref oA, .ref aA, .ref bB, .ref cC, .int tl, .int (nI k), .ref gA, .ref zA, .ref bA, .ref sR, .ref sD, .ref rA, .ref eC, .ref eA, .ref pA, .ref dA, .ref kA, .ref acA, .int nx])), (oA, .inl (cI, 24, .inl Po)), (aA, .inl (cI, 24, .inl Pa)), (bB, .inl (cI, 24, .inl Pb)), (cC, .inl (cI, 24, .inl Pc)), (gA, .inl (cI, 1600, .inl G)), (zA, .inl (cZ, 400, .inl O)), (bA, .inl (cI, 25, .inl B)), (sR, .inl (cI, 8, .inl sr)), (sD, .inl (cI, 32, .inl sd)), (rA, .inl (cI, 16, .inl (tm_jn 8 R0 R1))), (eC, .inl (cI, 128, .inl (tm_jn 64 C0 C1))), (eA, .inl (cI, 2, .inl (tm_tw 2 e1))), (pA, .inl (cI, 2, .inl (tm_tw h0 h1))), (dA, .inl (cI, 2, .inl (tm_tw d0 d1))), (kA, .inl (cI, 2, .inl (tm_tw (nI k0) (nI k1)))), (acA, .inl (cI, 240, .inl (tm_jn 120 A0 A1)))] := by exact hD
  exact W.vret hx hb hr (fun t9 ht9 hW9 => ⟨⟨(), rfl, trivial, by rw [ht9]; exact hP, hD⟩, hS.F ht9⟩) hS.2.2 d_Mo_source_138
