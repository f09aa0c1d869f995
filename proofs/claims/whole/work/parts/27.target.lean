/-! THE REFERENCE: a turn of the target (printed by wip/whole/gen/c27.py) -/
set_option maxHeartbeats 4000000 in
set_option maxRecDepth 100000 in
theorem c_Mo_target (l : Launch) (D : va_G) (cI cZ cJ : ClassId) (m0 oA aA bB cC gA zA bA sR sD rA eC eA pA dA kA acA : Nat) (Po Pa Pb Pc G O B sr sd R0 R1 C0 C1 A0 A1 : Nat → Int32) (n k k0 k1 : Nat) (th tl nx e0 e1 h0 h1 d0 d1 : Int32) (q v a b w dd : Nat) (x1 : Int32) (hq : q < 217) (hv : G (4 * q) = nI v) (hv13 : v ≤ 13) (ha : G (4 * q + 1) = nI a) (ha8 : a < 8) (hbb : G (4 * q + 2) = nI b) (hb8 : b < 8) (hwt : 1 ≤ v → v ≤ 4 → G (4 * q + 3) = nI w ∧ w < 8) (hmem : 7 ≤ v → v ≤ 8 → tm_adr G q R1 = nI dd ∧ dd < 64) (hR0 : R1 0 = 0) (hsh : ∀ i, i < 8 → tm_sh (R1 i)) (hkp : k1 ≤ 40) : xw_Met l y_Mo_target b_Mo_target 9 none { frames := 2, cells := 0, slots := 0, locals := 48 } [.ref m0] D cls (tyL cI cZ cJ) [(m0, .inr (5, [.int th, .int (nI n), .ref oA, .ref aA, .ref bB, .ref cC, .int tl, .int (nI k), .ref gA, .ref zA, .ref bA, .ref sR, .ref sD, .ref rA, .ref eC, .ref eA, .ref pA, .ref dA, .ref kA, .ref acA, .int nx])), (oA, .inl (cI, 24, .inl Po)), (aA, .inl (cI, 24, .inl Pa)), (bB, .inl (cI, 24, .inl Pb)), (cC, .inl (cI, 24, .inl Pc)), (gA, .inl (cI, 1600, .inl G)), (zA, .inl (cZ, 400, .inl O)), (bA, .inl (cI, 25, .inl B)), (sR, .inl (cI, 8, .inl sr)), (sD, .inl (cI, 32, .inl sd)), (rA, .inl (cI, 16, .inl (tm_jn 8 R0 R1))), (eC, .inl (cI, 128, .inl (tm_jn 64 C0 C1))), (eA, .inl (cI, 2, .inl (tm_tw e0 e1))), (pA, .inl (cI, 2, .inl (tm_tw h0 (nI q)))), (dA, .inl (cI, 2, .inl (tm_tw d0 d1))), (kA, .inl (cI, 2, .inl (tm_tw (nI k0) (nI k1)))), (acA, .inl (cI, 240, .inl (tm_jn 120 A0 A1)))] [(m0, .inr (5, [.int th, .int (nI n), .ref oA, .ref aA, .ref bB, .ref cC, .int tl, .int (nI k), .ref gA, .ref zA, .ref bA, .ref sR, .ref sD, .ref rA, .ref eC, .ref eA, .ref pA, .ref dA, .ref kA, .ref acA, .int nx])), (oA, .inl (cI, 24, .inl Po)), (aA, .inl (cI, 24, .inl Pa)), (bB, .inl (cI, 24, .inl Pb)), (cC, .inl (cI, 24, .inl Pc)), (gA, .inl (cI, 1600, .inl G)), (zA, .inl (cZ, 400, .inl O)), (bA, .inl (cI, 25, .inl B)), (sR, .inl (cI, 8, .inl sr)), (sD, .inl (cI, 32, .inl sd)), (rA, .inl (cI, 16, .inl (tm_jn 8 R0 ((tm_ts G q (R1, C1, A1, k1, nI q, d1, e1, x1)).1)))), (eC, .inl (cI, 128, .inl (tm_jn 64 C0 ((tm_ts G q (R1, C1, A1, k1, nI q, d1, e1, x1)).2.1)))), (eA, .inl (cI, 2, .inl (tm_tw e0 ((tm_ts G q (R1, C1, A1, k1, nI q, d1, e1, x1)).2.2.2.2.2.2.1)))), (pA, .inl (cI, 2, .inl (tm_tw h0 ((tm_ts G q (R1, C1, A1, k1, nI q, d1, e1, x1)).2.2.2.2.1)))), (dA, .inl (cI, 2, .inl (tm_tw d0 ((tm_ts G q (R1, C1, A1, k1, nI q, d1, e1, x1)).2.2.2.2.2.1)))), (kA, .inl (cI, 2, .inl (tm_tw (nI k0) (nI (tm_ts G q (R1, C1, A1, k1, nI q, d1, e1, x1)).2.2.2.1)))), (acA, .inl (cI, 240, .inl (tm_jn 120 A0 ((tm_ts G q (R1, C1, A1, k1, nI q, d1, e1, x1)).2.2.1))))] := by
  intro sz
  refine Met.ofW (cc := b_Mo_target) (maxL := 9) (ret := none) (by decide) rfl ?_
  intro p e s m args below meth c s₁ B0 hml hv
  obtain ⟨rfl, hsz, hP, hK, hD0⟩ := hv
  have hx := B0.exec
  have hb := B0.bytes
  have hr := B0.returns
  have hlocks := B0.notSynchronized
  have hg : ∀ w ∈ gG, w.before _ s = true := fun w h => atoms_spec B0.pre w (List.mem_cons_of_mem _ h)
  have hown : s.vm.findClass R_Mo = some m.cls := findClass_of_methodNamed B0.named
  subst hsz
  have hD := hD0.self (sz := s.heap.size)
  generalize hAe : va_A [(m0, .inr (5, [.int th, .int (nI n), .ref oA, .ref aA, .ref bB, .ref cC, .int tl, .int (nI k), .ref gA, .ref zA, .ref bA, .ref sR, .ref sD, .ref rA, .ref eC, .ref eA, .ref pA, .ref dA, .ref kA, .ref acA, .int nx])), (oA, .inl (cI, 24, .inl Po)), (aA, .inl (cI, 24, .inl Pa)), (bB, .inl (cI, 24, .inl Pb)), (cC, .inl (cI, 24, .inl Pc)), (gA, .inl (cI, 1600, .inl G)), (zA, .inl (cZ, 400, .inl O)), (bA, .inl (cI, 25, .inl B)), (sR, .inl (cI, 8, .inl sr)), (sD, .inl (cI, 32, .inl sd)), (rA, .inl (cI, 16, .inl (tm_jn 8 R0 R1))), (eC, .inl (cI, 128, .inl (tm_jn 64 C0 C1))), (eA, .inl (cI, 2, .inl (tm_tw e0 e1))), (pA, .inl (cI, 2, .inl (tm_tw h0 (nI q)))), (dA, .inl (cI, 2, .inl (tm_tw d0 d1))), (kA, .inl (cI, 2, .inl (tm_tw (nI k0) (nI k1)))), (acA, .inl (cI, 240, .inl (tm_jn 120 A0 A1)))] s.heap.size = A at hD ⊢
  have hA : ∀ q : Nat, s.heap.size ≤ q → A q := fun q h => by rw [← hAe]; exact Or.inr h
  have hS : va_S A s.heap s.heap [] := va_S.rf
  have hP : va_P D cls [(m0, .inr (5, [.int th, .int (nI n), .ref oA, .ref aA, .ref bB, .ref cC, .int tl, .int (nI k), .ref gA, .ref zA, .ref bA, .ref sR, .ref sD, .ref rA, .ref eC, .ref eA, .ref pA, .ref dA, .ref kA, .ref acA, .int nx])), (oA, .inl (cI, 24, .inl Po)), (aA, .inl (cI, 24, .inl Pa)), (bB, .inl (cI, 24, .inl Pb)), (cC, .inl (cI, 24, .inl Pc)), (gA, .inl (cI, 1600, .inl G)), (zA, .inl (cZ, 400, .inl O)), (bA, .inl (cI, 25, .inl B)), (sR, .inl (cI, 8, .inl sr)), (sD, .inl (cI, 32, .inl sd)), (rA, .inl (cI, 16, .inl (tm_jn 8 R0 R1))), (eC, .inl (cI, 128, .inl (tm_jn 64 C0 C1))), (eA, .inl (cI, 2, .inl (tm_tw e0 e1))), (pA, .inl (cI, 2, .inl (tm_tw h0 (nI q)))), (dA, .inl (cI, 2, .inl (tm_tw d0 d1))), (kA, .inl (cI, 2, .inl (tm_tw (nI k0) (nI k1)))), (acA, .inl (cI, 240, .inl (tm_jn 120 A0 A1)))] s.heap := hP
  have hl := lv_entry ([.ref m0]) (n := 9) (Nat.le_of_ble_eq_true rfl)
  rw [lg_entry_eq]
  generalize (lg_sl ([.ref m0]) ++ List.replicate (9 - (lg_sl ([.ref m0])).length) Slot.unset).toArray = ls at hl ⊢
  have hl : lv_has ls 9 [(0, .ref m0)] := hl
  have hc_a : (nI a).toNatClampNeg = a := nI_clamp (by omega)
  have hc_b : (nI b).toNatClampNeg = b := nI_clamp (by omega)
  rcases (show v = 0 ∨ (1 ≤ v ∧ v ≤ 4) ∨ v = 5 ∨ v = 6 ∨ v = 7 ∨ v = 8 ∨ v = 9 ∨ v = 10 ∨ v = 11 ∨ v = 12 ∨ v = 13 by omega) with hcase | hcase | hcase | hcase | hcase | hcase | hcase | hcase | hcase | hcase | hcase
  · have f13 : ¬ 13 < nI v := nI_nlt (a := 13) (b := v) (by omega) (by decide)
    have ee0 : nI v = 0 := by rw [hcase]; rfl
    have ee5 : ¬ nI v = 5 := xn_ne (w := 5) (by omega) (by decide) (by omega)
    have ee6 : ¬ nI v = 6 := xn_ne (w := 6) (by omega) (by decide) (by omega)
    have ee7 : ¬ nI v = 7 := xn_ne (w := 7) (by omega) (by decide) (by omega)
    have ee8 : ¬ nI v = 8 := xn_ne (w := 8) (by omega) (by decide) (by omega)
    have ee9 : ¬ nI v = 9 := xn_ne (w := 9) (by omega) (by decide) (by omega)
    have ee10 : ¬ nI v = 10 := xn_ne (w := 10) (by omega) (by decide) (by omega)
    have ee11 : ¬ nI v = 11 := xn_ne (w := 11) (by omega) (by decide) (by omega)
    have ee12 : ¬ nI v = 12 := xn_ne (w := 12) (by omega) (by decide) (by omega)
    have ee13 : ¬ nI v = 13 := xn_ne (w := 13) (by omega) (by decide) (by omega)
    have f7 : nI v < 7 := nI_lt (a := v) (b := 7) (by omega) (by decide)
    have f9 : nI v < 9 := nI_lt (a := v) (b := 9) (by omega) (by decide)
    have f4 : ¬ 4 < nI v := nI_nlt (a := 4) (b := v) (by omega) (by decide)
    refine lv_aload_n hx hb d_Mo_target_0 rfl (lv_at hl 0 rfl) ?_
    refine va_get (D := D) (ci := 5) (v := .ref pA) (C := R_Mo) (T := F_Mo) (N := 21) hx hb hg f_Mo hown hK.1 hP 0 rfl rfl 16 (by decide) (hg _ q579) (fun _ h9 => h9) rfl d_Mo_target_1 ?_
    refine lv_iconst (v := 1) hx hb d_Mo_target_4 (by decide) ?_
    refine xa_ld hx hb hK hP 13 0 rfl rfl (kx := 1) (rfl) (by decide) (by decide) d_Mo_target_5 ?_
    have eq9 : ((tm_tw h0 (nI q)) 1 : Int32) = nI q := rfl
    refine W.eq (g2 := F0 m 6 ls [.int (nI q)]) (by rw [eq9]) ?_
    refine lv_istore_n hx hb d_Mo_target_6 rfl hl (by decide) rfl (fun ls hl => ?_)
    have hl : lv_has ls 9 [(1, .int (nI q)), (0, .ref m0)] := hl
    refine lv_aload_n hx hb d_Mo_target_7 rfl (lv_at hl 1 rfl) ?_
    refine va_get (D := D) (ci := 5) (v := .ref gA) (C := R_Mo) (T := F_Mo) (N := 21) hx hb hg f_Mo hown hK.1 hP 0 rfl rfl 8 (by decide) (hg _ q571) (fun _ h9 => h9) rfl d_Mo_target_8 ?_
    refine lv_iconst (v := 4) hx hb d_Mo_target_11 (by decide) ?_
    refine lv_iload_n hx hb d_Mo_target_12 rfl (lv_at hl 0 rfl) ?_
    refine lv_imul hx hb d_Mo_target_13 ?_
    have eq9 : (4 * (nI q) : Int32) = nI (4 * q) := pk_mul 4 q
    refine W.eq (g2 := F0 m 14 ls [.int (nI (4 * q)), .ref gA]) (by rw [eq9]) ?_
    refine xa_ld hx hb hK hP 5 0 rfl rfl (kx := 4 * q) (rfl) (by omega) (by decide) d_Mo_target_14 ?_
    have eq9 : (G (4 * q) : Int32) = nI v := hv
    refine W.eq (g2 := F0 m 15 ls [.int (nI v)]) (by rw [eq9]) ?_
    refine lv_istore_n hx hb d_Mo_target_15 rfl hl (by decide) rfl (fun ls hl => ?_)
    have hl : lv_has ls 9 [(2, .int (nI v)), (1, .int (nI q)), (0, .ref m0)] := hl
    refine lv_aload_n hx hb d_Mo_target_16 rfl (lv_at hl 2 rfl) ?_
    refine va_get (D := D) (ci := 5) (v := .ref gA) (C := R_Mo) (T := F_Mo) (N := 21) hx hb hg f_Mo hown hK.1 hP 0 rfl rfl 8 (by decide) (hg _ q571) (fun _ h9 => h9) rfl d_Mo_target_17 ?_
    refine lv_iconst (v := 4) hx hb d_Mo_target_20 (by decide) ?_
    refine lv_iload_n hx hb d_Mo_target_21 rfl (lv_at hl 1 rfl) ?_
    refine lv_imul hx hb d_Mo_target_22 ?_
    have eq9 : (4 * (nI q) : Int32) = nI (4 * q) := pk_mul 4 q
    refine W.eq (g2 := F0 m 23 ls [.int (nI (4 * q)), .ref gA]) (by rw [eq9]) ?_
    refine lv_iconst (v := 1) hx hb d_Mo_target_23 (by decide) ?_
    refine lv_iadd hx hb d_Mo_target_24 ?_
    have eq9 : ((nI (4 * q)) + 1 : Int32) = nI (4 * q + 1) := nI_add (4 * q) 1
    refine W.eq (g2 := F0 m 25 ls [.int (nI (4 * q + 1)), .ref gA]) (by rw [eq9]) ?_
    refine xa_ld hx hb hK hP 5 0 rfl rfl (kx := 4 * q + 1) (rfl) (by omega) (by decide) d_Mo_target_25 ?_
    have eq9 : (G (4 * q + 1) : Int32) = nI a := ha
    refine W.eq (g2 := F0 m 26 ls [.int (nI a)]) (by rw [eq9]) ?_
    refine lv_istore_n hx hb d_Mo_target_26 rfl hl (by decide) rfl (fun ls hl => ?_)
    have hl : lv_has ls 9 [(3, .int (nI a)), (2, .int (nI v)), (1, .int (nI q)), (0, .ref m0)] := hl
    refine lv_aload_n hx hb d_Mo_target_27 rfl (lv_at hl 3 rfl) ?_
    refine va_get (D := D) (ci := 5) (v := .ref gA) (C := R_Mo) (T := F_Mo) (N := 21) hx hb hg f_Mo hown hK.1 hP 0 rfl rfl 8 (by decide) (hg _ q571) (fun _ h9 => h9) rfl d_Mo_target_28 ?_
    refine lv_iconst (v := 4) hx hb d_Mo_target_31 (by decide) ?_
    refine lv_iload_n hx hb d_Mo_target_32 rfl (lv_at hl 2 rfl) ?_
    refine lv_imul hx hb d_Mo_target_33 ?_
    have eq9 : (4 * (nI q) : Int32) = nI (4 * q) := pk_mul 4 q
    refine W.eq (g2 := F0 m 34 ls [.int (nI (4 * q)), .ref gA]) (by rw [eq9]) ?_
    refine lv_iconst (v := 2) hx hb d_Mo_target_34 (by decide) ?_
    refine lv_iadd hx hb d_Mo_target_35 ?_
    have eq9 : ((nI (4 * q)) + 2 : Int32) = nI (4 * q + 2) := nI_add (4 * q) 2
    refine W.eq (g2 := F0 m 36 ls [.int (nI (4 * q + 2)), .ref gA]) (by rw [eq9]) ?_
    refine xa_ld hx hb hK hP 5 0 rfl rfl (kx := 4 * q + 2) (rfl) (by omega) (by decide) d_Mo_target_36 ?_
    have eq9 : (G (4 * q + 2) : Int32) = nI b := hbb
    refine W.eq (g2 := F0 m 37 ls [.int (nI b)]) (by rw [eq9]) ?_
    refine lv_istore hx hb d_Mo_target_37 hl (by decide) rfl (fun ls hl => ?_)
    have hl : lv_has ls 9 [(4, .int (nI b)), (3, .int (nI a)), (2, .int (nI v)), (1, .int (nI q)), (0, .ref m0)] := hl
    refine lv_aload_n hx hb d_Mo_target_39 rfl (lv_at hl 4 rfl) ?_
    refine va_get (D := D) (ci := 5) (v := .ref gA) (C := R_Mo) (T := F_Mo) (N := 21) hx hb hg f_Mo hown hK.1 hP 0 rfl rfl 8 (by decide) (hg _ q571) (fun _ h9 => h9) rfl d_Mo_target_40 ?_
    refine lv_iconst (v := 4) hx hb d_Mo_target_43 (by decide) ?_
    refine lv_iload_n hx hb d_Mo_target_44 rfl (lv_at hl 3 rfl) ?_
    refine lv_imul hx hb d_Mo_target_45 ?_
    have eq9 : (4 * (nI q) : Int32) = nI (4 * q) := pk_mul 4 q
    refine W.eq (g2 := F0 m 46 ls [.int (nI (4 * q)), .ref gA]) (by rw [eq9]) ?_
    refine lv_iconst (v := 3) hx hb d_Mo_target_46 (by decide) ?_
    refine lv_iadd hx hb d_Mo_target_47 ?_
    have eq9 : ((nI (4 * q)) + 3 : Int32) = nI (4 * q + 3) := nI_add (4 * q) 3
    refine W.eq (g2 := F0 m 48 ls [.int (nI (4 * q + 3)), .ref gA]) (by rw [eq9]) ?_
    refine xa_ld hx hb hK hP 5 0 rfl rfl (kx := 4 * q + 3) (rfl) (by omega) (by decide) d_Mo_target_48 ?_
    refine lv_istore hx hb d_Mo_target_49 hl (by decide) rfl (fun ls hl => ?_)
    have hl : lv_has ls 9 [(5, .int (G (4 * q + 3))), (4, .int (nI b)), (3, .int (nI a)), (2, .int (nI v)), (1, .int (nI q)), (0, .ref m0)] := hl
    refine lv_aload_n hx hb d_Mo_target_51 rfl (lv_at hl 5 rfl) ?_
    refine va_get (D := D) (ci := 5) (v := .ref rA) (C := R_Mo) (T := F_Mo) (N := 21) hx hb hg f_Mo hown hK.1 hP 0 rfl rfl 13 (by decide) (hg _ q576) (fun _ h9 => h9) rfl d_Mo_target_52 ?_
    refine lv_bipush (v := 8) hx hb d_Mo_target_55 (by decide) ?_
    refine lv_iload_n hx hb d_Mo_target_57 rfl (lv_at hl 2 rfl) ?_
    refine lv_iadd hx hb d_Mo_target_58 ?_
    have eq9 : (8 + (nI a) : Int32) = nI (8 + a) := nI_add 8 a
    refine W.eq (g2 := F0 m 59 ls [.int (nI (8 + a)), .ref rA]) (by rw [eq9]) ?_
    refine xa_ld hx hb hK hP 10 0 rfl rfl (kx := 8 + a) (rfl) (by omega) (by decide) d_Mo_target_59 ?_
    have eq9 : ((tm_jn 8 R0 R1) (8 + a) : Int32) = R1 a := (congrArg (tm_jn 8 R0 R1) (show 8 + a = 8 + a by omega)).trans tm_jn_hi
    refine W.eq (g2 := F0 m 60 ls [.int (R1 a)]) (by rw [eq9]) ?_
    refine lv_istore hx hb d_Mo_target_60 hl (by decide) rfl (fun ls hl => ?_)
    have hl : lv_has ls 9 [(6, .int (R1 a)), (5, .int (G (4 * q + 3))), (4, .int (nI b)), (3, .int (nI a)), (2, .int (nI v)), (1, .int (nI q)), (0, .ref m0)] := hl
    refine lv_aload_n hx hb d_Mo_target_62 rfl (lv_at hl 6 rfl) ?_
    refine va_get (D := D) (ci := 5) (v := .ref rA) (C := R_Mo) (T := F_Mo) (N := 21) hx hb hg f_Mo hown hK.1 hP 0 rfl rfl 13 (by decide) (hg _ q576) (fun _ h9 => h9) rfl d_Mo_target_63 ?_
    refine lv_bipush (v := 8) hx hb d_Mo_target_66 (by decide) ?_
    refine lv_iload hx hb d_Mo_target_68 (lv_at hl 2 rfl) ?_
    refine lv_iadd hx hb d_Mo_target_70 ?_
    have eq9 : (8 + (nI b) : Int32) = nI (8 + b) := nI_add 8 b
    refine W.eq (g2 := F0 m 71 ls [.int (nI (8 + b)), .ref rA]) (by rw [eq9]) ?_
    refine xa_ld hx hb hK hP 10 0 rfl rfl (kx := 8 + b) (rfl) (by omega) (by decide) d_Mo_target_71 ?_
    have eq9 : ((tm_jn 8 R0 R1) (8 + b) : Int32) = R1 b := (congrArg (tm_jn 8 R0 R1) (show 8 + b = 8 + b by omega)).trans tm_jn_hi
    refine W.eq (g2 := F0 m 72 ls [.int (R1 b)]) (by rw [eq9]) ?_
    refine lv_istore hx hb d_Mo_target_72 hl (by decide) rfl (fun ls hl => ?_)
    have hl : lv_has ls 9 [(7, .int (R1 b)), (6, .int (R1 a)), (5, .int (G (4 * q + 3))), (4, .int (nI b)), (3, .int (nI a)), (2, .int (nI v)), (1, .int (nI q)), (0, .ref m0)] := hl
    refine lv_aload_n hx hb d_Mo_target_74 rfl (lv_at hl 7 rfl) ?_
    refine va_get (D := D) (ci := 5) (v := .ref dA) (C := R_Mo) (T := F_Mo) (N := 21) hx hb hg f_Mo hown hK.1 hP 0 rfl rfl 17 (by decide) (hg _ q580) (fun _ h9 => h9) rfl d_Mo_target_75 ?_
    refine lv_iconst (v := 1) hx hb d_Mo_target_78 (by decide) ?_
    refine lv_dup2_11 hx hb d_Mo_target_79 rfl rfl ?_
    refine xa_ld hx hb hK hP 14 0 rfl rfl (kx := 1) (rfl) (by decide) (by decide) d_Mo_target_80 ?_
    have eq9 : ((tm_tw d0 d1) 1 : Int32) = d1 := rfl
    refine W.eq (g2 := F0 m 81 ls [.int d1, .int 1, .ref dA]) (by rw [eq9]) ?_
    refine lv_iconst (v := 1) hx hb d_Mo_target_81 (by decide) ?_
    refine lv_iadd hx hb d_Mo_target_82 ?_
    refine xa_st hx hb hK hP hD hS 14 0 rfl rfl (kx := 1) (rfl) (by decide) (by decide) d_Mo_target_83 (fun H locs hP hD hS => ?_)
    have hP : va_P D cls [(m0, .inr (5, [.int th, .int (nI n), .ref oA, .ref aA, .ref bB, .ref cC, .int tl, .int (nI k), .ref gA, .ref zA, .ref bA, .ref sR, .ref sD, .ref rA, .ref eC, .ref eA, .ref pA, .ref dA, .ref kA, .ref acA, .int nx])), (oA, .inl (cI, 24, .inl Po)), (aA, .inl (cI, 24, .inl Pa)), (bB, .inl (cI, 24, .inl Pb)), (cC, .inl (cI, 24, .inl Pc)), (gA, .inl (cI, 1600, .inl G)), (zA, .inl (cZ, 400, .inl O)), (bA, .inl (cI, 25, .inl B)), (sR, .inl (cI, 8, .inl sr)), (sD, .inl (cI, 32, .inl sd)), (rA, .inl (cI, 16, .inl (tm_jn 8 R0 R1))), (eC, .inl (cI, 128, .inl (tm_jn 64 C0 C1))), (eA, .inl (cI, 2, .inl (tm_tw e0 e1))), (pA, .inl (cI, 2, .inl (tm_tw h0 (nI q)))), (dA, .inl (cI, 2, .inl (upd (tm_tw d0 d1) 1 (d1 + 1)))), (kA, .inl (cI, 2, .inl (tm_tw (nI k0) (nI k1)))), (acA, .inl (cI, 240, .inl (tm_jn 120 A0 A1)))] H := hP
    have hD : va_D A [(m0, .inr (5, [.int th, .int (nI n), .ref oA, .ref aA, .ref bB, .ref cC, .int tl, .int (nI k), .ref gA, .ref zA, .ref bA, .ref sR, .ref sD, .ref rA, .ref eC, .ref eA, .ref pA, .ref dA, .ref kA, .ref acA, .int nx])), (oA, .inl (cI, 24, .inl Po)), (aA, .inl (cI, 24, .inl Pa)), (bB, .inl (cI, 24, .inl Pb)), (cC, .inl (cI, 24, .inl Pc)), (gA, .inl (cI, 1600, .inl G)), (zA, .inl (cZ, 400, .inl O)), (bA, .inl (cI, 25, .inl B)), (sR, .inl (cI, 8, .inl sr)), (sD, .inl (cI, 32, .inl sd)), (rA, .inl (cI, 16, .inl (tm_jn 8 R0 R1))), (eC, .inl (cI, 128, .inl (tm_jn 64 C0 C1))), (eA, .inl (cI, 2, .inl (tm_tw e0 e1))), (pA, .inl (cI, 2, .inl (tm_tw h0 (nI q)))), (dA, .inl (cI, 2, .inl (upd (tm_tw d0 d1) 1 (d1 + 1)))), (kA, .inl (cI, 2, .inl (tm_tw (nI k0) (nI k1)))), (acA, .inl (cI, 240, .inl (tm_jn 120 A0 A1)))] := hD
    have hD := xa_D (e2 := .inl (cI, 2, .inl (tm_tw d0 (d1 + 1)))) hD 14 rfl
    have hP := xa_P (g := tm_tw d0 (d1 + 1)) hP 14 rfl (tm_tw_c)
    have hP : va_P D cls [(m0, .inr (5, [.int th, .int (nI n), .ref oA, .ref aA, .ref bB, .ref cC, .int tl, .int (nI k), .ref gA, .ref zA, .ref bA, .ref sR, .ref sD, .ref rA, .ref eC, .ref eA, .ref pA, .ref dA, .ref kA, .ref acA, .int nx])), (oA, .inl (cI, 24, .inl Po)), (aA, .inl (cI, 24, .inl Pa)), (bB, .inl (cI, 24, .inl Pb)), (cC, .inl (cI, 24, .inl Pc)), (gA, .inl (cI, 1600, .inl G)), (zA, .inl (cZ, 400, .inl O)), (bA, .inl (cI, 25, .inl B)), (sR, .inl (cI, 8, .inl sr)), (sD, .inl (cI, 32, .inl sd)), (rA, .inl (cI, 16, .inl (tm_jn 8 R0 R1))), (eC, .inl (cI, 128, .inl (tm_jn 64 C0 C1))), (eA, .inl (cI, 2, .inl (tm_tw e0 e1))), (pA, .inl (cI, 2, .inl (tm_tw h0 (nI q)))), (dA, .inl (cI, 2, .inl (tm_tw d0 (d1 + 1)))), (kA, .inl (cI, 2, .inl (tm_tw (nI k0) (nI k1)))), (acA, .inl (cI, 240, .inl (tm_jn 120 A0 A1)))] H := hP
    have hD : va_D A [(m0, .inr (5, [.int th, .int (nI n), .ref oA, .ref aA, .ref bB, .ref cC, .int tl, .int (nI k), .ref gA, .ref zA, .ref bA, .ref sR, .ref sD, .ref rA, .ref eC, .ref eA, .ref pA, .ref dA, .ref kA, .ref acA, .int nx])), (oA, .inl (cI, 24, .inl Po)), (aA, .inl (cI, 24, .inl Pa)), (bB, .inl (cI, 24, .inl Pb)), (cC, .inl (cI, 24, .inl Pc)), (gA, .inl (cI, 1600, .inl G)), (zA, .inl (cZ, 400, .inl O)), (bA, .inl (cI, 25, .inl B)), (sR, .inl (cI, 8, .inl sr)), (sD, .inl (cI, 32, .inl sd)), (rA, .inl (cI, 16, .inl (tm_jn 8 R0 R1))), (eC, .inl (cI, 128, .inl (tm_jn 64 C0 C1))), (eA, .inl (cI, 2, .inl (tm_tw e0 e1))), (pA, .inl (cI, 2, .inl (tm_tw h0 (nI q)))), (dA, .inl (cI, 2, .inl (tm_tw d0 (d1 + 1)))), (kA, .inl (cI, 2, .inl (tm_tw (nI k0) (nI k1)))), (acA, .inl (cI, 240, .inl (tm_jn 120 A0 A1)))] := hD
    refine lv_iload_n hx hb d_Mo_target_84 rfl (lv_at hl 5 rfl) ?_
    refine lv_if_ne (tgt := 105) hx hb d_Mo_target_85 rfl (fun hz9 => absurd (ee0) hz9) (fun _ => ?_)
    refine lv_aload_n hx hb d_Mo_target_88 rfl (lv_at hl 7 rfl) ?_
    refine va_get (D := D) (ci := 5) (v := .ref eA) (C := R_Mo) (T := F_Mo) (N := 21) hx hb hg f_Mo hown hK.1 hP 0 rfl rfl 15 (by decide) (hg _ q578) (fun _ h9 => h9) rfl d_Mo_target_89 ?_
    refine lv_iconst (v := 1) hx hb d_Mo_target_92 (by decide) ?_
    refine lv_iload hx hb d_Mo_target_93 (lv_at hl 2 rfl) ?_
    refine lv_if_ne (tgt := 102) hx hb d_Mo_target_95 rfl (fun ht0 => ?_) (fun ht0 => ?_)
    · refine lv_iconst (v := 2) hx hb d_Mo_target_102 (by decide) ?_
      refine xa_st hx hb hK hP hD hS 12 0 rfl rfl (kx := 1) (rfl) (by decide) (by decide) d_Mo_target_103 (fun H locs hP hD hS => ?_)
      have hP : va_P D cls [(m0, .inr (5, [.int th, .int (nI n), .ref oA, .ref aA, .ref bB, .ref cC, .int tl, .int (nI k), .ref gA, .ref zA, .ref bA, .ref sR, .ref sD, .ref rA, .ref eC, .ref eA, .ref pA, .ref dA, .ref kA, .ref acA, .int nx])), (oA, .inl (cI, 24, .inl Po)), (aA, .inl (cI, 24, .inl Pa)), (bB, .inl (cI, 24, .inl Pb)), (cC, .inl (cI, 24, .inl Pc)), (gA, .inl (cI, 1600, .inl G)), (zA, .inl (cZ, 400, .inl O)), (bA, .inl (cI, 25, .inl B)), (sR, .inl (cI, 8, .inl sr)), (sD, .inl (cI, 32, .inl sd)), (rA, .inl (cI, 16, .inl (tm_jn 8 R0 R1))), (eC, .inl (cI, 128, .inl (tm_jn 64 C0 C1))), (eA, .inl (cI, 2, .inl (upd (tm_tw e0 e1) 1 2))), (pA, .inl (cI, 2, .inl (tm_tw h0 (nI q)))), (dA, .inl (cI, 2, .inl (tm_tw d0 (d1 + 1)))), (kA, .inl (cI, 2, .inl (tm_tw (nI k0) (nI k1)))), (acA, .inl (cI, 240, .inl (tm_jn 120 A0 A1)))] H := hP
      have hD : va_D A [(m0, .inr (5, [.int th, .int (nI n), .ref oA, .ref aA, .ref bB, .ref cC, .int tl, .int (nI k), .ref gA, .ref zA, .ref bA, .ref sR, .ref sD, .ref rA, .ref eC, .ref eA, .ref pA, .ref dA, .ref kA, .ref acA, .int nx])), (oA, .inl (cI, 24, .inl Po)), (aA, .inl (cI, 24, .inl Pa)), (bB, .inl (cI, 24, .inl Pb)), (cC, .inl (cI, 24, .inl Pc)), (gA, .inl (cI, 1600, .inl G)), (zA, .inl (cZ, 400, .inl O)), (bA, .inl (cI, 25, .inl B)), (sR, .inl (cI, 8, .inl sr)), (sD, .inl (cI, 32, .inl sd)), (rA, .inl (cI, 16, .inl (tm_jn 8 R0 R1))), (eC, .inl (cI, 128, .inl (tm_jn 64 C0 C1))), (eA, .inl (cI, 2, .inl (upd (tm_tw e0 e1) 1 2))), (pA, .inl (cI, 2, .inl (tm_tw h0 (nI q)))), (dA, .inl (cI, 2, .inl (tm_tw d0 (d1 + 1)))), (kA, .inl (cI, 2, .inl (tm_tw (nI k0) (nI k1)))), (acA, .inl (cI, 240, .inl (tm_jn 120 A0 A1)))] := hD
      have hD := xa_D (e2 := .inl (cI, 2, .inl (tm_tw e0 2))) hD 12 rfl
      have hP := xa_P (g := tm_tw e0 2) hP 12 rfl (tm_tw_c)
      have hP : va_P D cls [(m0, .inr (5, [.int th, .int (nI n), .ref oA, .ref aA, .ref bB, .ref cC, .int tl, .int (nI k), .ref gA, .ref zA, .ref bA, .ref sR, .ref sD, .ref rA, .ref eC, .ref eA, .ref pA, .ref dA, .ref kA, .ref acA, .int nx])), (oA, .inl (cI, 24, .inl Po)), (aA, .inl (cI, 24, .inl Pa)), (bB, .inl (cI, 24, .inl Pb)), (cC, .inl (cI, 24, .inl Pc)), (gA, .inl (cI, 1600, .inl G)), (zA, .inl (cZ, 400, .inl O)), (bA, .inl (cI, 25, .inl B)), (sR, .inl (cI, 8, .inl sr)), (sD, .inl (cI, 32, .inl sd)), (rA, .inl (cI, 16, .inl (tm_jn 8 R0 R1))), (eC, .inl (cI, 128, .inl (tm_jn 64 C0 C1))), (eA, .inl (cI, 2, .inl (tm_tw e0 2))), (pA, .inl (cI, 2, .inl (tm_tw h0 (nI q)))), (dA, .inl (cI, 2, .inl (tm_tw d0 (d1 + 1)))), (kA, .inl (cI, 2, .inl (tm_tw (nI k0) (nI k1)))), (acA, .inl (cI, 240, .inl (tm_jn 120 A0 A1)))] H := hP
      have hD : va_D A [(m0, .inr (5, [.int th, .int (nI n), .ref oA, .ref aA, .ref bB, .ref cC, .int tl, .int (nI k), .ref gA, .ref zA, .ref bA, .ref sR, .ref sD, .ref rA, .ref eC, .ref eA, .ref pA, .ref dA, .ref kA, .ref acA, .int nx])), (oA, .inl (cI, 24, .inl Po)), (aA, .inl (cI, 24, .inl Pa)), (bB, .inl (cI, 24, .inl Pb)), (cC, .inl (cI, 24, .inl Pc)), (gA, .inl (cI, 1600, .inl G)), (zA, .inl (cZ, 400, .inl O)), (bA, .inl (cI, 25, .inl B)), (sR, .inl (cI, 8, .inl sr)), (sD, .inl (cI, 32, .inl sd)), (rA, .inl (cI, 16, .inl (tm_jn 8 R0 R1))), (eC, .inl (cI, 128, .inl (tm_jn 64 C0 C1))), (eA, .inl (cI, 2, .inl (tm_tw e0 2))), (pA, .inl (cI, 2, .inl (tm_tw h0 (nI q)))), (dA, .inl (cI, 2, .inl (tm_tw d0 (d1 + 1)))), (kA, .inl (cI, 2, .inl (tm_tw (nI k0) (nI k1)))), (acA, .inl (cI, 240, .inl (tm_jn 120 A0 A1)))] := hD
      have ew1_1 : R1 = ((tm_ts G q (R1, C1, A1, k1, nI q, d1, e1, x1)).1) := by first | rfl | (simp [tm_ts, hv, f13, ee0, ee5, ee6, ee7, ee8, ee9, ee10, ee11, ee12, ee13, f7, f9, f4, ht0]; done)
      have ew1 : tm_jn 8 R0 R1 = tm_jn 8 R0 ((tm_ts G q (R1, C1, A1, k1, nI q, d1, e1, x1)).1) := congr (congrArg (tm_jn 8) rfl) ew1_1
      have ew2_1 : C1 = ((tm_ts G q (R1, C1, A1, k1, nI q, d1, e1, x1)).2.1) := by first | rfl | (simp [tm_ts, hv, f13, ee0, ee5, ee6, ee7, ee8, ee9, ee10, ee11, ee12, ee13, f7, f9, f4, ht0]; done)
      have ew2 : tm_jn 64 C0 C1 = tm_jn 64 C0 ((tm_ts G q (R1, C1, A1, k1, nI q, d1, e1, x1)).2.1) := congr (congrArg (tm_jn 64) rfl) ew2_1
      have ew3_1 : 2 = ((tm_ts G q (R1, C1, A1, k1, nI q, d1, e1, x1)).2.2.2.2.2.2.1) := by first | rfl | (simp [tm_ts, hv, f13, ee0, ee5, ee6, ee7, ee8, ee9, ee10, ee11, ee12, ee13, f7, f9, f4, ht0]; done)
      have ew3 : tm_tw e0 2 = tm_tw e0 ((tm_ts G q (R1, C1, A1, k1, nI q, d1, e1, x1)).2.2.2.2.2.2.1) := congr (congrArg (tm_tw) rfl) ew3_1
      have ew4_1 : (nI q) = ((tm_ts G q (R1, C1, A1, k1, nI q, d1, e1, x1)).2.2.2.2.1) := by first | rfl | (simp [tm_ts, hv, f13, ee0, ee5, ee6, ee7, ee8, ee9, ee10, ee11, ee12, ee13, f7, f9, f4, ht0]; done)
      have ew4 : tm_tw h0 (nI q) = tm_tw h0 ((tm_ts G q (R1, C1, A1, k1, nI q, d1, e1, x1)).2.2.2.2.1) := congr (congrArg (tm_tw) rfl) ew4_1
      have ew5_1 : (d1 + 1) = ((tm_ts G q (R1, C1, A1, k1, nI q, d1, e1, x1)).2.2.2.2.2.1) := by first | rfl | (simp [tm_ts, hv, f13, ee0, ee5, ee6, ee7, ee8, ee9, ee10, ee11, ee12, ee13, f7, f9, f4, ht0]; done)
      have ew5 : tm_tw d0 (d1 + 1) = tm_tw d0 ((tm_ts G q (R1, C1, A1, k1, nI q, d1, e1, x1)).2.2.2.2.2.1) := congr (congrArg (tm_tw) rfl) ew5_1
      have ew6_1 : (nI k1) = (nI (tm_ts G q (R1, C1, A1, k1, nI q, d1, e1, x1)).2.2.2.1) := congrArg nI (by first | (simp [tm_ts, hv, f13, ee0, ee5, ee6, ee7, ee8, ee9, ee10, ee11, ee12, ee13, f7, f9, f4, ht0]; done) | (simp [tm_ts, hv, f13, ee0, ee5, ee6, ee7, ee8, ee9, ee10, ee11, ee12, ee13, f7, f9, f4, ht0]; omega) | omega)
      have ew6 : tm_tw (nI k0) (nI k1) = tm_tw (nI k0) (nI (tm_ts G q (R1, C1, A1, k1, nI q, d1, e1, x1)).2.2.2.1) := congr (congrArg (tm_tw) rfl) ew6_1
      have ew7_1 : A1 = ((tm_ts G q (R1, C1, A1, k1, nI q, d1, e1, x1)).2.2.1) := by first | rfl | (simp [tm_ts, hv, f13, ee0, ee5, ee6, ee7, ee8, ee9, ee10, ee11, ee12, ee13, f7, f9, f4, ht0]; done)
      have ew7 : tm_jn 120 A0 A1 = tm_jn 120 A0 ((tm_ts G q (R1, C1, A1, k1, nI q, d1, e1, x1)).2.2.1) := congr (congrArg (tm_jn 120) rfl) ew7_1
      have hP : va_P D cls [(m0, .inr (5, [.int th, .int (nI n), .ref oA, .ref aA, .ref bB, .ref cC, .int tl, .int (nI k), .ref gA, .ref zA, .ref bA, .ref sR, .ref sD, .ref rA, .ref eC, .ref eA, .ref pA, .ref dA, .ref kA, .ref acA, .int nx])), (oA, .inl (cI, 24, .inl Po)), (aA, .inl (cI, 24, .inl Pa)), (bB, .inl (cI, 24, .inl Pb)), (cC, .inl (cI, 24, .inl Pc)), (gA, .inl (cI, 1600, .inl G)), (zA, .inl (cZ, 400, .inl O)), (bA, .inl (cI, 25, .inl B)), (sR, .inl (cI, 8, .inl sr)), (sD, .inl (cI, 32, .inl sd)), (rA, .inl (cI, 16, .inl (tm_jn 8 R0 ((tm_ts G q (R1, C1, A1, k1, nI q, d1, e1, x1)).1)))), (eC, .inl (cI, 128, .inl (tm_jn 64 C0 ((tm_ts G q (R1, C1, A1, k1, nI q, d1, e1, x1)).2.1)))), (eA, .inl (cI, 2, .inl (tm_tw e0 ((tm_ts G q (R1, C1, A1, k1, nI q, d1, e1, x1)).2.2.2.2.2.2.1)))), (pA, .inl (cI, 2, .inl (tm_tw h0 ((tm_ts G q (R1, C1, A1, k1, nI q, d1, e1, x1)).2.2.2.2.1)))), (dA, .inl (cI, 2, .inl (tm_tw d0 ((tm_ts G q (R1, C1, A1, k1, nI q, d1, e1, x1)).2.2.2.2.2.1)))), (kA, .inl (cI, 2, .inl (tm_tw (nI k0) (nI (tm_ts G q (R1, C1, A1, k1, nI q, d1, e1, x1)).2.2.2.1)))), (acA, .inl (cI, 240, .inl (tm_jn 120 A0 ((tm_ts G q (R1, C1, A1, k1, nI q, d1, e1, x1)).2.2.1))))] H := by rw [← ew1, ← ew2, ← ew3, ← ew4, ← ew5, ← ew6, ← ew7]; exact hP
      have hD : va_D A [(m0, .inr (5, [.int th, .int (nI n), .ref oA, .ref aA, .ref bB, .ref cC, .int tl, .int (nI k), .ref gA, .ref zA, .ref bA, .ref sR, .ref sD, .ref rA, .ref eC, .ref eA, .ref pA, .ref dA, .ref kA, .ref acA, .int nx])), (oA, .inl (cI, 24, .inl Po)), (aA, .inl (cI, 24, .inl Pa)), (bB, .inl (cI, 24, .inl Pb)), (cC, .inl (cI, 24, .inl Pc)), (gA, .inl (cI, 1600, .inl G)), (zA, .inl (cZ, 400, .inl O)), (bA, .inl (cI, 25, .inl B)), (sR, .inl (cI, 8, .inl sr)), (sD, .inl (cI, 32, .inl sd)), (rA, .inl (cI, 16, .inl (tm_jn 8 R0 ((tm_ts G q (R1, C1, A1, k1, nI q, d1, e1, x1)).1)))), (eC, .inl (cI, 128, .inl (tm_jn 64 C0 ((tm_ts G q (R1, C1, A1, k1, nI q, d1, e1, x1)).2.1)))), (eA, .inl (cI, 2, .inl (tm_tw e0 ((tm_ts G q (R1, C1, A1, k1, nI q, d1, e1, x1)).2.2.2.2.2.2.1)))), (pA, .inl (cI, 2, .inl (tm_tw h0 ((tm_ts G q (R1, C1, A1, k1, nI q, d1, e1, x1)).2.2.2.2.1)))), (dA, .inl (cI, 2, .inl (tm_tw d0 ((tm_ts G q (R1, C1, A1, k1, nI q, d1, e1, x1)).2.2.2.2.2.1)))), (kA, .inl (cI, 2, .inl (tm_tw (nI k0) (nI (tm_ts G q (R1, C1, A1, k1, nI q, d1, e1, x1)).2.2.2.1)))), (acA, .inl (cI, 240, .inl (tm_jn 120 A0 ((tm_ts G q (R1, C1, A1, k1, nI q, d1, e1, x1)).2.2.1))))] := by rw [← ew1, ← ew2, ← ew3, ← ew4, ← ew5, ← ew6, ← ew7]; exact hD
      exact W.vret hx hb hr (fun t9 ht9 hW9 => ⟨⟨(), rfl, trivial, by rw [ht9]; exact hP, hD⟩, hS.F ht9⟩) hS.2.2 d_Mo_target_104
    · refine lv_iconst (v := 1) hx hb d_Mo_target_98 (by decide) ?_
      refine lv_goto (tgt := 103) hx hb d_Mo_target_99 rfl ?_
      refine xa_st hx hb hK hP hD hS 12 0 rfl rfl (kx := 1) (rfl) (by decide) (by decide) d_Mo_target_103 (fun H locs hP hD hS => ?_)
      have hP : va_P D cls [(m0, .inr (5, [.int th, .int (nI n), .ref oA, .ref aA, .ref bB, .ref cC, .int tl, .int (nI k), .ref gA, .ref zA, .ref bA, .ref sR, .ref sD, .ref rA, .ref eC, .ref eA, .ref pA, .ref dA, .ref kA, .ref acA, .int nx])), (oA, .inl (cI, 24, .inl Po)), (aA, .inl (cI, 24, .inl Pa)), (bB, .inl (cI, 24, .inl Pb)), (cC, .inl (cI, 24, .inl Pc)), (gA, .inl (cI, 1600, .inl G)), (zA, .inl (cZ, 400, .inl O)), (bA, .inl (cI, 25, .inl B)), (sR, .inl (cI, 8, .inl sr)), (sD, .inl (cI, 32, .inl sd)), (rA, .inl (cI, 16, .inl (tm_jn 8 R0 R1))), (eC, .inl (cI, 128, .inl (tm_jn 64 C0 C1))), (eA, .inl (cI, 2, .inl (upd (tm_tw e0 e1) 1 1))), (pA, .inl (cI, 2, .inl (tm_tw h0 (nI q)))), (dA, .inl (cI, 2, .inl (tm_tw d0 (d1 + 1)))), (kA, .inl (cI, 2, .inl (tm_tw (nI k0) (nI k1)))), (acA, .inl (cI, 240, .inl (tm_jn 120 A0 A1)))] H := hP
      have hD : va_D A [(m0, .inr (5, [.int th, .int (nI n), .ref oA, .ref aA, .ref bB, .ref cC, .int tl, .int (nI k), .ref gA, .ref zA, .ref bA, .ref sR, .ref sD, .ref rA, .ref eC, .ref eA, .ref pA, .ref dA, .ref kA, .ref acA, .int nx])), (oA, .inl (cI, 24, .inl Po)), (aA, .inl (cI, 24, .inl Pa)), (bB, .inl (cI, 24, .inl Pb)), (cC, .inl (cI, 24, .inl Pc)), (gA, .inl (cI, 1600, .inl G)), (zA, .inl (cZ, 400, .inl O)), (bA, .inl (cI, 25, .inl B)), (sR, .inl (cI, 8, .inl sr)), (sD, .inl (cI, 32, .inl sd)), (rA, .inl (cI, 16, .inl (tm_jn 8 R0 R1))), (eC, .inl (cI, 128, .inl (tm_jn 64 C0 C1))), (eA, .inl (cI, 2, .inl (upd (tm_tw e0 e1) 1 1))), (pA, .inl (cI, 2, .inl (tm_tw h0 (nI q)))), (dA, .inl (cI, 2, .inl (tm_tw d0 (d1 + 1)))), (kA, .inl (cI, 2, .inl (tm_tw (nI k0) (nI k1)))), (acA, .inl (cI, 240, .inl (tm_jn 120 A0 A1)))] := hD
      have hD := xa_D (e2 := .inl (cI, 2, .inl (tm_tw e0 1))) hD 12 rfl
      have hP := xa_P (g := tm_tw e0 1) hP 12 rfl (tm_tw_c)
      have hP : va_P D cls [(m0, .inr (5, [.int th, .int (nI n), .ref oA, .ref aA, .ref bB, .ref cC, .int tl, .int (nI k), .ref gA, .ref zA, .ref bA, .ref sR, .ref sD, .ref rA, .ref eC, .ref eA, .ref pA, .ref dA, .ref kA, .ref acA, .int nx])), (oA, .inl (cI, 24, .inl Po)), (aA, .inl (cI, 24, .inl Pa)), (bB, .inl (cI, 24, .inl Pb)), (cC, .inl (cI, 24, .inl Pc)), (gA, .inl (cI, 1600, .inl G)), (zA, .inl (cZ, 400, .inl O)), (bA, .inl (cI, 25, .inl B)), (sR, .inl (cI, 8, .inl sr)), (sD, .inl (cI, 32, .inl sd)), (rA, .inl (cI, 16, .inl (tm_jn 8 R0 R1))), (eC, .inl (cI, 128, .inl (tm_jn 64 C0 C1))), (eA, .inl (cI, 2, .inl (tm_tw e0 1))), (pA, .inl (cI, 2, .inl (tm_tw h0 (nI q)))), (dA, .inl (cI, 2, .inl (tm_tw d0 (d1 + 1)))), (kA, .inl (cI, 2, .inl (tm_tw (nI k0) (nI k1)))), (acA, .inl (cI, 240, .inl (tm_jn 120 A0 A1)))] H := hP
      have hD : va_D A [(m0, .inr (5, [.int th, .int (nI n), .ref oA, .ref aA, .ref bB, .ref cC, .int tl, .int (nI k), .ref gA, .ref zA, .ref bA, .ref sR, .ref sD, .ref rA, .ref eC, .ref eA, .ref pA, .ref dA, .ref kA, .ref acA, .int nx])), (oA, .inl (cI, 24, .inl Po)), (aA, .inl (cI, 24, .inl Pa)), (bB, .inl (cI, 24, .inl Pb)), (cC, .inl (cI, 24, .inl Pc)), (gA, .inl (cI, 1600, .inl G)), (zA, .inl (cZ, 400, .inl O)), (bA, .inl (cI, 25, .inl B)), (sR, .inl (cI, 8, .inl sr)), (sD, .inl (cI, 32, .inl sd)), (rA, .inl (cI, 16, .inl (tm_jn 8 R0 R1))), (eC, .inl (cI, 128, .inl (tm_jn 64 C0 C1))), (eA, .inl (cI, 2, .inl (tm_tw e0 1))), (pA, .inl (cI, 2, .inl (tm_tw h0 (nI q)))), (dA, .inl (cI, 2, .inl (tm_tw d0 (d1 + 1)))), (kA, .inl (cI, 2, .inl (tm_tw (nI k0) (nI k1)))), (acA, .inl (cI, 240, .inl (tm_jn 120 A0 A1)))] := hD
      have ew1_1 : R1 = ((tm_ts G q (R1, C1, A1, k1, nI q, d1, e1, x1)).1) := by first | rfl | (simp [tm_ts, hv, f13, ee0, ee5, ee6, ee7, ee8, ee9, ee10, ee11, ee12, ee13, f7, f9, f4, ht0]; done)
      have ew1 : tm_jn 8 R0 R1 = tm_jn 8 R0 ((tm_ts G q (R1, C1, A1, k1, nI q, d1, e1, x1)).1) := congr (congrArg (tm_jn 8) rfl) ew1_1
      have ew2_1 : C1 = ((tm_ts G q (R1, C1, A1, k1, nI q, d1, e1, x1)).2.1) := by first | rfl | (simp [tm_ts, hv, f13, ee0, ee5, ee6, ee7, ee8, ee9, ee10, ee11, ee12, ee13, f7, f9, f4, ht0]; done)
      have ew2 : tm_jn 64 C0 C1 = tm_jn 64 C0 ((tm_ts G q (R1, C1, A1, k1, nI q, d1, e1, x1)).2.1) := congr (congrArg (tm_jn 64) rfl) ew2_1
      have ew3_1 : 1 = ((tm_ts G q (R1, C1, A1, k1, nI q, d1, e1, x1)).2.2.2.2.2.2.1) := by first | rfl | (simp [tm_ts, hv, f13, ee0, ee5, ee6, ee7, ee8, ee9, ee10, ee11, ee12, ee13, f7, f9, f4, ht0]; done)
      have ew3 : tm_tw e0 1 = tm_tw e0 ((tm_ts G q (R1, C1, A1, k1, nI q, d1, e1, x1)).2.2.2.2.2.2.1) := congr (congrArg (tm_tw) rfl) ew3_1
      have ew4_1 : (nI q) = ((tm_ts G q (R1, C1, A1, k1, nI q, d1, e1, x1)).2.2.2.2.1) := by first | rfl | (simp [tm_ts, hv, f13, ee0, ee5, ee6, ee7, ee8, ee9, ee10, ee11, ee12, ee13, f7, f9, f4, ht0]; done)
      have ew4 : tm_tw h0 (nI q) = tm_tw h0 ((tm_ts G q (R1, C1, A1, k1, nI q, d1, e1, x1)).2.2.2.2.1) := congr (congrArg (tm_tw) rfl) ew4_1
      have ew5_1 : (d1 + 1) = ((tm_ts G q (R1, C1, A1, k1, nI q, d1, e1, x1)).2.2.2.2.2.1) := by first | rfl | (simp [tm_ts, hv, f13, ee0, ee5, ee6, ee7, ee8, ee9, ee10, ee11, ee12, ee13, f7, f9, f4, ht0]; done)
      have ew5 : tm_tw d0 (d1 + 1) = tm_tw d0 ((tm_ts G q (R1, C1, A1, k1, nI q, d1, e1, x1)).2.2.2.2.2.1) := congr (congrArg (tm_tw) rfl) ew5_1
      have ew6_1 : (nI k1) = (nI (tm_ts G q (R1, C1, A1, k1, nI q, d1, e1, x1)).2.2.2.1) := congrArg nI (by first | (simp [tm_ts, hv, f13, ee0, ee5, ee6, ee7, ee8, ee9, ee10, ee11, ee12, ee13, f7, f9, f4, ht0]; done) | (simp [tm_ts, hv, f13, ee0, ee5, ee6, ee7, ee8, ee9, ee10, ee11, ee12, ee13, f7, f9, f4, ht0]; omega) | omega)
      have ew6 : tm_tw (nI k0) (nI k1) = tm_tw (nI k0) (nI (tm_ts G q (R1, C1, A1, k1, nI q, d1, e1, x1)).2.2.2.1) := congr (congrArg (tm_tw) rfl) ew6_1
      have ew7_1 : A1 = ((tm_ts G q (R1, C1, A1, k1, nI q, d1, e1, x1)).2.2.1) := by first | rfl | (simp [tm_ts, hv, f13, ee0, ee5, ee6, ee7, ee8, ee9, ee10, ee11, ee12, ee13, f7, f9, f4, ht0]; done)
      have ew7 : tm_jn 120 A0 A1 = tm_jn 120 A0 ((tm_ts G q (R1, C1, A1, k1, nI q, d1, e1, x1)).2.2.1) := congr (congrArg (tm_jn 120) rfl) ew7_1
      have hP : va_P D cls [(m0, .inr (5, [.int th, .int (nI n), .ref oA, .ref aA, .ref bB, .ref cC, .int tl, .int (nI k), .ref gA, .ref zA, .ref bA, .ref sR, .ref sD, .ref rA, .ref eC, .ref eA, .ref pA, .ref dA, .ref kA, .ref acA, .int nx])), (oA, .inl (cI, 24, .inl Po)), (aA, .inl (cI, 24, .inl Pa)), (bB, .inl (cI, 24, .inl Pb)), (cC, .inl (cI, 24, .inl Pc)), (gA, .inl (cI, 1600, .inl G)), (zA, .inl (cZ, 400, .inl O)), (bA, .inl (cI, 25, .inl B)), (sR, .inl (cI, 8, .inl sr)), (sD, .inl (cI, 32, .inl sd)), (rA, .inl (cI, 16, .inl (tm_jn 8 R0 ((tm_ts G q (R1, C1, A1, k1, nI q, d1, e1, x1)).1)))), (eC, .inl (cI, 128, .inl (tm_jn 64 C0 ((tm_ts G q (R1, C1, A1, k1, nI q, d1, e1, x1)).2.1)))), (eA, .inl (cI, 2, .inl (tm_tw e0 ((tm_ts G q (R1, C1, A1, k1, nI q, d1, e1, x1)).2.2.2.2.2.2.1)))), (pA, .inl (cI, 2, .inl (tm_tw h0 ((tm_ts G q (R1, C1, A1, k1, nI q, d1, e1, x1)).2.2.2.2.1)))), (dA, .inl (cI, 2, .inl (tm_tw d0 ((tm_ts G q (R1, C1, A1, k1, nI q, d1, e1, x1)).2.2.2.2.2.1)))), (kA, .inl (cI, 2, .inl (tm_tw (nI k0) (nI (tm_ts G q (R1, C1, A1, k1, nI q, d1, e1, x1)).2.2.2.1)))), (acA, .inl (cI, 240, .inl (tm_jn 120 A0 ((tm_ts G q (R1, C1, A1, k1, nI q, d1, e1, x1)).2.2.1))))] H := by rw [← ew1, ← ew2, ← ew3, ← ew4, ← ew5, ← ew6, ← ew7]; exact hP
      have hD : va_D A [(m0, .inr (5, [.int th, .int (nI n), .ref oA, .ref aA, .ref bB, .ref cC, .int tl, .int (nI k), .ref gA, .ref zA, .ref bA, .ref sR, .ref sD, .ref rA, .ref eC, .ref eA, .ref pA, .ref dA, .ref kA, .ref acA, .int nx])), (oA, .inl (cI, 24, .inl Po)), (aA, .inl (cI, 24, .inl Pa)), (bB, .inl (cI, 24, .inl Pb)), (cC, .inl (cI, 24, .inl Pc)), (gA, .inl (cI, 1600, .inl G)), (zA, .inl (cZ, 400, .inl O)), (bA, .inl (cI, 25, .inl B)), (sR, .inl (cI, 8, .inl sr)), (sD, .inl (cI, 32, .inl sd)), (rA, .inl (cI, 16, .inl (tm_jn 8 R0 ((tm_ts G q (R1, C1, A1, k1, nI q, d1, e1, x1)).1)))), (eC, .inl (cI, 128, .inl (tm_jn 64 C0 ((tm_ts G q (R1, C1, A1, k1, nI q, d1, e1, x1)).2.1)))), (eA, .inl (cI, 2, .inl (tm_tw e0 ((tm_ts G q (R1, C1, A1, k1, nI q, d1, e1, x1)).2.2.2.2.2.2.1)))), (pA, .inl (cI, 2, .inl (tm_tw h0 ((tm_ts G q (R1, C1, A1, k1, nI q, d1, e1, x1)).2.2.2.2.1)))), (dA, .inl (cI, 2, .inl (tm_tw d0 ((tm_ts G q (R1, C1, A1, k1, nI q, d1, e1, x1)).2.2.2.2.2.1)))), (kA, .inl (cI, 2, .inl (tm_tw (nI k0) (nI (tm_ts G q (R1, C1, A1, k1, nI q, d1, e1, x1)).2.2.2.1)))), (acA, .inl (cI, 240, .inl (tm_jn 120 A0 ((tm_ts G q (R1, C1, A1, k1, nI q, d1, e1, x1)).2.2.1))))] := by rw [← ew1, ← ew2, ← ew3, ← ew4, ← ew5, ← ew6, ← ew7]; exact hD
      exact W.vret hx hb hr (fun t9 ht9 hW9 => ⟨⟨(), rfl, trivial, by rw [ht9]; exact hP, hD⟩, hS.F ht9⟩) hS.2.2 d_Mo_target_104
  · have f13 : ¬ 13 < nI v := nI_nlt (a := 13) (b := v) (by omega) (by decide)
    have ee0 : ¬ nI v = 0 := xn_ne (w := 0) (by omega) (by decide) (by omega)
    have ee5 : ¬ nI v = 5 := xn_ne (w := 5) (by omega) (by decide) (by omega)
    have ee6 : ¬ nI v = 6 := xn_ne (w := 6) (by omega) (by decide) (by omega)
    have ee7 : ¬ nI v = 7 := xn_ne (w := 7) (by omega) (by decide) (by omega)
    have ee8 : ¬ nI v = 8 := xn_ne (w := 8) (by omega) (by decide) (by omega)
    have ee9 : ¬ nI v = 9 := xn_ne (w := 9) (by omega) (by decide) (by omega)
    have ee10 : ¬ nI v = 10 := xn_ne (w := 10) (by omega) (by decide) (by omega)
    have ee11 : ¬ nI v = 11 := xn_ne (w := 11) (by omega) (by decide) (by omega)
    have ee12 : ¬ nI v = 12 := xn_ne (w := 12) (by omega) (by decide) (by omega)
    have ee13 : ¬ nI v = 13 := xn_ne (w := 13) (by omega) (by decide) (by omega)
    have f7 : nI v < 7 := nI_lt (a := v) (b := 7) (by omega) (by decide)
    have f9 : nI v < 9 := nI_lt (a := v) (b := 9) (by omega) (by decide)
    have f4 : ¬ 4 < nI v := nI_nlt (a := 4) (b := v) (by omega) (by decide)
    obtain ⟨hw, hw8⟩ := hwt (by omega) (by omega)
    have hc_w : (nI w).toNatClampNeg = w := nI_clamp (by omega)
    have hw7 : nI w &&& 7 = nI w := by rw [pk_andN (by omega) 3 (by decide)]; congr 1; exact Nat.mod_eq_of_lt hw8
    refine lv_aload_n hx hb d_Mo_target_0 rfl (lv_at hl 0 rfl) ?_
    refine va_get (D := D) (ci := 5) (v := .ref pA) (C := R_Mo) (T := F_Mo) (N := 21) hx hb hg f_Mo hown hK.1 hP 0 rfl rfl 16 (by decide) (hg _ q579) (fun _ h9 => h9) rfl d_Mo_target_1 ?_
    refine lv_iconst (v := 1) hx hb d_Mo_target_4 (by decide) ?_
    refine xa_ld hx hb hK hP 13 0 rfl rfl (kx := 1) (rfl) (by decide) (by decide) d_Mo_target_5 ?_
    have eq9 : ((tm_tw h0 (nI q)) 1 : Int32) = nI q := rfl
    refine W.eq (g2 := F0 m 6 ls [.int (nI q)]) (by rw [eq9]) ?_
    refine lv_istore_n hx hb d_Mo_target_6 rfl hl (by decide) rfl (fun ls hl => ?_)
    have hl : lv_has ls 9 [(1, .int (nI q)), (0, .ref m0)] := hl
    refine lv_aload_n hx hb d_Mo_target_7 rfl (lv_at hl 1 rfl) ?_
    refine va_get (D := D) (ci := 5) (v := .ref gA) (C := R_Mo) (T := F_Mo) (N := 21) hx hb hg f_Mo hown hK.1 hP 0 rfl rfl 8 (by decide) (hg _ q571) (fun _ h9 => h9) rfl d_Mo_target_8 ?_
    refine lv_iconst (v := 4) hx hb d_Mo_target_11 (by decide) ?_
    refine lv_iload_n hx hb d_Mo_target_12 rfl (lv_at hl 0 rfl) ?_
    refine lv_imul hx hb d_Mo_target_13 ?_
    have eq9 : (4 * (nI q) : Int32) = nI (4 * q) := pk_mul 4 q
    refine W.eq (g2 := F0 m 14 ls [.int (nI (4 * q)), .ref gA]) (by rw [eq9]) ?_
    refine xa_ld hx hb hK hP 5 0 rfl rfl (kx := 4 * q) (rfl) (by omega) (by decide) d_Mo_target_14 ?_
    have eq9 : (G (4 * q) : Int32) = nI v := hv
    refine W.eq (g2 := F0 m 15 ls [.int (nI v)]) (by rw [eq9]) ?_
    refine lv_istore_n hx hb d_Mo_target_15 rfl hl (by decide) rfl (fun ls hl => ?_)
    have hl : lv_has ls 9 [(2, .int (nI v)), (1, .int (nI q)), (0, .ref m0)] := hl
    refine lv_aload_n hx hb d_Mo_target_16 rfl (lv_at hl 2 rfl) ?_
    refine va_get (D := D) (ci := 5) (v := .ref gA) (C := R_Mo) (T := F_Mo) (N := 21) hx hb hg f_Mo hown hK.1 hP 0 rfl rfl 8 (by decide) (hg _ q571) (fun _ h9 => h9) rfl d_Mo_target_17 ?_
    refine lv_iconst (v := 4) hx hb d_Mo_target_20 (by decide) ?_
    refine lv_iload_n hx hb d_Mo_target_21 rfl (lv_at hl 1 rfl) ?_
    refine lv_imul hx hb d_Mo_target_22 ?_
    have eq9 : (4 * (nI q) : Int32) = nI (4 * q) := pk_mul 4 q
    refine W.eq (g2 := F0 m 23 ls [.int (nI (4 * q)), .ref gA]) (by rw [eq9]) ?_
    refine lv_iconst (v := 1) hx hb d_Mo_target_23 (by decide) ?_
    refine lv_iadd hx hb d_Mo_target_24 ?_
    have eq9 : ((nI (4 * q)) + 1 : Int32) = nI (4 * q + 1) := nI_add (4 * q) 1
    refine W.eq (g2 := F0 m 25 ls [.int (nI (4 * q + 1)), .ref gA]) (by rw [eq9]) ?_
    refine xa_ld hx hb hK hP 5 0 rfl rfl (kx := 4 * q + 1) (rfl) (by omega) (by decide) d_Mo_target_25 ?_
    have eq9 : (G (4 * q + 1) : Int32) = nI a := ha
    refine W.eq (g2 := F0 m 26 ls [.int (nI a)]) (by rw [eq9]) ?_
    refine lv_istore_n hx hb d_Mo_target_26 rfl hl (by decide) rfl (fun ls hl => ?_)
    have hl : lv_has ls 9 [(3, .int (nI a)), (2, .int (nI v)), (1, .int (nI q)), (0, .ref m0)] := hl
    refine lv_aload_n hx hb d_Mo_target_27 rfl (lv_at hl 3 rfl) ?_
    refine va_get (D := D) (ci := 5) (v := .ref gA) (C := R_Mo) (T := F_Mo) (N := 21) hx hb hg f_Mo hown hK.1 hP 0 rfl rfl 8 (by decide) (hg _ q571) (fun _ h9 => h9) rfl d_Mo_target_28 ?_
    refine lv_iconst (v := 4) hx hb d_Mo_target_31 (by decide) ?_
    refine lv_iload_n hx hb d_Mo_target_32 rfl (lv_at hl 2 rfl) ?_
    refine lv_imul hx hb d_Mo_target_33 ?_
    have eq9 : (4 * (nI q) : Int32) = nI (4 * q) := pk_mul 4 q
    refine W.eq (g2 := F0 m 34 ls [.int (nI (4 * q)), .ref gA]) (by rw [eq9]) ?_
    refine lv_iconst (v := 2) hx hb d_Mo_target_34 (by decide) ?_
    refine lv_iadd hx hb d_Mo_target_35 ?_
    have eq9 : ((nI (4 * q)) + 2 : Int32) = nI (4 * q + 2) := nI_add (4 * q) 2
    refine W.eq (g2 := F0 m 36 ls [.int (nI (4 * q + 2)), .ref gA]) (by rw [eq9]) ?_
    refine xa_ld hx hb hK hP 5 0 rfl rfl (kx := 4 * q + 2) (rfl) (by omega) (by decide) d_Mo_target_36 ?_
    have eq9 : (G (4 * q + 2) : Int32) = nI b := hbb
    refine W.eq (g2 := F0 m 37 ls [.int (nI b)]) (by rw [eq9]) ?_
    refine lv_istore hx hb d_Mo_target_37 hl (by decide) rfl (fun ls hl => ?_)
    have hl : lv_has ls 9 [(4, .int (nI b)), (3, .int (nI a)), (2, .int (nI v)), (1, .int (nI q)), (0, .ref m0)] := hl
    refine lv_aload_n hx hb d_Mo_target_39 rfl (lv_at hl 4 rfl) ?_
    refine va_get (D := D) (ci := 5) (v := .ref gA) (C := R_Mo) (T := F_Mo) (N := 21) hx hb hg f_Mo hown hK.1 hP 0 rfl rfl 8 (by decide) (hg _ q571) (fun _ h9 => h9) rfl d_Mo_target_40 ?_
    refine lv_iconst (v := 4) hx hb d_Mo_target_43 (by decide) ?_
    refine lv_iload_n hx hb d_Mo_target_44 rfl (lv_at hl 3 rfl) ?_
    refine lv_imul hx hb d_Mo_target_45 ?_
    have eq9 : (4 * (nI q) : Int32) = nI (4 * q) := pk_mul 4 q
    refine W.eq (g2 := F0 m 46 ls [.int (nI (4 * q)), .ref gA]) (by rw [eq9]) ?_
    refine lv_iconst (v := 3) hx hb d_Mo_target_46 (by decide) ?_
    refine lv_iadd hx hb d_Mo_target_47 ?_
    have eq9 : ((nI (4 * q)) + 3 : Int32) = nI (4 * q + 3) := nI_add (4 * q) 3
    refine W.eq (g2 := F0 m 48 ls [.int (nI (4 * q + 3)), .ref gA]) (by rw [eq9]) ?_
    refine xa_ld hx hb hK hP 5 0 rfl rfl (kx := 4 * q + 3) (rfl) (by omega) (by decide) d_Mo_target_48 ?_
    refine lv_istore hx hb d_Mo_target_49 hl (by decide) rfl (fun ls hl => ?_)
    have hl : lv_has ls 9 [(5, .int (G (4 * q + 3))), (4, .int (nI b)), (3, .int (nI a)), (2, .int (nI v)), (1, .int (nI q)), (0, .ref m0)] := hl
    refine lv_aload_n hx hb d_Mo_target_51 rfl (lv_at hl 5 rfl) ?_
    refine va_get (D := D) (ci := 5) (v := .ref rA) (C := R_Mo) (T := F_Mo) (N := 21) hx hb hg f_Mo hown hK.1 hP 0 rfl rfl 13 (by decide) (hg _ q576) (fun _ h9 => h9) rfl d_Mo_target_52 ?_
    refine lv_bipush (v := 8) hx hb d_Mo_target_55 (by decide) ?_
    refine lv_iload_n hx hb d_Mo_target_57 rfl (lv_at hl 2 rfl) ?_
    refine lv_iadd hx hb d_Mo_target_58 ?_
    have eq9 : (8 + (nI a) : Int32) = nI (8 + a) := nI_add 8 a
    refine W.eq (g2 := F0 m 59 ls [.int (nI (8 + a)), .ref rA]) (by rw [eq9]) ?_
    refine xa_ld hx hb hK hP 10 0 rfl rfl (kx := 8 + a) (rfl) (by omega) (by decide) d_Mo_target_59 ?_
    have eq9 : ((tm_jn 8 R0 R1) (8 + a) : Int32) = R1 a := (congrArg (tm_jn 8 R0 R1) (show 8 + a = 8 + a by omega)).trans tm_jn_hi
    refine W.eq (g2 := F0 m 60 ls [.int (R1 a)]) (by rw [eq9]) ?_
    refine lv_istore hx hb d_Mo_target_60 hl (by decide) rfl (fun ls hl => ?_)
    have hl : lv_has ls 9 [(6, .int (R1 a)), (5, .int (G (4 * q + 3))), (4, .int (nI b)), (3, .int (nI a)), (2, .int (nI v)), (1, .int (nI q)), (0, .ref m0)] := hl
    refine lv_aload_n hx hb d_Mo_target_62 rfl (lv_at hl 6 rfl) ?_
    refine va_get (D := D) (ci := 5) (v := .ref rA) (C := R_Mo) (T := F_Mo) (N := 21) hx hb hg f_Mo hown hK.1 hP 0 rfl rfl 13 (by decide) (hg _ q576) (fun _ h9 => h9) rfl d_Mo_target_63 ?_
    refine lv_bipush (v := 8) hx hb d_Mo_target_66 (by decide) ?_
    refine lv_iload hx hb d_Mo_target_68 (lv_at hl 2 rfl) ?_
    refine lv_iadd hx hb d_Mo_target_70 ?_
    have eq9 : (8 + (nI b) : Int32) = nI (8 + b) := nI_add 8 b
    refine W.eq (g2 := F0 m 71 ls [.int (nI (8 + b)), .ref rA]) (by rw [eq9]) ?_
    refine xa_ld hx hb hK hP 10 0 rfl rfl (kx := 8 + b) (rfl) (by omega) (by decide) d_Mo_target_71 ?_
    have eq9 : ((tm_jn 8 R0 R1) (8 + b) : Int32) = R1 b := (congrArg (tm_jn 8 R0 R1) (show 8 + b = 8 + b by omega)).trans tm_jn_hi
    refine W.eq (g2 := F0 m 72 ls [.int (R1 b)]) (by rw [eq9]) ?_
    refine lv_istore hx hb d_Mo_target_72 hl (by decide) rfl (fun ls hl => ?_)
    have hl : lv_has ls 9 [(7, .int (R1 b)), (6, .int (R1 a)), (5, .int (G (4 * q + 3))), (4, .int (nI b)), (3, .int (nI a)), (2, .int (nI v)), (1, .int (nI q)), (0, .ref m0)] := hl
    refine lv_aload_n hx hb d_Mo_target_74 rfl (lv_at hl 7 rfl) ?_
    refine va_get (D := D) (ci := 5) (v := .ref dA) (C := R_Mo) (T := F_Mo) (N := 21) hx hb hg f_Mo hown hK.1 hP 0 rfl rfl 17 (by decide) (hg _ q580) (fun _ h9 => h9) rfl d_Mo_target_75 ?_
    refine lv_iconst (v := 1) hx hb d_Mo_target_78 (by decide) ?_
    refine lv_dup2_11 hx hb d_Mo_target_79 rfl rfl ?_
    refine xa_ld hx hb hK hP 14 0 rfl rfl (kx := 1) (rfl) (by decide) (by decide) d_Mo_target_80 ?_
    have eq9 : ((tm_tw d0 d1) 1 : Int32) = d1 := rfl
    refine W.eq (g2 := F0 m 81 ls [.int d1, .int 1, .ref dA]) (by rw [eq9]) ?_
    refine lv_iconst (v := 1) hx hb d_Mo_target_81 (by decide) ?_
    refine lv_iadd hx hb d_Mo_target_82 ?_
    refine xa_st hx hb hK hP hD hS 14 0 rfl rfl (kx := 1) (rfl) (by decide) (by decide) d_Mo_target_83 (fun H locs hP hD hS => ?_)
    have hP : va_P D cls [(m0, .inr (5, [.int th, .int (nI n), .ref oA, .ref aA, .ref bB, .ref cC, .int tl, .int (nI k), .ref gA, .ref zA, .ref bA, .ref sR, .ref sD, .ref rA, .ref eC, .ref eA, .ref pA, .ref dA, .ref kA, .ref acA, .int nx])), (oA, .inl (cI, 24, .inl Po)), (aA, .inl (cI, 24, .inl Pa)), (bB, .inl (cI, 24, .inl Pb)), (cC, .inl (cI, 24, .inl Pc)), (gA, .inl (cI, 1600, .inl G)), (zA, .inl (cZ, 400, .inl O)), (bA, .inl (cI, 25, .inl B)), (sR, .inl (cI, 8, .inl sr)), (sD, .inl (cI, 32, .inl sd)), (rA, .inl (cI, 16, .inl (tm_jn 8 R0 R1))), (eC, .inl (cI, 128, .inl (tm_jn 64 C0 C1))), (eA, .inl (cI, 2, .inl (tm_tw e0 e1))), (pA, .inl (cI, 2, .inl (tm_tw h0 (nI q)))), (dA, .inl (cI, 2, .inl (upd (tm_tw d0 d1) 1 (d1 + 1)))), (kA, .inl (cI, 2, .inl (tm_tw (nI k0) (nI k1)))), (acA, .inl (cI, 240, .inl (tm_jn 120 A0 A1)))] H := hP
    have hD : va_D A [(m0, .inr (5, [.int th, .int (nI n), .ref oA, .ref aA, .ref bB, .ref cC, .int tl, .int (nI k), .ref gA, .ref zA, .ref bA, .ref sR, .ref sD, .ref rA, .ref eC, .ref eA, .ref pA, .ref dA, .ref kA, .ref acA, .int nx])), (oA, .inl (cI, 24, .inl Po)), (aA, .inl (cI, 24, .inl Pa)), (bB, .inl (cI, 24, .inl Pb)), (cC, .inl (cI, 24, .inl Pc)), (gA, .inl (cI, 1600, .inl G)), (zA, .inl (cZ, 400, .inl O)), (bA, .inl (cI, 25, .inl B)), (sR, .inl (cI, 8, .inl sr)), (sD, .inl (cI, 32, .inl sd)), (rA, .inl (cI, 16, .inl (tm_jn 8 R0 R1))), (eC, .inl (cI, 128, .inl (tm_jn 64 C0 C1))), (eA, .inl (cI, 2, .inl (tm_tw e0 e1))), (pA, .inl (cI, 2, .inl (tm_tw h0 (nI q)))), (dA, .inl (cI, 2, .inl (upd (tm_tw d0 d1) 1 (d1 + 1)))), (kA, .inl (cI, 2, .inl (tm_tw (nI k0) (nI k1)))), (acA, .inl (cI, 240, .inl (tm_jn 120 A0 A1)))] := hD
    have hD := xa_D (e2 := .inl (cI, 2, .inl (tm_tw d0 (d1 + 1)))) hD 14 rfl
    have hP := xa_P (g := tm_tw d0 (d1 + 1)) hP 14 rfl (tm_tw_c)
    have hP : va_P D cls [(m0, .inr (5, [.int th, .int (nI n), .ref oA, .ref aA, .ref bB, .ref cC, .int tl, .int (nI k), .ref gA, .ref zA, .ref bA, .ref sR, .ref sD, .ref rA, .ref eC, .ref eA, .ref pA, .ref dA, .ref kA, .ref acA, .int nx])), (oA, .inl (cI, 24, .inl Po)), (aA, .inl (cI, 24, .inl Pa)), (bB, .inl (cI, 24, .inl Pb)), (cC, .inl (cI, 24, .inl Pc)), (gA, .inl (cI, 1600, .inl G)), (zA, .inl (cZ, 400, .inl O)), (bA, .inl (cI, 25, .inl B)), (sR, .inl (cI, 8, .inl sr)), (sD, .inl (cI, 32, .inl sd)), (rA, .inl (cI, 16, .inl (tm_jn 8 R0 R1))), (eC, .inl (cI, 128, .inl (tm_jn 64 C0 C1))), (eA, .inl (cI, 2, .inl (tm_tw e0 e1))), (pA, .inl (cI, 2, .inl (tm_tw h0 (nI q)))), (dA, .inl (cI, 2, .inl (tm_tw d0 (d1 + 1)))), (kA, .inl (cI, 2, .inl (tm_tw (nI k0) (nI k1)))), (acA, .inl (cI, 240, .inl (tm_jn 120 A0 A1)))] H := hP
    have hD : va_D A [(m0, .inr (5, [.int th, .int (nI n), .ref oA, .ref aA, .ref bB, .ref cC, .int tl, .int (nI k), .ref gA, .ref zA, .ref bA, .ref sR, .ref sD, .ref rA, .ref eC, .ref eA, .ref pA, .ref dA, .ref kA, .ref acA, .int nx])), (oA, .inl (cI, 24, .inl Po)), (aA, .inl (cI, 24, .inl Pa)), (bB, .inl (cI, 24, .inl Pb)), (cC, .inl (cI, 24, .inl Pc)), (gA, .inl (cI, 1600, .inl G)), (zA, .inl (cZ, 400, .inl O)), (bA, .inl (cI, 25, .inl B)), (sR, .inl (cI, 8, .inl sr)), (sD, .inl (cI, 32, .inl sd)), (rA, .inl (cI, 16, .inl (tm_jn 8 R0 R1))), (eC, .inl (cI, 128, .inl (tm_jn 64 C0 C1))), (eA, .inl (cI, 2, .inl (tm_tw e0 e1))), (pA, .inl (cI, 2, .inl (tm_tw h0 (nI q)))), (dA, .inl (cI, 2, .inl (tm_tw d0 (d1 + 1)))), (kA, .inl (cI, 2, .inl (tm_tw (nI k0) (nI k1)))), (acA, .inl (cI, 240, .inl (tm_jn 120 A0 A1)))] := hD
    refine lv_iload_n hx hb d_Mo_target_84 rfl (lv_at hl 5 rfl) ?_
    refine lv_if_ne (tgt := 105) hx hb d_Mo_target_85 rfl (fun _ => ?_) (fun hz9 => absurd hz9 (ee0))
    refine lv_iload_n hx hb d_Mo_target_105 rfl (lv_at hl 5 rfl) ?_
    refine lv_bipush (v := 9) hx hb d_Mo_target_106 (by decide) ?_
    refine lv_icmp_ne (tgt := 118) hx hb d_Mo_target_108 rfl (fun _ => ?_) (fun hz9 => absurd hz9 (ee9))
    refine lv_iload_n hx hb d_Mo_target_118 rfl (lv_at hl 5 rfl) ?_
    refine lv_bipush (v := 10) hx hb d_Mo_target_119 (by decide) ?_
    refine lv_icmp_ne (tgt := 131) hx hb d_Mo_target_121 rfl (fun _ => ?_) (fun hz9 => absurd hz9 (ee10))
    refine lv_iload_n hx hb d_Mo_target_131 rfl (lv_at hl 5 rfl) ?_
    refine lv_bipush (v := 11) hx hb d_Mo_target_132 (by decide) ?_
    refine lv_icmp_eq (tgt := 156) hx hb d_Mo_target_134 rfl (fun hz9 => absurd hz9 (ee11)) (fun _ => ?_)
    refine lv_iload_n hx hb d_Mo_target_137 rfl (lv_at hl 5 rfl) ?_
    refine lv_bipush (v := 12) hx hb d_Mo_target_138 (by decide) ?_
    refine lv_icmp_ne (tgt := 160) hx hb d_Mo_target_140 rfl (fun _ => ?_) (fun hz9 => absurd hz9 (ee12))
    refine lv_iconst (v := 0) hx hb d_Mo_target_160 (by decide) ?_
    refine lv_istore hx hb d_Mo_target_161 hl (by decide) rfl (fun ls hl => ?_)
    have hl : lv_has ls 9 [(8, .int 0), (7, .int (R1 b)), (6, .int (R1 a)), (5, .int (G (4 * q + 3))), (4, .int (nI b)), (3, .int (nI a)), (2, .int (nI v)), (1, .int (nI q)), (0, .ref m0)] := hl
    refine lv_aload_n hx hb d_Mo_target_163 rfl (lv_at hl 8 rfl) ?_
    refine va_get (D := D) (ci := 5) (v := .ref pA) (C := R_Mo) (T := F_Mo) (N := 21) hx hb hg f_Mo hown hK.1 hP 0 rfl rfl 16 (by decide) (hg _ q579) (fun _ h9 => h9) rfl d_Mo_target_164 ?_
    refine lv_iconst (v := 1) hx hb d_Mo_target_167 (by decide) ?_
    refine lv_iload hx hb d_Mo_target_168 (lv_at hl 0 rfl) ?_
    refine lv_if_eq (tgt := 178) hx hb d_Mo_target_170 rfl (fun _ => ?_) (fun hz9 => absurd (by decide) hz9)
    refine lv_iload_n hx hb d_Mo_target_178 rfl (lv_at hl 6 rfl) ?_
    refine lv_bipush (v := 13) hx hb d_Mo_target_179 (by decide) ?_
    refine lv_icmp_ne (tgt := 189) hx hb d_Mo_target_181 rfl (fun _ => ?_) (fun hz9 => absurd hz9 (ee13))
    refine lv_iload_n hx hb d_Mo_target_189 rfl (lv_at hl 7 rfl) ?_
    refine lv_iconst (v := 1) hx hb d_Mo_target_190 (by decide) ?_
    refine lv_iadd hx hb d_Mo_target_191 ?_
    have eq9 : ((nI q) + 1 : Int32) = nI (q + 1) := nI_add q 1
    refine W.eq (g2 := F0 m 192 ls [.int (nI (q + 1)), .int 1, .ref pA]) (by rw [eq9]) ?_
    refine xa_st hx hb hK hP hD hS 13 0 rfl rfl (kx := 1) (rfl) (by decide) (by decide) d_Mo_target_192 (fun H locs hP hD hS => ?_)
    have hP : va_P D cls [(m0, .inr (5, [.int th, .int (nI n), .ref oA, .ref aA, .ref bB, .ref cC, .int tl, .int (nI k), .ref gA, .ref zA, .ref bA, .ref sR, .ref sD, .ref rA, .ref eC, .ref eA, .ref pA, .ref dA, .ref kA, .ref acA, .int nx])), (oA, .inl (cI, 24, .inl Po)), (aA, .inl (cI, 24, .inl Pa)), (bB, .inl (cI, 24, .inl Pb)), (cC, .inl (cI, 24, .inl Pc)), (gA, .inl (cI, 1600, .inl G)), (zA, .inl (cZ, 400, .inl O)), (bA, .inl (cI, 25, .inl B)), (sR, .inl (cI, 8, .inl sr)), (sD, .inl (cI, 32, .inl sd)), (rA, .inl (cI, 16, .inl (tm_jn 8 R0 R1))), (eC, .inl (cI, 128, .inl (tm_jn 64 C0 C1))), (eA, .inl (cI, 2, .inl (tm_tw e0 e1))), (pA, .inl (cI, 2, .inl (upd (tm_tw h0 (nI q)) 1 (nI (q + 1))))), (dA, .inl (cI, 2, .inl (tm_tw d0 (d1 + 1)))), (kA, .inl (cI, 2, .inl (tm_tw (nI k0) (nI k1)))), (acA, .inl (cI, 240, .inl (tm_jn 120 A0 A1)))] H := hP
    have hD : va_D A [(m0, .inr (5, [.int th, .int (nI n), .ref oA, .ref aA, .ref bB, .ref cC, .int tl, .int (nI k), .ref gA, .ref zA, .ref bA, .ref sR, .ref sD, .ref rA, .ref eC, .ref eA, .ref pA, .ref dA, .ref kA, .ref acA, .int nx])), (oA, .inl (cI, 24, .inl Po)), (aA, .inl (cI, 24, .inl Pa)), (bB, .inl (cI, 24, .inl Pb)), (cC, .inl (cI, 24, .inl Pc)), (gA, .inl (cI, 1600, .inl G)), (zA, .inl (cZ, 400, .inl O)), (bA, .inl (cI, 25, .inl B)), (sR, .inl (cI, 8, .inl sr)), (sD, .inl (cI, 32, .inl sd)), (rA, .inl (cI, 16, .inl (tm_jn 8 R0 R1))), (eC, .inl (cI, 128, .inl (tm_jn 64 C0 C1))), (eA, .inl (cI, 2, .inl (tm_tw e0 e1))), (pA, .inl (cI, 2, .inl (upd (tm_tw h0 (nI q)) 1 (nI (q + 1))))), (dA, .inl (cI, 2, .inl (tm_tw d0 (d1 + 1)))), (kA, .inl (cI, 2, .inl (tm_tw (nI k0) (nI k1)))), (acA, .inl (cI, 240, .inl (tm_jn 120 A0 A1)))] := hD
    have hD := xa_D (e2 := .inl (cI, 2, .inl (tm_tw h0 (nI (q + 1))))) hD 13 rfl
    have hP := xa_P (g := tm_tw h0 (nI (q + 1))) hP 13 rfl (tm_tw_c)
    have hP : va_P D cls [(m0, .inr (5, [.int th, .int (nI n), .ref oA, .ref aA, .ref bB, .ref cC, .int tl, .int (nI k), .ref gA, .ref zA, .ref bA, .ref sR, .ref sD, .ref rA, .ref eC, .ref eA, .ref pA, .ref dA, .ref kA, .ref acA, .int nx])), (oA, .inl (cI, 24, .inl Po)), (aA, .inl (cI, 24, .inl Pa)), (bB, .inl (cI, 24, .inl Pb)), (cC, .inl (cI, 24, .inl Pc)), (gA, .inl (cI, 1600, .inl G)), (zA, .inl (cZ, 400, .inl O)), (bA, .inl (cI, 25, .inl B)), (sR, .inl (cI, 8, .inl sr)), (sD, .inl (cI, 32, .inl sd)), (rA, .inl (cI, 16, .inl (tm_jn 8 R0 R1))), (eC, .inl (cI, 128, .inl (tm_jn 64 C0 C1))), (eA, .inl (cI, 2, .inl (tm_tw e0 e1))), (pA, .inl (cI, 2, .inl (tm_tw h0 (nI (q + 1))))), (dA, .inl (cI, 2, .inl (tm_tw d0 (d1 + 1)))), (kA, .inl (cI, 2, .inl (tm_tw (nI k0) (nI k1)))), (acA, .inl (cI, 240, .inl (tm_jn 120 A0 A1)))] H := hP
    have hD : va_D A [(m0, .inr (5, [.int th, .int (nI n), .ref oA, .ref aA, .ref bB, .ref cC, .int tl, .int (nI k), .ref gA, .ref zA, .ref bA, .ref sR, .ref sD, .ref rA, .ref eC, .ref eA, .ref pA, .ref dA, .ref kA, .ref acA, .int nx])), (oA, .inl (cI, 24, .inl Po)), (aA, .inl (cI, 24, .inl Pa)), (bB, .inl (cI, 24, .inl Pb)), (cC, .inl (cI, 24, .inl Pc)), (gA, .inl (cI, 1600, .inl G)), (zA, .inl (cZ, 400, .inl O)), (bA, .inl (cI, 25, .inl B)), (sR, .inl (cI, 8, .inl sr)), (sD, .inl (cI, 32, .inl sd)), (rA, .inl (cI, 16, .inl (tm_jn 8 R0 R1))), (eC, .inl (cI, 128, .inl (tm_jn 64 C0 C1))), (eA, .inl (cI, 2, .inl (tm_tw e0 e1))), (pA, .inl (cI, 2, .inl (tm_tw h0 (nI (q + 1))))), (dA, .inl (cI, 2, .inl (tm_tw d0 (d1 + 1)))), (kA, .inl (cI, 2, .inl (tm_tw (nI k0) (nI k1)))), (acA, .inl (cI, 240, .inl (tm_jn 120 A0 A1)))] := hD
    refine lv_iload_n hx hb d_Mo_target_193 rfl (lv_at hl 6 rfl) ?_
    refine lv_iconst (v := 5) hx hb d_Mo_target_194 (by decide) ?_
    refine lv_icmp_ge (tgt := 226) hx hb d_Mo_target_195 rfl (fun hz9 => absurd hz9 (nI_ge (a := v) (b := 5) (by omega) (by decide))) (fun _ => ?_)
    refine lv_aload_n hx hb d_Mo_target_198 rfl (lv_at hl 8 rfl) ?_
    refine va_get (D := D) (ci := 5) (v := .ref rA) (C := R_Mo) (T := F_Mo) (N := 21) hx hb hg f_Mo hown hK.1 hP 0 rfl rfl 13 (by decide) (hg _ q576) (fun _ h9 => h9) rfl d_Mo_target_199 ?_
    refine lv_bipush (v := 8) hx hb d_Mo_target_202 (by decide) ?_
    refine lv_iload_n hx hb d_Mo_target_204 rfl (lv_at hl 5 rfl) ?_
    refine lv_iadd hx hb d_Mo_target_205 ?_
    have eq9 : (8 + (nI a) : Int32) = nI (8 + a) := nI_add 8 a
    refine W.eq (g2 := F0 m 206 ls [.int (nI (8 + a)), .ref rA]) (by rw [eq9]) ?_
    refine lv_iload_n hx hb d_Mo_target_206 rfl (lv_at hl 6 rfl) ?_
    refine lv_iload hx hb d_Mo_target_207 (lv_at hl 1 rfl) ?_
    refine lv_aload_n hx hb d_Mo_target_209 rfl (lv_at hl 8 rfl) ?_
    refine va_get (D := D) (ci := 5) (v := .ref rA) (C := R_Mo) (T := F_Mo) (N := 21) hx hb hg f_Mo hown hK.1 hP 0 rfl rfl 13 (by decide) (hg _ q576) (fun _ h9 => h9) rfl d_Mo_target_210 ?_
    refine lv_bipush (v := 8) hx hb d_Mo_target_213 (by decide) ?_
    refine lv_iload hx hb d_Mo_target_215 (lv_at hl 3 rfl) ?_
    have eq9 : (G (4 * q + 3) : Int32) = nI w := hw
    refine W.eq (g2 := F0 m 217 ls [.int (nI w), .int 8, .ref rA, .int (R1 b), .int (nI v), .int (nI (8 + a)), .ref rA]) (by rw [eq9]) ?_
    refine lv_iadd hx hb d_Mo_target_217 ?_
    have eq9 : (8 + (nI w) : Int32) = nI (8 + w) := nI_add 8 w
    refine W.eq (g2 := F0 m 218 ls [.int (nI (8 + w)), .ref rA, .int (R1 b), .int (nI v), .int (nI (8 + a)), .ref rA]) (by rw [eq9]) ?_
    refine xa_ld hx hb hK hP 10 0 rfl rfl (kx := 8 + w) (rfl) (by omega) (by decide) d_Mo_target_218 ?_
    have eq9 : ((tm_jn 8 R0 R1) (8 + w) : Int32) = R1 w := (congrArg (tm_jn 8 R0 R1) (show 8 + w = 8 + w by omega)).trans tm_jn_hi
    refine W.eq (g2 := F0 m 219 ls [.int (R1 w), .int (R1 b), .int (nI v), .int (nI (8 + a)), .ref rA]) (by rw [eq9]) ?_
    refine xr_S (As := [.int (nI v), .int (R1 b), .int (R1 w)]) (rest := [.int (nI (8 + a)), .ref rA]) ⟨hx, hb, hml, hown, hg⟩ (c_Mo_made l D cI cZ cJ (nI v) (R1 b) (R1 w)) m_Mo_made q728 ⟨rfl, rfl⟩ ⟨Nat.le_of_ble_eq_true rfl, Nat.le_of_ble_eq_true rfl⟩ hK hP [] rfl rfl hl.1 rfl (Nat.le_of_ble_eq_true rfl) d_Mo_target_219 ⟨Nat.zero_le _, Nat.zero_le _⟩ ?_
    refine xa_st hx hb hK hP hD hS 10 0 rfl rfl (kx := 8 + a) (rfl) (by omega) (by decide) d_Mo_target_222 (fun H locs hP hD hS => ?_)
    have hP : va_P D cls [(m0, .inr (5, [.int th, .int (nI n), .ref oA, .ref aA, .ref bB, .ref cC, .int tl, .int (nI k), .ref gA, .ref zA, .ref bA, .ref sR, .ref sD, .ref rA, .ref eC, .ref eA, .ref pA, .ref dA, .ref kA, .ref acA, .int nx])), (oA, .inl (cI, 24, .inl Po)), (aA, .inl (cI, 24, .inl Pa)), (bB, .inl (cI, 24, .inl Pb)), (cC, .inl (cI, 24, .inl Pc)), (gA, .inl (cI, 1600, .inl G)), (zA, .inl (cZ, 400, .inl O)), (bA, .inl (cI, 25, .inl B)), (sR, .inl (cI, 8, .inl sr)), (sD, .inl (cI, 32, .inl sd)), (rA, .inl (cI, 16, .inl (upd (tm_jn 8 R0 R1) (8 + a) (tm_mk (nI v) (R1 b) (R1 w))))), (eC, .inl (cI, 128, .inl (tm_jn 64 C0 C1))), (eA, .inl (cI, 2, .inl (tm_tw e0 e1))), (pA, .inl (cI, 2, .inl (tm_tw h0 (nI (q + 1))))), (dA, .inl (cI, 2, .inl (tm_tw d0 (d1 + 1)))), (kA, .inl (cI, 2, .inl (tm_tw (nI k0) (nI k1)))), (acA, .inl (cI, 240, .inl (tm_jn 120 A0 A1)))] H := hP
    have hD : va_D A [(m0, .inr (5, [.int th, .int (nI n), .ref oA, .ref aA, .ref bB, .ref cC, .int tl, .int (nI k), .ref gA, .ref zA, .ref bA, .ref sR, .ref sD, .ref rA, .ref eC, .ref eA, .ref pA, .ref dA, .ref kA, .ref acA, .int nx])), (oA, .inl (cI, 24, .inl Po)), (aA, .inl (cI, 24, .inl Pa)), (bB, .inl (cI, 24, .inl Pb)), (cC, .inl (cI, 24, .inl Pc)), (gA, .inl (cI, 1600, .inl G)), (zA, .inl (cZ, 400, .inl O)), (bA, .inl (cI, 25, .inl B)), (sR, .inl (cI, 8, .inl sr)), (sD, .inl (cI, 32, .inl sd)), (rA, .inl (cI, 16, .inl (upd (tm_jn 8 R0 R1) (8 + a) (tm_mk (nI v) (R1 b) (R1 w))))), (eC, .inl (cI, 128, .inl (tm_jn 64 C0 C1))), (eA, .inl (cI, 2, .inl (tm_tw e0 e1))), (pA, .inl (cI, 2, .inl (tm_tw h0 (nI (q + 1))))), (dA, .inl (cI, 2, .inl (tm_tw d0 (d1 + 1)))), (kA, .inl (cI, 2, .inl (tm_tw (nI k0) (nI k1)))), (acA, .inl (cI, 240, .inl (tm_jn 120 A0 A1)))] := hD
    rw [show (8 + a) = 8 + a by omega, tm_jn_uh] at hP hD
    have hP : va_P D cls [(m0, .inr (5, [.int th, .int (nI n), .ref oA, .ref aA, .ref bB, .ref cC, .int tl, .int (nI k), .ref gA, .ref zA, .ref bA, .ref sR, .ref sD, .ref rA, .ref eC, .ref eA, .ref pA, .ref dA, .ref kA, .ref acA, .int nx])), (oA, .inl (cI, 24, .inl Po)), (aA, .inl (cI, 24, .inl Pa)), (bB, .inl (cI, 24, .inl Pb)), (cC, .inl (cI, 24, .inl Pc)), (gA, .inl (cI, 1600, .inl G)), (zA, .inl (cZ, 400, .inl O)), (bA, .inl (cI, 25, .inl B)), (sR, .inl (cI, 8, .inl sr)), (sD, .inl (cI, 32, .inl sd)), (rA, .inl (cI, 16, .inl (tm_jn 8 R0 (upd R1 a (tm_mk (nI v) (R1 b) (R1 w)))))), (eC, .inl (cI, 128, .inl (tm_jn 64 C0 C1))), (eA, .inl (cI, 2, .inl (tm_tw e0 e1))), (pA, .inl (cI, 2, .inl (tm_tw h0 (nI (q + 1))))), (dA, .inl (cI, 2, .inl (tm_tw d0 (d1 + 1)))), (kA, .inl (cI, 2, .inl (tm_tw (nI k0) (nI k1)))), (acA, .inl (cI, 240, .inl (tm_jn 120 A0 A1)))] H := hP
    have hD : va_D A [(m0, .inr (5, [.int th, .int (nI n), .ref oA, .ref aA, .ref bB, .ref cC, .int tl, .int (nI k), .ref gA, .ref zA, .ref bA, .ref sR, .ref sD, .ref rA, .ref eC, .ref eA, .ref pA, .ref dA, .ref kA, .ref acA, .int nx])), (oA, .inl (cI, 24, .inl Po)), (aA, .inl (cI, 24, .inl Pa)), (bB, .inl (cI, 24, .inl Pb)), (cC, .inl (cI, 24, .inl Pc)), (gA, .inl (cI, 1600, .inl G)), (zA, .inl (cZ, 400, .inl O)), (bA, .inl (cI, 25, .inl B)), (sR, .inl (cI, 8, .inl sr)), (sD, .inl (cI, 32, .inl sd)), (rA, .inl (cI, 16, .inl (tm_jn 8 R0 (upd R1 a (tm_mk (nI v) (R1 b) (R1 w)))))), (eC, .inl (cI, 128, .inl (tm_jn 64 C0 C1))), (eA, .inl (cI, 2, .inl (tm_tw e0 e1))), (pA, .inl (cI, 2, .inl (tm_tw h0 (nI (q + 1))))), (dA, .inl (cI, 2, .inl (tm_tw d0 (d1 + 1)))), (kA, .inl (cI, 2, .inl (tm_tw (nI k0) (nI k1)))), (acA, .inl (cI, 240, .inl (tm_jn 120 A0 A1)))] := hD
    refine lv_goto (tgt := 315) hx hb d_Mo_target_223 rfl ?_
    refine lv_aload_n hx hb d_Mo_target_315 rfl (lv_at hl 8 rfl) ?_
    refine va_get (D := D) (ci := 5) (v := .ref rA) (C := R_Mo) (T := F_Mo) (N := 21) hx hb hg f_Mo hown hK.1 hP 0 rfl rfl 13 (by decide) (hg _ q576) (fun _ h9 => h9) rfl d_Mo_target_316 ?_
    refine lv_bipush (v := 8) hx hb d_Mo_target_319 (by decide) ?_
    refine lv_iconst (v := 0) hx hb d_Mo_target_321 (by decide) ?_
    refine xa_st hx hb hK hP hD hS 10 0 rfl rfl (kx := 8) (rfl) (by decide) (by decide) d_Mo_target_322 (fun H locs hP hD hS => ?_)
    have hP : va_P D cls [(m0, .inr (5, [.int th, .int (nI n), .ref oA, .ref aA, .ref bB, .ref cC, .int tl, .int (nI k), .ref gA, .ref zA, .ref bA, .ref sR, .ref sD, .ref rA, .ref eC, .ref eA, .ref pA, .ref dA, .ref kA, .ref acA, .int nx])), (oA, .inl (cI, 24, .inl Po)), (aA, .inl (cI, 24, .inl Pa)), (bB, .inl (cI, 24, .inl Pb)), (cC, .inl (cI, 24, .inl Pc)), (gA, .inl (cI, 1600, .inl G)), (zA, .inl (cZ, 400, .inl O)), (bA, .inl (cI, 25, .inl B)), (sR, .inl (cI, 8, .inl sr)), (sD, .inl (cI, 32, .inl sd)), (rA, .inl (cI, 16, .inl (upd (tm_jn 8 R0 (upd R1 a (tm_mk (nI v) (R1 b) (R1 w)))) 8 0))), (eC, .inl (cI, 128, .inl (tm_jn 64 C0 C1))), (eA, .inl (cI, 2, .inl (tm_tw e0 e1))), (pA, .inl (cI, 2, .inl (tm_tw h0 (nI (q + 1))))), (dA, .inl (cI, 2, .inl (tm_tw d0 (d1 + 1)))), (kA, .inl (cI, 2, .inl (tm_tw (nI k0) (nI k1)))), (acA, .inl (cI, 240, .inl (tm_jn 120 A0 A1)))] H := hP
    have hD : va_D A [(m0, .inr (5, [.int th, .int (nI n), .ref oA, .ref aA, .ref bB, .ref cC, .int tl, .int (nI k), .ref gA, .ref zA, .ref bA, .ref sR, .ref sD, .ref rA, .ref eC, .ref eA, .ref pA, .ref dA, .ref kA, .ref acA, .int nx])), (oA, .inl (cI, 24, .inl Po)), (aA, .inl (cI, 24, .inl Pa)), (bB, .inl (cI, 24, .inl Pb)), (cC, .inl (cI, 24, .inl Pc)), (gA, .inl (cI, 1600, .inl G)), (zA, .inl (cZ, 400, .inl O)), (bA, .inl (cI, 25, .inl B)), (sR, .inl (cI, 8, .inl sr)), (sD, .inl (cI, 32, .inl sd)), (rA, .inl (cI, 16, .inl (upd (tm_jn 8 R0 (upd R1 a (tm_mk (nI v) (R1 b) (R1 w)))) 8 0))), (eC, .inl (cI, 128, .inl (tm_jn 64 C0 C1))), (eA, .inl (cI, 2, .inl (tm_tw e0 e1))), (pA, .inl (cI, 2, .inl (tm_tw h0 (nI (q + 1))))), (dA, .inl (cI, 2, .inl (tm_tw d0 (d1 + 1)))), (kA, .inl (cI, 2, .inl (tm_tw (nI k0) (nI k1)))), (acA, .inl (cI, 240, .inl (tm_jn 120 A0 A1)))] := hD
    rw [show 8 = 8 + 0 by omega, tm_jn_uh] at hP hD
    have hP : va_P D cls [(m0, .inr (5, [.int th, .int (nI n), .ref oA, .ref aA, .ref bB, .ref cC, .int tl, .int (nI k), .ref gA, .ref zA, .ref bA, .ref sR, .ref sD, .ref rA, .ref eC, .ref eA, .ref pA, .ref dA, .ref kA, .ref acA, .int nx])), (oA, .inl (cI, 24, .inl Po)), (aA, .inl (cI, 24, .inl Pa)), (bB, .inl (cI, 24, .inl Pb)), (cC, .inl (cI, 24, .inl Pc)), (gA, .inl (cI, 1600, .inl G)), (zA, .inl (cZ, 400, .inl O)), (bA, .inl (cI, 25, .inl B)), (sR, .inl (cI, 8, .inl sr)), (sD, .inl (cI, 32, .inl sd)), (rA, .inl (cI, 16, .inl (tm_jn 8 R0 (upd (upd R1 a (tm_mk (nI v) (R1 b) (R1 w))) 0 0)))), (eC, .inl (cI, 128, .inl (tm_jn 64 C0 C1))), (eA, .inl (cI, 2, .inl (tm_tw e0 e1))), (pA, .inl (cI, 2, .inl (tm_tw h0 (nI (q + 1))))), (dA, .inl (cI, 2, .inl (tm_tw d0 (d1 + 1)))), (kA, .inl (cI, 2, .inl (tm_tw (nI k0) (nI k1)))), (acA, .inl (cI, 240, .inl (tm_jn 120 A0 A1)))] H := hP
    have hD : va_D A [(m0, .inr (5, [.int th, .int (nI n), .ref oA, .ref aA, .ref bB, .ref cC, .int tl, .int (nI k), .ref gA, .ref zA, .ref bA, .ref sR, .ref sD, .ref rA, .ref eC, .ref eA, .ref pA, .ref dA, .ref kA, .ref acA, .int nx])), (oA, .inl (cI, 24, .inl Po)), (aA, .inl (cI, 24, .inl Pa)), (bB, .inl (cI, 24, .inl Pb)), (cC, .inl (cI, 24, .inl Pc)), (gA, .inl (cI, 1600, .inl G)), (zA, .inl (cZ, 400, .inl O)), (bA, .inl (cI, 25, .inl B)), (sR, .inl (cI, 8, .inl sr)), (sD, .inl (cI, 32, .inl sd)), (rA, .inl (cI, 16, .inl (tm_jn 8 R0 (upd (upd R1 a (tm_mk (nI v) (R1 b) (R1 w))) 0 0)))), (eC, .inl (cI, 128, .inl (tm_jn 64 C0 C1))), (eA, .inl (cI, 2, .inl (tm_tw e0 e1))), (pA, .inl (cI, 2, .inl (tm_tw h0 (nI (q + 1))))), (dA, .inl (cI, 2, .inl (tm_tw d0 (d1 + 1)))), (kA, .inl (cI, 2, .inl (tm_tw (nI k0) (nI k1)))), (acA, .inl (cI, 240, .inl (tm_jn 120 A0 A1)))] := hD
    have ew1_1 : (upd (upd R1 a (tm_mk (nI v) (R1 b) (R1 w))) 0 0) = ((tm_ts G q (R1, C1, A1, k1, nI q, d1, e1, x1)).1) := by rw [tm_set_m hR0 ha8, tm_mk_calc (by omega) (hsh b hb8) (hsh w hw8)]; simp [tm_ts, tm_alu, hv, ha, hbb, hw, hw7, hc_b, hc_w, f13, ee0, ee5, ee6, ee7, ee8, ee9, ee10, ee11, ee12, ee13, f7, f9, f4]
    have ew1 : tm_jn 8 R0 (upd (upd R1 a (tm_mk (nI v) (R1 b) (R1 w))) 0 0) = tm_jn 8 R0 ((tm_ts G q (R1, C1, A1, k1, nI q, d1, e1, x1)).1) := congr (congrArg (tm_jn 8) rfl) ew1_1
    have ew2_1 : C1 = ((tm_ts G q (R1, C1, A1, k1, nI q, d1, e1, x1)).2.1) := by first | rfl | (simp [tm_ts, hv, f13, ee0, ee5, ee6, ee7, ee8, ee9, ee10, ee11, ee12, ee13, f7, f9, f4]; done)
    have ew2 : tm_jn 64 C0 C1 = tm_jn 64 C0 ((tm_ts G q (R1, C1, A1, k1, nI q, d1, e1, x1)).2.1) := congr (congrArg (tm_jn 64) rfl) ew2_1
    have ew3_1 : e1 = ((tm_ts G q (R1, C1, A1, k1, nI q, d1, e1, x1)).2.2.2.2.2.2.1) := by first | rfl | (simp [tm_ts, hv, f13, ee0, ee5, ee6, ee7, ee8, ee9, ee10, ee11, ee12, ee13, f7, f9, f4]; done)
    have ew3 : tm_tw e0 e1 = tm_tw e0 ((tm_ts G q (R1, C1, A1, k1, nI q, d1, e1, x1)).2.2.2.2.2.2.1) := congr (congrArg (tm_tw) rfl) ew3_1
    have ew4_1 : (nI (q + 1)) = ((tm_ts G q (R1, C1, A1, k1, nI q, d1, e1, x1)).2.2.2.2.1) := by first | rfl | (simp [tm_ts, hv, f13, ee0, ee5, ee6, ee7, ee8, ee9, ee10, ee11, ee12, ee13, f7, f9, f4]; done)
    have ew4 : tm_tw h0 (nI (q + 1)) = tm_tw h0 ((tm_ts G q (R1, C1, A1, k1, nI q, d1, e1, x1)).2.2.2.2.1) := congr (congrArg (tm_tw) rfl) ew4_1
    have ew5_1 : (d1 + 1) = ((tm_ts G q (R1, C1, A1, k1, nI q, d1, e1, x1)).2.2.2.2.2.1) := by first | rfl | (simp [tm_ts, hv, f13, ee0, ee5, ee6, ee7, ee8, ee9, ee10, ee11, ee12, ee13, f7, f9, f4]; done)
    have ew5 : tm_tw d0 (d1 + 1) = tm_tw d0 ((tm_ts G q (R1, C1, A1, k1, nI q, d1, e1, x1)).2.2.2.2.2.1) := congr (congrArg (tm_tw) rfl) ew5_1
    have ew6_1 : (nI k1) = (nI (tm_ts G q (R1, C1, A1, k1, nI q, d1, e1, x1)).2.2.2.1) := congrArg nI (by first | (simp [tm_ts, hv, f13, ee0, ee5, ee6, ee7, ee8, ee9, ee10, ee11, ee12, ee13, f7, f9, f4]; done) | (simp [tm_ts, hv, f13, ee0, ee5, ee6, ee7, ee8, ee9, ee10, ee11, ee12, ee13, f7, f9, f4]; omega) | omega)
    have ew6 : tm_tw (nI k0) (nI k1) = tm_tw (nI k0) (nI (tm_ts G q (R1, C1, A1, k1, nI q, d1, e1, x1)).2.2.2.1) := congr (congrArg (tm_tw) rfl) ew6_1
    have ew7_1 : A1 = ((tm_ts G q (R1, C1, A1, k1, nI q, d1, e1, x1)).2.2.1) := by first | rfl | (simp [tm_ts, hv, f13, ee0, ee5, ee6, ee7, ee8, ee9, ee10, ee11, ee12, ee13, f7, f9, f4]; done)
    have ew7 : tm_jn 120 A0 A1 = tm_jn 120 A0 ((tm_ts G q (R1, C1, A1, k1, nI q, d1, e1, x1)).2.2.1) := congr (congrArg (tm_jn 120) rfl) ew7_1
    have hP : va_P D cls [(m0, .inr (5, [.int th, .int (nI n), .ref oA, .ref aA, .ref bB, .ref cC, .int tl, .int (nI k), .ref gA, .ref zA, .ref bA, .ref sR, .ref sD, .ref rA, .ref eC, .ref eA, .ref pA, .ref dA, .ref kA, .ref acA, .int nx])), (oA, .inl (cI, 24, .inl Po)), (aA, .inl (cI, 24, .inl Pa)), (bB, .inl (cI, 24, .inl Pb)), (cC, .inl (cI, 24, .inl Pc)), (gA, .inl (cI, 1600, .inl G)), (zA, .inl (cZ, 400, .inl O)), (bA, .inl (cI, 25, .inl B)), (sR, .inl (cI, 8, .inl sr)), (sD, .inl (cI, 32, .inl sd)), (rA, .inl (cI, 16, .inl (tm_jn 8 R0 ((tm_ts G q (R1, C1, A1, k1, nI q, d1, e1, x1)).1)))), (eC, .inl (cI, 128, .inl (tm_jn 64 C0 ((tm_ts G q (R1, C1, A1, k1, nI q, d1, e1, x1)).2.1)))), (eA, .inl (cI, 2, .inl (tm_tw e0 ((tm_ts G q (R1, C1, A1, k1, nI q, d1, e1, x1)).2.2.2.2.2.2.1)))), (pA, .inl (cI, 2, .inl (tm_tw h0 ((tm_ts G q (R1, C1, A1, k1, nI q, d1, e1, x1)).2.2.2.2.1)))), (dA, .inl (cI, 2, .inl (tm_tw d0 ((tm_ts G q (R1, C1, A1, k1, nI q, d1, e1, x1)).2.2.2.2.2.1)))), (kA, .inl (cI, 2, .inl (tm_tw (nI k0) (nI (tm_ts G q (R1, C1, A1, k1, nI q, d1, e1, x1)).2.2.2.1)))), (acA, .inl (cI, 240, .inl (tm_jn 120 A0 ((tm_ts G q (R1, C1, A1, k1, nI q, d1, e1, x1)).2.2.1))))] H := by rw [← ew1, ← ew2, ← ew3, ← ew4, ← ew5, ← ew6, ← ew7]; exact hP
    have hD : va_D A [(m0, .inr (5, [.int th, .int (nI n), .ref oA, .ref aA, .ref bB, .ref cC, .int tl, .int (nI k), .ref gA, .ref zA, .ref bA, .ref sR, .ref sD, .ref rA, .ref eC, .ref eA, .ref pA, .ref dA, .ref kA, .ref acA, .int nx])), (oA, .inl (cI, 24, .inl Po)), (aA, .inl (cI, 24, .inl Pa)), (bB, .inl (cI, 24, .inl Pb)), (cC, .inl (cI, 24, .inl Pc)), (gA, .inl (cI, 1600, .inl G)), (zA, .inl (cZ, 400, .inl O)), (bA, .inl (cI, 25, .inl B)), (sR, .inl (cI, 8, .inl sr)), (sD, .inl (cI, 32, .inl sd)), (rA, .inl (cI, 16, .inl (tm_jn 8 R0 ((tm_ts G q (R1, C1, A1, k1, nI q, d1, e1, x1)).1)))), (eC, .inl (cI, 128, .inl (tm_jn 64 C0 ((tm_ts G q (R1, C1, A1, k1, nI q, d1, e1, x1)).2.1)))), (eA, .inl (cI, 2, .inl (tm_tw e0 ((tm_ts G q (R1, C1, A1, k1, nI q, d1, e1, x1)).2.2.2.2.2.2.1)))), (pA, .inl (cI, 2, .inl (tm_tw h0 ((tm_ts G q (R1, C1, A1, k1, nI q, d1, e1, x1)).2.2.2.2.1)))), (dA, .inl (cI, 2, .inl (tm_tw d0 ((tm_ts G q (R1, C1, A1, k1, nI q, d1, e1, x1)).2.2.2.2.2.1)))), (kA, .inl (cI, 2, .inl (tm_tw (nI k0) (nI (tm_ts G q (R1, C1, A1, k1, nI q, d1, e1, x1)).2.2.2.1)))), (acA, .inl (cI, 240, .inl (tm_jn 120 A0 ((tm_ts G q (R1, C1, A1, k1, nI q, d1, e1, x1)).2.2.1))))] := by rw [← ew1, ← ew2, ← ew3, ← ew4, ← ew5, ← ew6, ← ew7]; exact hD
    exact W.vret hx hb hr (fun t9 ht9 hW9 => ⟨⟨(), rfl, trivial, by rw [ht9]; exact hP, hD⟩, hS.F ht9⟩) hS.2.2 d_Mo_target_323
  · have f13 : ¬ 13 < nI v := nI_nlt (a := 13) (b := v) (by omega) (by decide)
    have ee0 : ¬ nI v = 0 := xn_ne (w := 0) (by omega) (by decide) (by omega)
    have ee5 : nI v = 5 := by rw [hcase]; rfl
    have ee6 : ¬ nI v = 6 := xn_ne (w := 6) (by omega) (by decide) (by omega)
    have ee7 : ¬ nI v = 7 := xn_ne (w := 7) (by omega) (by decide) (by omega)
    have ee8 : ¬ nI v = 8 := xn_ne (w := 8) (by omega) (by decide) (by omega)
    have ee9 : ¬ nI v = 9 := xn_ne (w := 9) (by omega) (by decide) (by omega)
    have ee10 : ¬ nI v = 10 := xn_ne (w := 10) (by omega) (by decide) (by omega)
    have ee11 : ¬ nI v = 11 := xn_ne (w := 11) (by omega) (by decide) (by omega)
    have ee12 : ¬ nI v = 12 := xn_ne (w := 12) (by omega) (by decide) (by omega)
    have ee13 : ¬ nI v = 13 := xn_ne (w := 13) (by omega) (by decide) (by omega)
    have f7 : nI v < 7 := nI_lt (a := v) (b := 7) (by omega) (by decide)
    have f9 : nI v < 9 := nI_lt (a := v) (b := 9) (by omega) (by decide)
    have f4 : 4 < nI v := nI_lt (a := 4) (b := v) (by omega) (by omega)
    refine lv_aload_n hx hb d_Mo_target_0 rfl (lv_at hl 0 rfl) ?_
    refine va_get (D := D) (ci := 5) (v := .ref pA) (C := R_Mo) (T := F_Mo) (N := 21) hx hb hg f_Mo hown hK.1 hP 0 rfl rfl 16 (by decide) (hg _ q579) (fun _ h9 => h9) rfl d_Mo_target_1 ?_
    refine lv_iconst (v := 1) hx hb d_Mo_target_4 (by decide) ?_
    refine xa_ld hx hb hK hP 13 0 rfl rfl (kx := 1) (rfl) (by decide) (by decide) d_Mo_target_5 ?_
    have eq9 : ((tm_tw h0 (nI q)) 1 : Int32) = nI q := rfl
    refine W.eq (g2 := F0 m 6 ls [.int (nI q)]) (by rw [eq9]) ?_
    refine lv_istore_n hx hb d_Mo_target_6 rfl hl (by decide) rfl (fun ls hl => ?_)
    have hl : lv_has ls 9 [(1, .int (nI q)), (0, .ref m0)] := hl
    refine lv_aload_n hx hb d_Mo_target_7 rfl (lv_at hl 1 rfl) ?_
    refine va_get (D := D) (ci := 5) (v := .ref gA) (C := R_Mo) (T := F_Mo) (N := 21) hx hb hg f_Mo hown hK.1 hP 0 rfl rfl 8 (by decide) (hg _ q571) (fun _ h9 => h9) rfl d_Mo_target_8 ?_
    refine lv_iconst (v := 4) hx hb d_Mo_target_11 (by decide) ?_
    refine lv_iload_n hx hb d_Mo_target_12 rfl (lv_at hl 0 rfl) ?_
    refine lv_imul hx hb d_Mo_target_13 ?_
    have eq9 : (4 * (nI q) : Int32) = nI (4 * q) := pk_mul 4 q
    refine W.eq (g2 := F0 m 14 ls [.int (nI (4 * q)), .ref gA]) (by rw [eq9]) ?_
    refine xa_ld hx hb hK hP 5 0 rfl rfl (kx := 4 * q) (rfl) (by omega) (by decide) d_Mo_target_14 ?_
    have eq9 : (G (4 * q) : Int32) = nI v := hv
    refine W.eq (g2 := F0 m 15 ls [.int (nI v)]) (by rw [eq9]) ?_
    refine lv_istore_n hx hb d_Mo_target_15 rfl hl (by decide) rfl (fun ls hl => ?_)
    have hl : lv_has ls 9 [(2, .int (nI v)), (1, .int (nI q)), (0, .ref m0)] := hl
    refine lv_aload_n hx hb d_Mo_target_16 rfl (lv_at hl 2 rfl) ?_
    refine va_get (D := D) (ci := 5) (v := .ref gA) (C := R_Mo) (T := F_Mo) (N := 21) hx hb hg f_Mo hown hK.1 hP 0 rfl rfl 8 (by decide) (hg _ q571) (fun _ h9 => h9) rfl d_Mo_target_17 ?_
    refine lv_iconst (v := 4) hx hb d_Mo_target_20 (by decide) ?_
    refine lv_iload_n hx hb d_Mo_target_21 rfl (lv_at hl 1 rfl) ?_
    refine lv_imul hx hb d_Mo_target_22 ?_
    have eq9 : (4 * (nI q) : Int32) = nI (4 * q) := pk_mul 4 q
    refine W.eq (g2 := F0 m 23 ls [.int (nI (4 * q)), .ref gA]) (by rw [eq9]) ?_
    refine lv_iconst (v := 1) hx hb d_Mo_target_23 (by decide) ?_
    refine lv_iadd hx hb d_Mo_target_24 ?_
    have eq9 : ((nI (4 * q)) + 1 : Int32) = nI (4 * q + 1) := nI_add (4 * q) 1
    refine W.eq (g2 := F0 m 25 ls [.int (nI (4 * q + 1)), .ref gA]) (by rw [eq9]) ?_
    refine xa_ld hx hb hK hP 5 0 rfl rfl (kx := 4 * q + 1) (rfl) (by omega) (by decide) d_Mo_target_25 ?_
    have eq9 : (G (4 * q + 1) : Int32) = nI a := ha
    refine W.eq (g2 := F0 m 26 ls [.int (nI a)]) (by rw [eq9]) ?_
    refine lv_istore_n hx hb d_Mo_target_26 rfl hl (by decide) rfl (fun ls hl => ?_)
    have hl : lv_has ls 9 [(3, .int (nI a)), (2, .int (nI v)), (1, .int (nI q)), (0, .ref m0)] := hl
    refine lv_aload_n hx hb d_Mo_target_27 rfl (lv_at hl 3 rfl) ?_
    refine va_get (D := D) (ci := 5) (v := .ref gA) (C := R_Mo) (T := F_Mo) (N := 21) hx hb hg f_Mo hown hK.1 hP 0 rfl rfl 8 (by decide) (hg _ q571) (fun _ h9 => h9) rfl d_Mo_target_28 ?_
    refine lv_iconst (v := 4) hx hb d_Mo_target_31 (by decide) ?_
    refine lv_iload_n hx hb d_Mo_target_32 rfl (lv_at hl 2 rfl) ?_
    refine lv_imul hx hb d_Mo_target_33 ?_
    have eq9 : (4 * (nI q) : Int32) = nI (4 * q) := pk_mul 4 q
    refine W.eq (g2 := F0 m 34 ls [.int (nI (4 * q)), .ref gA]) (by rw [eq9]) ?_
    refine lv_iconst (v := 2) hx hb d_Mo_target_34 (by decide) ?_
    refine lv_iadd hx hb d_Mo_target_35 ?_
    have eq9 : ((nI (4 * q)) + 2 : Int32) = nI (4 * q + 2) := nI_add (4 * q) 2
    refine W.eq (g2 := F0 m 36 ls [.int (nI (4 * q + 2)), .ref gA]) (by rw [eq9]) ?_
    refine xa_ld hx hb hK hP 5 0 rfl rfl (kx := 4 * q + 2) (rfl) (by omega) (by decide) d_Mo_target_36 ?_
    have eq9 : (G (4 * q + 2) : Int32) = nI b := hbb
    refine W.eq (g2 := F0 m 37 ls [.int (nI b)]) (by rw [eq9]) ?_
    refine lv_istore hx hb d_Mo_target_37 hl (by decide) rfl (fun ls hl => ?_)
    have hl : lv_has ls 9 [(4, .int (nI b)), (3, .int (nI a)), (2, .int (nI v)), (1, .int (nI q)), (0, .ref m0)] := hl
    refine lv_aload_n hx hb d_Mo_target_39 rfl (lv_at hl 4 rfl) ?_
    refine va_get (D := D) (ci := 5) (v := .ref gA) (C := R_Mo) (T := F_Mo) (N := 21) hx hb hg f_Mo hown hK.1 hP 0 rfl rfl 8 (by decide) (hg _ q571) (fun _ h9 => h9) rfl d_Mo_target_40 ?_
    refine lv_iconst (v := 4) hx hb d_Mo_target_43 (by decide) ?_
    refine lv_iload_n hx hb d_Mo_target_44 rfl (lv_at hl 3 rfl) ?_
    refine lv_imul hx hb d_Mo_target_45 ?_
    have eq9 : (4 * (nI q) : Int32) = nI (4 * q) := pk_mul 4 q
    refine W.eq (g2 := F0 m 46 ls [.int (nI (4 * q)), .ref gA]) (by rw [eq9]) ?_
    refine lv_iconst (v := 3) hx hb d_Mo_target_46 (by decide) ?_
    refine lv_iadd hx hb d_Mo_target_47 ?_
    have eq9 : ((nI (4 * q)) + 3 : Int32) = nI (4 * q + 3) := nI_add (4 * q) 3
    refine W.eq (g2 := F0 m 48 ls [.int (nI (4 * q + 3)), .ref gA]) (by rw [eq9]) ?_
    refine xa_ld hx hb hK hP 5 0 rfl rfl (kx := 4 * q + 3) (rfl) (by omega) (by decide) d_Mo_target_48 ?_
    refine lv_istore hx hb d_Mo_target_49 hl (by decide) rfl (fun ls hl => ?_)
    have hl : lv_has ls 9 [(5, .int (G (4 * q + 3))), (4, .int (nI b)), (3, .int (nI a)), (2, .int (nI v)), (1, .int (nI q)), (0, .ref m0)] := hl
    refine lv_aload_n hx hb d_Mo_target_51 rfl (lv_at hl 5 rfl) ?_
    refine va_get (D := D) (ci := 5) (v := .ref rA) (C := R_Mo) (T := F_Mo) (N := 21) hx hb hg f_Mo hown hK.1 hP 0 rfl rfl 13 (by decide) (hg _ q576) (fun _ h9 => h9) rfl d_Mo_target_52 ?_
    refine lv_bipush (v := 8) hx hb d_Mo_target_55 (by decide) ?_
    refine lv_iload_n hx hb d_Mo_target_57 rfl (lv_at hl 2 rfl) ?_
    refine lv_iadd hx hb d_Mo_target_58 ?_
    have eq9 : (8 + (nI a) : Int32) = nI (8 + a) := nI_add 8 a
    refine W.eq (g2 := F0 m 59 ls [.int (nI (8 + a)), .ref rA]) (by rw [eq9]) ?_
    refine xa_ld hx hb hK hP 10 0 rfl rfl (kx := 8 + a) (rfl) (by omega) (by decide) d_Mo_target_59 ?_
    have eq9 : ((tm_jn 8 R0 R1) (8 + a) : Int32) = R1 a := (congrArg (tm_jn 8 R0 R1) (show 8 + a = 8 + a by omega)).trans tm_jn_hi
    refine W.eq (g2 := F0 m 60 ls [.int (R1 a)]) (by rw [eq9]) ?_
    refine lv_istore hx hb d_Mo_target_60 hl (by decide) rfl (fun ls hl => ?_)
    have hl : lv_has ls 9 [(6, .int (R1 a)), (5, .int (G (4 * q + 3))), (4, .int (nI b)), (3, .int (nI a)), (2, .int (nI v)), (1, .int (nI q)), (0, .ref m0)] := hl
    refine lv_aload_n hx hb d_Mo_target_62 rfl (lv_at hl 6 rfl) ?_
    refine va_get (D := D) (ci := 5) (v := .ref rA) (C := R_Mo) (T := F_Mo) (N := 21) hx hb hg f_Mo hown hK.1 hP 0 rfl rfl 13 (by decide) (hg _ q576) (fun _ h9 => h9) rfl d_Mo_target_63 ?_
    refine lv_bipush (v := 8) hx hb d_Mo_target_66 (by decide) ?_
    refine lv_iload hx hb d_Mo_target_68 (lv_at hl 2 rfl) ?_
    refine lv_iadd hx hb d_Mo_target_70 ?_
    have eq9 : (8 + (nI b) : Int32) = nI (8 + b) := nI_add 8 b
    refine W.eq (g2 := F0 m 71 ls [.int (nI (8 + b)), .ref rA]) (by rw [eq9]) ?_
    refine xa_ld hx hb hK hP 10 0 rfl rfl (kx := 8 + b) (rfl) (by omega) (by decide) d_Mo_target_71 ?_
    have eq9 : ((tm_jn 8 R0 R1) (8 + b) : Int32) = R1 b := (congrArg (tm_jn 8 R0 R1) (show 8 + b = 8 + b by omega)).trans tm_jn_hi
    refine W.eq (g2 := F0 m 72 ls [.int (R1 b)]) (by rw [eq9]) ?_
    refine lv_istore hx hb d_Mo_target_72 hl (by decide) rfl (fun ls hl => ?_)
    have hl : lv_has ls 9 [(7, .int (R1 b)), (6, .int (R1 a)), (5, .int (G (4 * q + 3))), (4, .int (nI b)), (3, .int (nI a)), (2, .int (nI v)), (1, .int (nI q)), (0, .ref m0)] := hl
    refine lv_aload_n hx hb d_Mo_target_74 rfl (lv_at hl 7 rfl) ?_
    refine va_get (D := D) (ci := 5) (v := .ref dA) (C := R_Mo) (T := F_Mo) (N := 21) hx hb hg f_Mo hown hK.1 hP 0 rfl rfl 17 (by decide) (hg _ q580) (fun _ h9 => h9) rfl d_Mo_target_75 ?_
    refine lv_iconst (v := 1) hx hb d_Mo_target_78 (by decide) ?_
    refine lv_dup2_11 hx hb d_Mo_target_79 rfl rfl ?_
    refine xa_ld hx hb hK hP 14 0 rfl rfl (kx := 1) (rfl) (by decide) (by decide) d_Mo_target_80 ?_
    have eq9 : ((tm_tw d0 d1) 1 : Int32) = d1 := rfl
    refine W.eq (g2 := F0 m 81 ls [.int d1, .int 1, .ref dA]) (by rw [eq9]) ?_
    refine lv_iconst (v := 1) hx hb d_Mo_target_81 (by decide) ?_
    refine lv_iadd hx hb d_Mo_target_82 ?_
    refine xa_st hx hb hK hP hD hS 14 0 rfl rfl (kx := 1) (rfl) (by decide) (by decide) d_Mo_target_83 (fun H locs hP hD hS => ?_)
    have hP : va_P D cls [(m0, .inr (5, [.int th, .int (nI n), .ref oA, .ref aA, .ref bB, .ref cC, .int tl, .int (nI k), .ref gA, .ref zA, .ref bA, .ref sR, .ref sD, .ref rA, .ref eC, .ref eA, .ref pA, .ref dA, .ref kA, .ref acA, .int nx])), (oA, .inl (cI, 24, .inl Po)), (aA, .inl (cI, 24, .inl Pa)), (bB, .inl (cI, 24, .inl Pb)), (cC, .inl (cI, 24, .inl Pc)), (gA, .inl (cI, 1600, .inl G)), (zA, .inl (cZ, 400, .inl O)), (bA, .inl (cI, 25, .inl B)), (sR, .inl (cI, 8, .inl sr)), (sD, .inl (cI, 32, .inl sd)), (rA, .inl (cI, 16, .inl (tm_jn 8 R0 R1))), (eC, .inl (cI, 128, .inl (tm_jn 64 C0 C1))), (eA, .inl (cI, 2, .inl (tm_tw e0 e1))), (pA, .inl (cI, 2, .inl (tm_tw h0 (nI q)))), (dA, .inl (cI, 2, .inl (upd (tm_tw d0 d1) 1 (d1 + 1)))), (kA, .inl (cI, 2, .inl (tm_tw (nI k0) (nI k1)))), (acA, .inl (cI, 240, .inl (tm_jn 120 A0 A1)))] H := hP
    have hD : va_D A [(m0, .inr (5, [.int th, .int (nI n), .ref oA, .ref aA, .ref bB, .ref cC, .int tl, .int (nI k), .ref gA, .ref zA, .ref bA, .ref sR, .ref sD, .ref rA, .ref eC, .ref eA, .ref pA, .ref dA, .ref kA, .ref acA, .int nx])), (oA, .inl (cI, 24, .inl Po)), (aA, .inl (cI, 24, .inl Pa)), (bB, .inl (cI, 24, .inl Pb)), (cC, .inl (cI, 24, .inl Pc)), (gA, .inl (cI, 1600, .inl G)), (zA, .inl (cZ, 400, .inl O)), (bA, .inl (cI, 25, .inl B)), (sR, .inl (cI, 8, .inl sr)), (sD, .inl (cI, 32, .inl sd)), (rA, .inl (cI, 16, .inl (tm_jn 8 R0 R1))), (eC, .inl (cI, 128, .inl (tm_jn 64 C0 C1))), (eA, .inl (cI, 2, .inl (tm_tw e0 e1))), (pA, .inl (cI, 2, .inl (tm_tw h0 (nI q)))), (dA, .inl (cI, 2, .inl (upd (tm_tw d0 d1) 1 (d1 + 1)))), (kA, .inl (cI, 2, .inl (tm_tw (nI k0) (nI k1)))), (acA, .inl (cI, 240, .inl (tm_jn 120 A0 A1)))] := hD
    have hD := xa_D (e2 := .inl (cI, 2, .inl (tm_tw d0 (d1 + 1)))) hD 14 rfl
    have hP := xa_P (g := tm_tw d0 (d1 + 1)) hP 14 rfl (tm_tw_c)
    have hP : va_P D cls [(m0, .inr (5, [.int th, .int (nI n), .ref oA, .ref aA, .ref bB, .ref cC, .int tl, .int (nI k), .ref gA, .ref zA, .ref bA, .ref sR, .ref sD, .ref rA, .ref eC, .ref eA, .ref pA, .ref dA, .ref kA, .ref acA, .int nx])), (oA, .inl (cI, 24, .inl Po)), (aA, .inl (cI, 24, .inl Pa)), (bB, .inl (cI, 24, .inl Pb)), (cC, .inl (cI, 24, .inl Pc)), (gA, .inl (cI, 1600, .inl G)), (zA, .inl (cZ, 400, .inl O)), (bA, .inl (cI, 25, .inl B)), (sR, .inl (cI, 8, .inl sr)), (sD, .inl (cI, 32, .inl sd)), (rA, .inl (cI, 16, .inl (tm_jn 8 R0 R1))), (eC, .inl (cI, 128, .inl (tm_jn 64 C0 C1))), (eA, .inl (cI, 2, .inl (tm_tw e0 e1))), (pA, .inl (cI, 2, .inl (tm_tw h0 (nI q)))), (dA, .inl (cI, 2, .inl (tm_tw d0 (d1 + 1)))), (kA, .inl (cI, 2, .inl (tm_tw (nI k0) (nI k1)))), (acA, .inl (cI, 240, .inl (tm_jn 120 A0 A1)))] H := hP
    have hD : va_D A [(m0, .inr (5, [.int th, .int (nI n), .ref oA, .ref aA, .ref bB, .ref cC, .int tl, .int (nI k), .ref gA, .ref zA, .ref bA, .ref sR, .ref sD, .ref rA, .ref eC, .ref eA, .ref pA, .ref dA, .ref kA, .ref acA, .int nx])), (oA, .inl (cI, 24, .inl Po)), (aA, .inl (cI, 24, .inl Pa)), (bB, .inl (cI, 24, .inl Pb)), (cC, .inl (cI, 24, .inl Pc)), (gA, .inl (cI, 1600, .inl G)), (zA, .inl (cZ, 400, .inl O)), (bA, .inl (cI, 25, .inl B)), (sR, .inl (cI, 8, .inl sr)), (sD, .inl (cI, 32, .inl sd)), (rA, .inl (cI, 16, .inl (tm_jn 8 R0 R1))), (eC, .inl (cI, 128, .inl (tm_jn 64 C0 C1))), (eA, .inl (cI, 2, .inl (tm_tw e0 e1))), (pA, .inl (cI, 2, .inl (tm_tw h0 (nI q)))), (dA, .inl (cI, 2, .inl (tm_tw d0 (d1 + 1)))), (kA, .inl (cI, 2, .inl (tm_tw (nI k0) (nI k1)))), (acA, .inl (cI, 240, .inl (tm_jn 120 A0 A1)))] := hD
    refine lv_iload_n hx hb d_Mo_target_84 rfl (lv_at hl 5 rfl) ?_
    refine lv_if_ne (tgt := 105) hx hb d_Mo_target_85 rfl (fun _ => ?_) (fun hz9 => absurd hz9 (ee0))
    refine lv_iload_n hx hb d_Mo_target_105 rfl (lv_at hl 5 rfl) ?_
    refine lv_bipush (v := 9) hx hb d_Mo_target_106 (by decide) ?_
    refine lv_icmp_ne (tgt := 118) hx hb d_Mo_target_108 rfl (fun _ => ?_) (fun hz9 => absurd hz9 (ee9))
    refine lv_iload_n hx hb d_Mo_target_118 rfl (lv_at hl 5 rfl) ?_
    refine lv_bipush (v := 10) hx hb d_Mo_target_119 (by decide) ?_
    refine lv_icmp_ne (tgt := 131) hx hb d_Mo_target_121 rfl (fun _ => ?_) (fun hz9 => absurd hz9 (ee10))
    refine lv_iload_n hx hb d_Mo_target_131 rfl (lv_at hl 5 rfl) ?_
    refine lv_bipush (v := 11) hx hb d_Mo_target_132 (by decide) ?_
    refine lv_icmp_eq (tgt := 156) hx hb d_Mo_target_134 rfl (fun hz9 => absurd hz9 (ee11)) (fun _ => ?_)
    refine lv_iload_n hx hb d_Mo_target_137 rfl (lv_at hl 5 rfl) ?_
    refine lv_bipush (v := 12) hx hb d_Mo_target_138 (by decide) ?_
    refine lv_icmp_ne (tgt := 160) hx hb d_Mo_target_140 rfl (fun _ => ?_) (fun hz9 => absurd hz9 (ee12))
    refine lv_iconst (v := 0) hx hb d_Mo_target_160 (by decide) ?_
    refine lv_istore hx hb d_Mo_target_161 hl (by decide) rfl (fun ls hl => ?_)
    have hl : lv_has ls 9 [(8, .int 0), (7, .int (R1 b)), (6, .int (R1 a)), (5, .int (G (4 * q + 3))), (4, .int (nI b)), (3, .int (nI a)), (2, .int (nI v)), (1, .int (nI q)), (0, .ref m0)] := hl
    refine lv_aload_n hx hb d_Mo_target_163 rfl (lv_at hl 8 rfl) ?_
    refine va_get (D := D) (ci := 5) (v := .ref pA) (C := R_Mo) (T := F_Mo) (N := 21) hx hb hg f_Mo hown hK.1 hP 0 rfl rfl 16 (by decide) (hg _ q579) (fun _ h9 => h9) rfl d_Mo_target_164 ?_
    refine lv_iconst (v := 1) hx hb d_Mo_target_167 (by decide) ?_
    refine lv_iload hx hb d_Mo_target_168 (lv_at hl 0 rfl) ?_
    refine lv_if_eq (tgt := 178) hx hb d_Mo_target_170 rfl (fun _ => ?_) (fun hz9 => absurd (by decide) hz9)
    refine lv_iload_n hx hb d_Mo_target_178 rfl (lv_at hl 6 rfl) ?_
    refine lv_bipush (v := 13) hx hb d_Mo_target_179 (by decide) ?_
    refine lv_icmp_ne (tgt := 189) hx hb d_Mo_target_181 rfl (fun _ => ?_) (fun hz9 => absurd hz9 (ee13))
    refine lv_iload_n hx hb d_Mo_target_189 rfl (lv_at hl 7 rfl) ?_
    refine lv_iconst (v := 1) hx hb d_Mo_target_190 (by decide) ?_
    refine lv_iadd hx hb d_Mo_target_191 ?_
    have eq9 : ((nI q) + 1 : Int32) = nI (q + 1) := nI_add q 1
    refine W.eq (g2 := F0 m 192 ls [.int (nI (q + 1)), .int 1, .ref pA]) (by rw [eq9]) ?_
    refine xa_st hx hb hK hP hD hS 13 0 rfl rfl (kx := 1) (rfl) (by decide) (by decide) d_Mo_target_192 (fun H locs hP hD hS => ?_)
    have hP : va_P D cls [(m0, .inr (5, [.int th, .int (nI n), .ref oA, .ref aA, .ref bB, .ref cC, .int tl, .int (nI k), .ref gA, .ref zA, .ref bA, .ref sR, .ref sD, .ref rA, .ref eC, .ref eA, .ref pA, .ref dA, .ref kA, .ref acA, .int nx])), (oA, .inl (cI, 24, .inl Po)), (aA, .inl (cI, 24, .inl Pa)), (bB, .inl (cI, 24, .inl Pb)), (cC, .inl (cI, 24, .inl Pc)), (gA, .inl (cI, 1600, .inl G)), (zA, .inl (cZ, 400, .inl O)), (bA, .inl (cI, 25, .inl B)), (sR, .inl (cI, 8, .inl sr)), (sD, .inl (cI, 32, .inl sd)), (rA, .inl (cI, 16, .inl (tm_jn 8 R0 R1))), (eC, .inl (cI, 128, .inl (tm_jn 64 C0 C1))), (eA, .inl (cI, 2, .inl (tm_tw e0 e1))), (pA, .inl (cI, 2, .inl (upd (tm_tw h0 (nI q)) 1 (nI (q + 1))))), (dA, .inl (cI, 2, .inl (tm_tw d0 (d1 + 1)))), (kA, .inl (cI, 2, .inl (tm_tw (nI k0) (nI k1)))), (acA, .inl (cI, 240, .inl (tm_jn 120 A0 A1)))] H := hP
    have hD : va_D A [(m0, .inr (5, [.int th, .int (nI n), .ref oA, .ref aA, .ref bB, .ref cC, .int tl, .int (nI k), .ref gA, .ref zA, .ref bA, .ref sR, .ref sD, .ref rA, .ref eC, .ref eA, .ref pA, .ref dA, .ref kA, .ref acA, .int nx])), (oA, .inl (cI, 24, .inl Po)), (aA, .inl (cI, 24, .inl Pa)), (bB, .inl (cI, 24, .inl Pb)), (cC, .inl (cI, 24, .inl Pc)), (gA, .inl (cI, 1600, .inl G)), (zA, .inl (cZ, 400, .inl O)), (bA, .inl (cI, 25, .inl B)), (sR, .inl (cI, 8, .inl sr)), (sD, .inl (cI, 32, .inl sd)), (rA, .inl (cI, 16, .inl (tm_jn 8 R0 R1))), (eC, .inl (cI, 128, .inl (tm_jn 64 C0 C1))), (eA, .inl (cI, 2, .inl (tm_tw e0 e1))), (pA, .inl (cI, 2, .inl (upd (tm_tw h0 (nI q)) 1 (nI (q + 1))))), (dA, .inl (cI, 2, .inl (tm_tw d0 (d1 + 1)))), (kA, .inl (cI, 2, .inl (tm_tw (nI k0) (nI k1)))), (acA, .inl (cI, 240, .inl (tm_jn 120 A0 A1)))] := hD
    have hD := xa_D (e2 := .inl (cI, 2, .inl (tm_tw h0 (nI (q + 1))))) hD 13 rfl
    have hP := xa_P (g := tm_tw h0 (nI (q + 1))) hP 13 rfl (tm_tw_c)
    have hP : va_P D cls [(m0, .inr (5, [.int th, .int (nI n), .ref oA, .ref aA, .ref bB, .ref cC, .int tl, .int (nI k), .ref gA, .ref zA, .ref bA, .ref sR, .ref sD, .ref rA, .ref eC, .ref eA, .ref pA, .ref dA, .ref kA, .ref acA, .int nx])), (oA, .inl (cI, 24, .inl Po)), (aA, .inl (cI, 24, .inl Pa)), (bB, .inl (cI, 24, .inl Pb)), (cC, .inl (cI, 24, .inl Pc)), (gA, .inl (cI, 1600, .inl G)), (zA, .inl (cZ, 400, .inl O)), (bA, .inl (cI, 25, .inl B)), (sR, .inl (cI, 8, .inl sr)), (sD, .inl (cI, 32, .inl sd)), (rA, .inl (cI, 16, .inl (tm_jn 8 R0 R1))), (eC, .inl (cI, 128, .inl (tm_jn 64 C0 C1))), (eA, .inl (cI, 2, .inl (tm_tw e0 e1))), (pA, .inl (cI, 2, .inl (tm_tw h0 (nI (q + 1))))), (dA, .inl (cI, 2, .inl (tm_tw d0 (d1 + 1)))), (kA, .inl (cI, 2, .inl (tm_tw (nI k0) (nI k1)))), (acA, .inl (cI, 240, .inl (tm_jn 120 A0 A1)))] H := hP
    have hD : va_D A [(m0, .inr (5, [.int th, .int (nI n), .ref oA, .ref aA, .ref bB, .ref cC, .int tl, .int (nI k), .ref gA, .ref zA, .ref bA, .ref sR, .ref sD, .ref rA, .ref eC, .ref eA, .ref pA, .ref dA, .ref kA, .ref acA, .int nx])), (oA, .inl (cI, 24, .inl Po)), (aA, .inl (cI, 24, .inl Pa)), (bB, .inl (cI, 24, .inl Pb)), (cC, .inl (cI, 24, .inl Pc)), (gA, .inl (cI, 1600, .inl G)), (zA, .inl (cZ, 400, .inl O)), (bA, .inl (cI, 25, .inl B)), (sR, .inl (cI, 8, .inl sr)), (sD, .inl (cI, 32, .inl sd)), (rA, .inl (cI, 16, .inl (tm_jn 8 R0 R1))), (eC, .inl (cI, 128, .inl (tm_jn 64 C0 C1))), (eA, .inl (cI, 2, .inl (tm_tw e0 e1))), (pA, .inl (cI, 2, .inl (tm_tw h0 (nI (q + 1))))), (dA, .inl (cI, 2, .inl (tm_tw d0 (d1 + 1)))), (kA, .inl (cI, 2, .inl (tm_tw (nI k0) (nI k1)))), (acA, .inl (cI, 240, .inl (tm_jn 120 A0 A1)))] := hD
    refine lv_iload_n hx hb d_Mo_target_193 rfl (lv_at hl 6 rfl) ?_
    refine lv_iconst (v := 5) hx hb d_Mo_target_194 (by decide) ?_
    refine lv_icmp_ge (tgt := 226) hx hb d_Mo_target_195 rfl (fun _ => ?_) (fun hz9 => absurd (nI_le (a := 5) (b := v) (by omega) (by omega)) hz9)
    refine lv_iload_n hx hb d_Mo_target_226 rfl (lv_at hl 6 rfl) ?_
    refine lv_iconst (v := 5) hx hb d_Mo_target_227 (by decide) ?_
    refine lv_icmp_ne (tgt := 251) hx hb d_Mo_target_228 rfl (fun hz9 => absurd (ee5) hz9) (fun _ => ?_)
    refine lv_aload_n hx hb d_Mo_target_231 rfl (lv_at hl 8 rfl) ?_
    refine va_get (D := D) (ci := 5) (v := .ref rA) (C := R_Mo) (T := F_Mo) (N := 21) hx hb hg f_Mo hown hK.1 hP 0 rfl rfl 13 (by decide) (hg _ q576) (fun _ h9 => h9) rfl d_Mo_target_232 ?_
    refine lv_bipush (v := 8) hx hb d_Mo_target_235 (by decide) ?_
    refine lv_iload_n hx hb d_Mo_target_237 rfl (lv_at hl 5 rfl) ?_
    refine lv_iadd hx hb d_Mo_target_238 ?_
    have eq9 : (8 + (nI a) : Int32) = nI (8 + a) := nI_add 8 a
    refine W.eq (g2 := F0 m 239 ls [.int (nI (8 + a)), .ref rA]) (by rw [eq9]) ?_
    refine lv_iload_n hx hb d_Mo_target_239 rfl (lv_at hl 6 rfl) ?_
    refine lv_iload hx hb d_Mo_target_240 (lv_at hl 1 rfl) ?_
    refine lv_iload hx hb d_Mo_target_242 (lv_at hl 3 rfl) ?_
    refine xr_S (As := [.int (nI v), .int (R1 b), .int (G (4 * q + 3))]) (rest := [.int (nI (8 + a)), .ref rA]) ⟨hx, hb, hml, hown, hg⟩ (c_Mo_made l D cI cZ cJ (nI v) (R1 b) (G (4 * q + 3))) m_Mo_made q728 ⟨rfl, rfl⟩ ⟨Nat.le_of_ble_eq_true rfl, Nat.le_of_ble_eq_true rfl⟩ hK hP [] rfl rfl hl.1 rfl (Nat.le_of_ble_eq_true rfl) d_Mo_target_244 ⟨Nat.zero_le _, Nat.zero_le _⟩ ?_
    refine xa_st hx hb hK hP hD hS 10 0 rfl rfl (kx := 8 + a) (rfl) (by omega) (by decide) d_Mo_target_247 (fun H locs hP hD hS => ?_)
    have hP : va_P D cls [(m0, .inr (5, [.int th, .int (nI n), .ref oA, .ref aA, .ref bB, .ref cC, .int tl, .int (nI k), .ref gA, .ref zA, .ref bA, .ref sR, .ref sD, .ref rA, .ref eC, .ref eA, .ref pA, .ref dA, .ref kA, .ref acA, .int nx])), (oA, .inl (cI, 24, .inl Po)), (aA, .inl (cI, 24, .inl Pa)), (bB, .inl (cI, 24, .inl Pb)), (cC, .inl (cI, 24, .inl Pc)), (gA, .inl (cI, 1600, .inl G)), (zA, .inl (cZ, 400, .inl O)), (bA, .inl (cI, 25, .inl B)), (sR, .inl (cI, 8, .inl sr)), (sD, .inl (cI, 32, .inl sd)), (rA, .inl (cI, 16, .inl (upd (tm_jn 8 R0 R1) (8 + a) (tm_mk (nI v) (R1 b) (G (4 * q + 3)))))), (eC, .inl (cI, 128, .inl (tm_jn 64 C0 C1))), (eA, .inl (cI, 2, .inl (tm_tw e0 e1))), (pA, .inl (cI, 2, .inl (tm_tw h0 (nI (q + 1))))), (dA, .inl (cI, 2, .inl (tm_tw d0 (d1 + 1)))), (kA, .inl (cI, 2, .inl (tm_tw (nI k0) (nI k1)))), (acA, .inl (cI, 240, .inl (tm_jn 120 A0 A1)))] H := hP
    have hD : va_D A [(m0, .inr (5, [.int th, .int (nI n), .ref oA, .ref aA, .ref bB, .ref cC, .int tl, .int (nI k), .ref gA, .ref zA, .ref bA, .ref sR, .ref sD, .ref rA, .ref eC, .ref eA, .ref pA, .ref dA, .ref kA, .ref acA, .int nx])), (oA, .inl (cI, 24, .inl Po)), (aA, .inl (cI, 24, .inl Pa)), (bB, .inl (cI, 24, .inl Pb)), (cC, .inl (cI, 24, .inl Pc)), (gA, .inl (cI, 1600, .inl G)), (zA, .inl (cZ, 400, .inl O)), (bA, .inl (cI, 25, .inl B)), (sR, .inl (cI, 8, .inl sr)), (sD, .inl (cI, 32, .inl sd)), (rA, .inl (cI, 16, .inl (upd (tm_jn 8 R0 R1) (8 + a) (tm_mk (nI v) (R1 b) (G (4 * q + 3)))))), (eC, .inl (cI, 128, .inl (tm_jn 64 C0 C1))), (eA, .inl (cI, 2, .inl (tm_tw e0 e1))), (pA, .inl (cI, 2, .inl (tm_tw h0 (nI (q + 1))))), (dA, .inl (cI, 2, .inl (tm_tw d0 (d1 + 1)))), (kA, .inl (cI, 2, .inl (tm_tw (nI k0) (nI k1)))), (acA, .inl (cI, 240, .inl (tm_jn 120 A0 A1)))] := hD
    rw [show (8 + a) = 8 + a by omega, tm_jn_uh] at hP hD
    have hP : va_P D cls [(m0, .inr (5, [.int th, .int (nI n), .ref oA, .ref aA, .ref bB, .ref cC, .int tl, .int (nI k), .ref gA, .ref zA, .ref bA, .ref sR, .ref sD, .ref rA, .ref eC, .ref eA, .ref pA, .ref dA, .ref kA, .ref acA, .int nx])), (oA, .inl (cI, 24, .inl Po)), (aA, .inl (cI, 24, .inl Pa)), (bB, .inl (cI, 24, .inl Pb)), (cC, .inl (cI, 24, .inl Pc)), (gA, .inl (cI, 1600, .inl G)), (zA, .inl (cZ, 400, .inl O)), (bA, .inl (cI, 25, .inl B)), (sR, .inl (cI, 8, .inl sr)), (sD, .inl (cI, 32, .inl sd)), (rA, .inl (cI, 16, .inl (tm_jn 8 R0 (upd R1 a (tm_mk (nI v) (R1 b) (G (4 * q + 3))))))), (eC, .inl (cI, 128, .inl (tm_jn 64 C0 C1))), (eA, .inl (cI, 2, .inl (tm_tw e0 e1))), (pA, .inl (cI, 2, .inl (tm_tw h0 (nI (q + 1))))), (dA, .inl (cI, 2, .inl (tm_tw d0 (d1 + 1)))), (kA, .inl (cI, 2, .inl (tm_tw (nI k0) (nI k1)))), (acA, .inl (cI, 240, .inl (tm_jn 120 A0 A1)))] H := hP
    have hD : va_D A [(m0, .inr (5, [.int th, .int (nI n), .ref oA, .ref aA, .ref bB, .ref cC, .int tl, .int (nI k), .ref gA, .ref zA, .ref bA, .ref sR, .ref sD, .ref rA, .ref eC, .ref eA, .ref pA, .ref dA, .ref kA, .ref acA, .int nx])), (oA, .inl (cI, 24, .inl Po)), (aA, .inl (cI, 24, .inl Pa)), (bB, .inl (cI, 24, .inl Pb)), (cC, .inl (cI, 24, .inl Pc)), (gA, .inl (cI, 1600, .inl G)), (zA, .inl (cZ, 400, .inl O)), (bA, .inl (cI, 25, .inl B)), (sR, .inl (cI, 8, .inl sr)), (sD, .inl (cI, 32, .inl sd)), (rA, .inl (cI, 16, .inl (tm_jn 8 R0 (upd R1 a (tm_mk (nI v) (R1 b) (G (4 * q + 3))))))), (eC, .inl (cI, 128, .inl (tm_jn 64 C0 C1))), (eA, .inl (cI, 2, .inl (tm_tw e0 e1))), (pA, .inl (cI, 2, .inl (tm_tw h0 (nI (q + 1))))), (dA, .inl (cI, 2, .inl (tm_tw d0 (d1 + 1)))), (kA, .inl (cI, 2, .inl (tm_tw (nI k0) (nI k1)))), (acA, .inl (cI, 240, .inl (tm_jn 120 A0 A1)))] := hD
    refine lv_goto (tgt := 315) hx hb d_Mo_target_248 rfl ?_
    refine lv_aload_n hx hb d_Mo_target_315 rfl (lv_at hl 8 rfl) ?_
    refine va_get (D := D) (ci := 5) (v := .ref rA) (C := R_Mo) (T := F_Mo) (N := 21) hx hb hg f_Mo hown hK.1 hP 0 rfl rfl 13 (by decide) (hg _ q576) (fun _ h9 => h9) rfl d_Mo_target_316 ?_
    refine lv_bipush (v := 8) hx hb d_Mo_target_319 (by decide) ?_
    refine lv_iconst (v := 0) hx hb d_Mo_target_321 (by decide) ?_
    refine xa_st hx hb hK hP hD hS 10 0 rfl rfl (kx := 8) (rfl) (by decide) (by decide) d_Mo_target_322 (fun H locs hP hD hS => ?_)
    have hP : va_P D cls [(m0, .inr (5, [.int th, .int (nI n), .ref oA, .ref aA, .ref bB, .ref cC, .int tl, .int (nI k), .ref gA, .ref zA, .ref bA, .ref sR, .ref sD, .ref rA, .ref eC, .ref eA, .ref pA, .ref dA, .ref kA, .ref acA, .int nx])), (oA, .inl (cI, 24, .inl Po)), (aA, .inl (cI, 24, .inl Pa)), (bB, .inl (cI, 24, .inl Pb)), (cC, .inl (cI, 24, .inl Pc)), (gA, .inl (cI, 1600, .inl G)), (zA, .inl (cZ, 400, .inl O)), (bA, .inl (cI, 25, .inl B)), (sR, .inl (cI, 8, .inl sr)), (sD, .inl (cI, 32, .inl sd)), (rA, .inl (cI, 16, .inl (upd (tm_jn 8 R0 (upd R1 a (tm_mk (nI v) (R1 b) (G (4 * q + 3))))) 8 0))), (eC, .inl (cI, 128, .inl (tm_jn 64 C0 C1))), (eA, .inl (cI, 2, .inl (tm_tw e0 e1))), (pA, .inl (cI, 2, .inl (tm_tw h0 (nI (q + 1))))), (dA, .inl (cI, 2, .inl (tm_tw d0 (d1 + 1)))), (kA, .inl (cI, 2, .inl (tm_tw (nI k0) (nI k1)))), (acA, .inl (cI, 240, .inl (tm_jn 120 A0 A1)))] H := hP
    have hD : va_D A [(m0, .inr (5, [.int th, .int (nI n), .ref oA, .ref aA, .ref bB, .ref cC, .int tl, .int (nI k), .ref gA, .ref zA, .ref bA, .ref sR, .ref sD, .ref rA, .ref eC, .ref eA, .ref pA, .ref dA, .ref kA, .ref acA, .int nx])), (oA, .inl (cI, 24, .inl Po)), (aA, .inl (cI, 24, .inl Pa)), (bB, .inl (cI, 24, .inl Pb)), (cC, .inl (cI, 24, .inl Pc)), (gA, .inl (cI, 1600, .inl G)), (zA, .inl (cZ, 400, .inl O)), (bA, .inl (cI, 25, .inl B)), (sR, .inl (cI, 8, .inl sr)), (sD, .inl (cI, 32, .inl sd)), (rA, .inl (cI, 16, .inl (upd (tm_jn 8 R0 (upd R1 a (tm_mk (nI v) (R1 b) (G (4 * q + 3))))) 8 0))), (eC, .inl (cI, 128, .inl (tm_jn 64 C0 C1))), (eA, .inl (cI, 2, .inl (tm_tw e0 e1))), (pA, .inl (cI, 2, .inl (tm_tw h0 (nI (q + 1))))), (dA, .inl (cI, 2, .inl (tm_tw d0 (d1 + 1)))), (kA, .inl (cI, 2, .inl (tm_tw (nI k0) (nI k1)))), (acA, .inl (cI, 240, .inl (tm_jn 120 A0 A1)))] := hD
    rw [show 8 = 8 + 0 by omega, tm_jn_uh] at hP hD
    have hP : va_P D cls [(m0, .inr (5, [.int th, .int (nI n), .ref oA, .ref aA, .ref bB, .ref cC, .int tl, .int (nI k), .ref gA, .ref zA, .ref bA, .ref sR, .ref sD, .ref rA, .ref eC, .ref eA, .ref pA, .ref dA, .ref kA, .ref acA, .int nx])), (oA, .inl (cI, 24, .inl Po)), (aA, .inl (cI, 24, .inl Pa)), (bB, .inl (cI, 24, .inl Pb)), (cC, .inl (cI, 24, .inl Pc)), (gA, .inl (cI, 1600, .inl G)), (zA, .inl (cZ, 400, .inl O)), (bA, .inl (cI, 25, .inl B)), (sR, .inl (cI, 8, .inl sr)), (sD, .inl (cI, 32, .inl sd)), (rA, .inl (cI, 16, .inl (tm_jn 8 R0 (upd (upd R1 a (tm_mk (nI v) (R1 b) (G (4 * q + 3)))) 0 0)))), (eC, .inl (cI, 128, .inl (tm_jn 64 C0 C1))), (eA, .inl (cI, 2, .inl (tm_tw e0 e1))), (pA, .inl (cI, 2, .inl (tm_tw h0 (nI (q + 1))))), (dA, .inl (cI, 2, .inl (tm_tw d0 (d1 + 1)))), (kA, .inl (cI, 2, .inl (tm_tw (nI k0) (nI k1)))), (acA, .inl (cI, 240, .inl (tm_jn 120 A0 A1)))] H := hP
    have hD : va_D A [(m0, .inr (5, [.int th, .int (nI n), .ref oA, .ref aA, .ref bB, .ref cC, .int tl, .int (nI k), .ref gA, .ref zA, .ref bA, .ref sR, .ref sD, .ref rA, .ref eC, .ref eA, .ref pA, .ref dA, .ref kA, .ref acA, .int nx])), (oA, .inl (cI, 24, .inl Po)), (aA, .inl (cI, 24, .inl Pa)), (bB, .inl (cI, 24, .inl Pb)), (cC, .inl (cI, 24, .inl Pc)), (gA, .inl (cI, 1600, .inl G)), (zA, .inl (cZ, 400, .inl O)), (bA, .inl (cI, 25, .inl B)), (sR, .inl (cI, 8, .inl sr)), (sD, .inl (cI, 32, .inl sd)), (rA, .inl (cI, 16, .inl (tm_jn 8 R0 (upd (upd R1 a (tm_mk (nI v) (R1 b) (G (4 * q + 3)))) 0 0)))), (eC, .inl (cI, 128, .inl (tm_jn 64 C0 C1))), (eA, .inl (cI, 2, .inl (tm_tw e0 e1))), (pA, .inl (cI, 2, .inl (tm_tw h0 (nI (q + 1))))), (dA, .inl (cI, 2, .inl (tm_tw d0 (d1 + 1)))), (kA, .inl (cI, 2, .inl (tm_tw (nI k0) (nI k1)))), (acA, .inl (cI, 240, .inl (tm_jn 120 A0 A1)))] := hD
    have ew1_1 : (upd (upd R1 a (tm_mk (nI v) (R1 b) (G (4 * q + 3)))) 0 0) = ((tm_ts G q (R1, C1, A1, k1, nI q, d1, e1, x1)).1) := by rw [tm_set_m hR0 ha8]; simp [tm_ts, tm_alu, tm_mk, tm_calc, hv, ha, hbb, hc_b, f13, ee0, ee5, ee6, ee7, ee8, ee9, ee10, ee11, ee12, ee13, f7, f9, f4]
    have ew1 : tm_jn 8 R0 (upd (upd R1 a (tm_mk (nI v) (R1 b) (G (4 * q + 3)))) 0 0) = tm_jn 8 R0 ((tm_ts G q (R1, C1, A1, k1, nI q, d1, e1, x1)).1) := congr (congrArg (tm_jn 8) rfl) ew1_1
    have ew2_1 : C1 = ((tm_ts G q (R1, C1, A1, k1, nI q, d1, e1, x1)).2.1) := by first | rfl | (simp [tm_ts, hv, f13, ee0, ee5, ee6, ee7, ee8, ee9, ee10, ee11, ee12, ee13, f7, f9, f4]; done)
    have ew2 : tm_jn 64 C0 C1 = tm_jn 64 C0 ((tm_ts G q (R1, C1, A1, k1, nI q, d1, e1, x1)).2.1) := congr (congrArg (tm_jn 64) rfl) ew2_1
    have ew3_1 : e1 = ((tm_ts G q (R1, C1, A1, k1, nI q, d1, e1, x1)).2.2.2.2.2.2.1) := by first | rfl | (simp [tm_ts, hv, f13, ee0, ee5, ee6, ee7, ee8, ee9, ee10, ee11, ee12, ee13, f7, f9, f4]; done)
    have ew3 : tm_tw e0 e1 = tm_tw e0 ((tm_ts G q (R1, C1, A1, k1, nI q, d1, e1, x1)).2.2.2.2.2.2.1) := congr (congrArg (tm_tw) rfl) ew3_1
    have ew4_1 : (nI (q + 1)) = ((tm_ts G q (R1, C1, A1, k1, nI q, d1, e1, x1)).2.2.2.2.1) := by first | rfl | (simp [tm_ts, hv, f13, ee0, ee5, ee6, ee7, ee8, ee9, ee10, ee11, ee12, ee13, f7, f9, f4]; done)
    have ew4 : tm_tw h0 (nI (q + 1)) = tm_tw h0 ((tm_ts G q (R1, C1, A1, k1, nI q, d1, e1, x1)).2.2.2.2.1) := congr (congrArg (tm_tw) rfl) ew4_1
    have ew5_1 : (d1 + 1) = ((tm_ts G q (R1, C1, A1, k1, nI q, d1, e1, x1)).2.2.2.2.2.1) := by first | rfl | (simp [tm_ts, hv, f13, ee0, ee5, ee6, ee7, ee8, ee9, ee10, ee11, ee12, ee13, f7, f9, f4]; done)
    have ew5 : tm_tw d0 (d1 + 1) = tm_tw d0 ((tm_ts G q (R1, C1, A1, k1, nI q, d1, e1, x1)).2.2.2.2.2.1) := congr (congrArg (tm_tw) rfl) ew5_1
    have ew6_1 : (nI k1) = (nI (tm_ts G q (R1, C1, A1, k1, nI q, d1, e1, x1)).2.2.2.1) := congrArg nI (by first | (simp [tm_ts, hv, f13, ee0, ee5, ee6, ee7, ee8, ee9, ee10, ee11, ee12, ee13, f7, f9, f4]; done) | (simp [tm_ts, hv, f13, ee0, ee5, ee6, ee7, ee8, ee9, ee10, ee11, ee12, ee13, f7, f9, f4]; omega) | omega)
    have ew6 : tm_tw (nI k0) (nI k1) = tm_tw (nI k0) (nI (tm_ts G q (R1, C1, A1, k1, nI q, d1, e1, x1)).2.2.2.1) := congr (congrArg (tm_tw) rfl) ew6_1
    have ew7_1 : A1 = ((tm_ts G q (R1, C1, A1, k1, nI q, d1, e1, x1)).2.2.1) := by first | rfl | (simp [tm_ts, hv, f13, ee0, ee5, ee6, ee7, ee8, ee9, ee10, ee11, ee12, ee13, f7, f9, f4]; done)
    have ew7 : tm_jn 120 A0 A1 = tm_jn 120 A0 ((tm_ts G q (R1, C1, A1, k1, nI q, d1, e1, x1)).2.2.1) := congr (congrArg (tm_jn 120) rfl) ew7_1
    have hP : va_P D cls [(m0, .inr (5, [.int th, .int (nI n), .ref oA, .ref aA, .ref bB, .ref cC, .int tl, .int (nI k), .ref gA, .ref zA, .ref bA, .ref sR, .ref sD, .ref rA, .ref eC, .ref eA, .ref pA, .ref dA, .ref kA, .ref acA, .int nx])), (oA, .inl (cI, 24, .inl Po)), (aA, .inl (cI, 24, .inl Pa)), (bB, .inl (cI, 24, .inl Pb)), (cC, .inl (cI, 24, .inl Pc)), (gA, .inl (cI, 1600, .inl G)), (zA, .inl (cZ, 400, .inl O)), (bA, .inl (cI, 25, .inl B)), (sR, .inl (cI, 8, .inl sr)), (sD, .inl (cI, 32, .inl sd)), (rA, .inl (cI, 16, .inl (tm_jn 8 R0 ((tm_ts G q (R1, C1, A1, k1, nI q, d1, e1, x1)).1)))), (eC, .inl (cI, 128, .inl (tm_jn 64 C0 ((tm_ts G q (R1, C1, A1, k1, nI q, d1, e1, x1)).2.1)))), (eA, .inl (cI, 2, .inl (tm_tw e0 ((tm_ts G q (R1, C1, A1, k1, nI q, d1, e1, x1)).2.2.2.2.2.2.1)))), (pA, .inl (cI, 2, .inl (tm_tw h0 ((tm_ts G q (R1, C1, A1, k1, nI q, d1, e1, x1)).2.2.2.2.1)))), (dA, .inl (cI, 2, .inl (tm_tw d0 ((tm_ts G q (R1, C1, A1, k1, nI q, d1, e1, x1)).2.2.2.2.2.1)))), (kA, .inl (cI, 2, .inl (tm_tw (nI k0) (nI (tm_ts G q (R1, C1, A1, k1, nI q, d1, e1, x1)).2.2.2.1)))), (acA, .inl (cI, 240, .inl (tm_jn 120 A0 ((tm_ts G q (R1, C1, A1, k1, nI q, d1, e1, x1)).2.2.1))))] H := by rw [← ew1, ← ew2, ← ew3, ← ew4, ← ew5, ← ew6, ← ew7]; exact hP
    have hD : va_D A [(m0, .inr (5, [.int th, .int (nI n), .ref oA, .ref aA, .ref bB, .ref cC, .int tl, .int (nI k), .ref gA, .ref zA, .ref bA, .ref sR, .ref sD, .ref rA, .ref eC, .ref eA, .ref pA, .ref dA, .ref kA, .ref acA, .int nx])), (oA, .inl (cI, 24, .inl Po)), (aA, .inl (cI, 24, .inl Pa)), (bB, .inl (cI, 24, .inl Pb)), (cC, .inl (cI, 24, .inl Pc)), (gA, .inl (cI, 1600, .inl G)), (zA, .inl (cZ, 400, .inl O)), (bA, .inl (cI, 25, .inl B)), (sR, .inl (cI, 8, .inl sr)), (sD, .inl (cI, 32, .inl sd)), (rA, .inl (cI, 16, .inl (tm_jn 8 R0 ((tm_ts G q (R1, C1, A1, k1, nI q, d1, e1, x1)).1)))), (eC, .inl (cI, 128, .inl (tm_jn 64 C0 ((tm_ts G q (R1, C1, A1, k1, nI q, d1, e1, x1)).2.1)))), (eA, .inl (cI, 2, .inl (tm_tw e0 ((tm_ts G q (R1, C1, A1, k1, nI q, d1, e1, x1)).2.2.2.2.2.2.1)))), (pA, .inl (cI, 2, .inl (tm_tw h0 ((tm_ts G q (R1, C1, A1, k1, nI q, d1, e1, x1)).2.2.2.2.1)))), (dA, .inl (cI, 2, .inl (tm_tw d0 ((tm_ts G q (R1, C1, A1, k1, nI q, d1, e1, x1)).2.2.2.2.2.1)))), (kA, .inl (cI, 2, .inl (tm_tw (nI k0) (nI (tm_ts G q (R1, C1, A1, k1, nI q, d1, e1, x1)).2.2.2.1)))), (acA, .inl (cI, 240, .inl (tm_jn 120 A0 ((tm_ts G q (R1, C1, A1, k1, nI q, d1, e1, x1)).2.2.1))))] := by rw [← ew1, ← ew2, ← ew3, ← ew4, ← ew5, ← ew6, ← ew7]; exact hD
    exact W.vret hx hb hr (fun t9 ht9 hW9 => ⟨⟨(), rfl, trivial, by rw [ht9]; exact hP, hD⟩, hS.F ht9⟩) hS.2.2 d_Mo_target_323
  · have f13 : ¬ 13 < nI v := nI_nlt (a := 13) (b := v) (by omega) (by decide)
    have ee0 : ¬ nI v = 0 := xn_ne (w := 0) (by omega) (by decide) (by omega)
    have ee5 : ¬ nI v = 5 := xn_ne (w := 5) (by omega) (by decide) (by omega)
    have ee6 : nI v = 6 := by rw [hcase]; rfl
    have ee7 : ¬ nI v = 7 := xn_ne (w := 7) (by omega) (by decide) (by omega)
    have ee8 : ¬ nI v = 8 := xn_ne (w := 8) (by omega) (by decide) (by omega)
    have ee9 : ¬ nI v = 9 := xn_ne (w := 9) (by omega) (by decide) (by omega)
    have ee10 : ¬ nI v = 10 := xn_ne (w := 10) (by omega) (by decide) (by omega)
    have ee11 : ¬ nI v = 11 := xn_ne (w := 11) (by omega) (by decide) (by omega)
    have ee12 : ¬ nI v = 12 := xn_ne (w := 12) (by omega) (by decide) (by omega)
    have ee13 : ¬ nI v = 13 := xn_ne (w := 13) (by omega) (by decide) (by omega)
    have f7 : nI v < 7 := nI_lt (a := v) (b := 7) (by omega) (by decide)
    have f9 : nI v < 9 := nI_lt (a := v) (b := 9) (by omega) (by decide)
    have f4 : 4 < nI v := nI_lt (a := 4) (b := v) (by omega) (by omega)
    refine lv_aload_n hx hb d_Mo_target_0 rfl (lv_at hl 0 rfl) ?_
    refine va_get (D := D) (ci := 5) (v := .ref pA) (C := R_Mo) (T := F_Mo) (N := 21) hx hb hg f_Mo hown hK.1 hP 0 rfl rfl 16 (by decide) (hg _ q579) (fun _ h9 => h9) rfl d_Mo_target_1 ?_
    refine lv_iconst (v := 1) hx hb d_Mo_target_4 (by decide) ?_
    refine xa_ld hx hb hK hP 13 0 rfl rfl (kx := 1) (rfl) (by decide) (by decide) d_Mo_target_5 ?_
    have eq9 : ((tm_tw h0 (nI q)) 1 : Int32) = nI q := rfl
    refine W.eq (g2 := F0 m 6 ls [.int (nI q)]) (by rw [eq9]) ?_
    refine lv_istore_n hx hb d_Mo_target_6 rfl hl (by decide) rfl (fun ls hl => ?_)
    have hl : lv_has ls 9 [(1, .int (nI q)), (0, .ref m0)] := hl
    refine lv_aload_n hx hb d_Mo_target_7 rfl (lv_at hl 1 rfl) ?_
    refine va_get (D := D) (ci := 5) (v := .ref gA) (C := R_Mo) (T := F_Mo) (N := 21) hx hb hg f_Mo hown hK.1 hP 0 rfl rfl 8 (by decide) (hg _ q571) (fun _ h9 => h9) rfl d_Mo_target_8 ?_
    refine lv_iconst (v := 4) hx hb d_Mo_target_11 (by decide) ?_
    refine lv_iload_n hx hb d_Mo_target_12 rfl (lv_at hl 0 rfl) ?_
    refine lv_imul hx hb d_Mo_target_13 ?_
    have eq9 : (4 * (nI q) : Int32) = nI (4 * q) := pk_mul 4 q
    refine W.eq (g2 := F0 m 14 ls [.int (nI (4 * q)), .ref gA]) (by rw [eq9]) ?_
    refine xa_ld hx hb hK hP 5 0 rfl rfl (kx := 4 * q) (rfl) (by omega) (by decide) d_Mo_target_14 ?_
    have eq9 : (G (4 * q) : Int32) = nI v := hv
    refine W.eq (g2 := F0 m 15 ls [.int (nI v)]) (by rw [eq9]) ?_
    refine lv_istore_n hx hb d_Mo_target_15 rfl hl (by decide) rfl (fun ls hl => ?_)
    have hl : lv_has ls 9 [(2, .int (nI v)), (1, .int (nI q)), (0, .ref m0)] := hl
    refine lv_aload_n hx hb d_Mo_target_16 rfl (lv_at hl 2 rfl) ?_
    refine va_get (D := D) (ci := 5) (v := .ref gA) (C := R_Mo) (T := F_Mo) (N := 21) hx hb hg f_Mo hown hK.1 hP 0 rfl rfl 8 (by decide) (hg _ q571) (fun _ h9 => h9) rfl d_Mo_target_17 ?_
    refine lv_iconst (v := 4) hx hb d_Mo_target_20 (by decide) ?_
    refine lv_iload_n hx hb d_Mo_target_21 rfl (lv_at hl 1 rfl) ?_
    refine lv_imul hx hb d_Mo_target_22 ?_
    have eq9 : (4 * (nI q) : Int32) = nI (4 * q) := pk_mul 4 q
    refine W.eq (g2 := F0 m 23 ls [.int (nI (4 * q)), .ref gA]) (by rw [eq9]) ?_
    refine lv_iconst (v := 1) hx hb d_Mo_target_23 (by decide) ?_
    refine lv_iadd hx hb d_Mo_target_24 ?_
    have eq9 : ((nI (4 * q)) + 1 : Int32) = nI (4 * q + 1) := nI_add (4 * q) 1
    refine W.eq (g2 := F0 m 25 ls [.int (nI (4 * q + 1)), .ref gA]) (by rw [eq9]) ?_
    refine xa_ld hx hb hK hP 5 0 rfl rfl (kx := 4 * q + 1) (rfl) (by omega) (by decide) d_Mo_target_25 ?_
    have eq9 : (G (4 * q + 1) : Int32) = nI a := ha
    refine W.eq (g2 := F0 m 26 ls [.int (nI a)]) (by rw [eq9]) ?_
    refine lv_istore_n hx hb d_Mo_target_26 rfl hl (by decide) rfl (fun ls hl => ?_)
    have hl : lv_has ls 9 [(3, .int (nI a)), (2, .int (nI v)), (1, .int (nI q)), (0, .ref m0)] := hl
    refine lv_aload_n hx hb d_Mo_target_27 rfl (lv_at hl 3 rfl) ?_
    refine va_get (D := D) (ci := 5) (v := .ref gA) (C := R_Mo) (T := F_Mo) (N := 21) hx hb hg f_Mo hown hK.1 hP 0 rfl rfl 8 (by decide) (hg _ q571) (fun _ h9 => h9) rfl d_Mo_target_28 ?_
    refine lv_iconst (v := 4) hx hb d_Mo_target_31 (by decide) ?_
    refine lv_iload_n hx hb d_Mo_target_32 rfl (lv_at hl 2 rfl) ?_
    refine lv_imul hx hb d_Mo_target_33 ?_
    have eq9 : (4 * (nI q) : Int32) = nI (4 * q) := pk_mul 4 q
    refine W.eq (g2 := F0 m 34 ls [.int (nI (4 * q)), .ref gA]) (by rw [eq9]) ?_
    refine lv_iconst (v := 2) hx hb d_Mo_target_34 (by decide) ?_
    refine lv_iadd hx hb d_Mo_target_35 ?_
    have eq9 : ((nI (4 * q)) + 2 : Int32) = nI (4 * q + 2) := nI_add (4 * q) 2
    refine W.eq (g2 := F0 m 36 ls [.int (nI (4 * q + 2)), .ref gA]) (by rw [eq9]) ?_
    refine xa_ld hx hb hK hP 5 0 rfl rfl (kx := 4 * q + 2) (rfl) (by omega) (by decide) d_Mo_target_36 ?_
    have eq9 : (G (4 * q + 2) : Int32) = nI b := hbb
    refine W.eq (g2 := F0 m 37 ls [.int (nI b)]) (by rw [eq9]) ?_
    refine lv_istore hx hb d_Mo_target_37 hl (by decide) rfl (fun ls hl => ?_)
    have hl : lv_has ls 9 [(4, .int (nI b)), (3, .int (nI a)), (2, .int (nI v)), (1, .int (nI q)), (0, .ref m0)] := hl
    refine lv_aload_n hx hb d_Mo_target_39 rfl (lv_at hl 4 rfl) ?_
    refine va_get (D := D) (ci := 5) (v := .ref gA) (C := R_Mo) (T := F_Mo) (N := 21) hx hb hg f_Mo hown hK.1 hP 0 rfl rfl 8 (by decide) (hg _ q571) (fun _ h9 => h9) rfl d_Mo_target_40 ?_
    refine lv_iconst (v := 4) hx hb d_Mo_target_43 (by decide) ?_
    refine lv_iload_n hx hb d_Mo_target_44 rfl (lv_at hl 3 rfl) ?_
    refine lv_imul hx hb d_Mo_target_45 ?_
    have eq9 : (4 * (nI q) : Int32) = nI (4 * q) := pk_mul 4 q
    refine W.eq (g2 := F0 m 46 ls [.int (nI (4 * q)), .ref gA]) (by rw [eq9]) ?_
    refine lv_iconst (v := 3) hx hb d_Mo_target_46 (by decide) ?_
    refine lv_iadd hx hb d_Mo_target_47 ?_
    have eq9 : ((nI (4 * q)) + 3 : Int32) = nI (4 * q + 3) := nI_add (4 * q) 3
    refine W.eq (g2 := F0 m 48 ls [.int (nI (4 * q + 3)), .ref gA]) (by rw [eq9]) ?_
    refine xa_ld hx hb hK hP 5 0 rfl rfl (kx := 4 * q + 3) (rfl) (by omega) (by decide) d_Mo_target_48 ?_
    refine lv_istore hx hb d_Mo_target_49 hl (by decide) rfl (fun ls hl => ?_)
    have hl : lv_has ls 9 [(5, .int (G (4 * q + 3))), (4, .int (nI b)), (3, .int (nI a)), (2, .int (nI v)), (1, .int (nI q)), (0, .ref m0)] := hl
    refine lv_aload_n hx hb d_Mo_target_51 rfl (lv_at hl 5 rfl) ?_
    refine va_get (D := D) (ci := 5) (v := .ref rA) (C := R_Mo) (T := F_Mo) (N := 21) hx hb hg f_Mo hown hK.1 hP 0 rfl rfl 13 (by decide) (hg _ q576) (fun _ h9 => h9) rfl d_Mo_target_52 ?_
    refine lv_bipush (v := 8) hx hb d_Mo_target_55 (by decide) ?_
    refine lv_iload_n hx hb d_Mo_target_57 rfl (lv_at hl 2 rfl) ?_
    refine lv_iadd hx hb d_Mo_target_58 ?_
    have eq9 : (8 + (nI a) : Int32) = nI (8 + a) := nI_add 8 a
    refine W.eq (g2 := F0 m 59 ls [.int (nI (8 + a)), .ref rA]) (by rw [eq9]) ?_
    refine xa_ld hx hb hK hP 10 0 rfl rfl (kx := 8 + a) (rfl) (by omega) (by decide) d_Mo_target_59 ?_
    have eq9 : ((tm_jn 8 R0 R1) (8 + a) : Int32) = R1 a := (congrArg (tm_jn 8 R0 R1) (show 8 + a = 8 + a by omega)).trans tm_jn_hi
    refine W.eq (g2 := F0 m 60 ls [.int (R1 a)]) (by rw [eq9]) ?_
    refine lv_istore hx hb d_Mo_target_60 hl (by decide) rfl (fun ls hl => ?_)
    have hl : lv_has ls 9 [(6, .int (R1 a)), (5, .int (G (4 * q + 3))), (4, .int (nI b)), (3, .int (nI a)), (2, .int (nI v)), (1, .int (nI q)), (0, .ref m0)] := hl
    refine lv_aload_n hx hb d_Mo_target_62 rfl (lv_at hl 6 rfl) ?_
    refine va_get (D := D) (ci := 5) (v := .ref rA) (C := R_Mo) (T := F_Mo) (N := 21) hx hb hg f_Mo hown hK.1 hP 0 rfl rfl 13 (by decide) (hg _ q576) (fun _ h9 => h9) rfl d_Mo_target_63 ?_
    refine lv_bipush (v := 8) hx hb d_Mo_target_66 (by decide) ?_
    refine lv_iload hx hb d_Mo_target_68 (lv_at hl 2 rfl) ?_
    refine lv_iadd hx hb d_Mo_target_70 ?_
    have eq9 : (8 + (nI b) : Int32) = nI (8 + b) := nI_add 8 b
    refine W.eq (g2 := F0 m 71 ls [.int (nI (8 + b)), .ref rA]) (by rw [eq9]) ?_
    refine xa_ld hx hb hK hP 10 0 rfl rfl (kx := 8 + b) (rfl) (by omega) (by decide) d_Mo_target_71 ?_
    have eq9 : ((tm_jn 8 R0 R1) (8 + b) : Int32) = R1 b := (congrArg (tm_jn 8 R0 R1) (show 8 + b = 8 + b by omega)).trans tm_jn_hi
    refine W.eq (g2 := F0 m 72 ls [.int (R1 b)]) (by rw [eq9]) ?_
    refine lv_istore hx hb d_Mo_target_72 hl (by decide) rfl (fun ls hl => ?_)
    have hl : lv_has ls 9 [(7, .int (R1 b)), (6, .int (R1 a)), (5, .int (G (4 * q + 3))), (4, .int (nI b)), (3, .int (nI a)), (2, .int (nI v)), (1, .int (nI q)), (0, .ref m0)] := hl
    refine lv_aload_n hx hb d_Mo_target_74 rfl (lv_at hl 7 rfl) ?_
    refine va_get (D := D) (ci := 5) (v := .ref dA) (C := R_Mo) (T := F_Mo) (N := 21) hx hb hg f_Mo hown hK.1 hP 0 rfl rfl 17 (by decide) (hg _ q580) (fun _ h9 => h9) rfl d_Mo_target_75 ?_
    refine lv_iconst (v := 1) hx hb d_Mo_target_78 (by decide) ?_
    refine lv_dup2_11 hx hb d_Mo_target_79 rfl rfl ?_
    refine xa_ld hx hb hK hP 14 0 rfl rfl (kx := 1) (rfl) (by decide) (by decide) d_Mo_target_80 ?_
    have eq9 : ((tm_tw d0 d1) 1 : Int32) = d1 := rfl
    refine W.eq (g2 := F0 m 81 ls [.int d1, .int 1, .ref dA]) (by rw [eq9]) ?_
    refine lv_iconst (v := 1) hx hb d_Mo_target_81 (by decide) ?_
    refine lv_iadd hx hb d_Mo_target_82 ?_
    refine xa_st hx hb hK hP hD hS 14 0 rfl rfl (kx := 1) (rfl) (by decide) (by decide) d_Mo_target_83 (fun H locs hP hD hS => ?_)
    have hP : va_P D cls [(m0, .inr (5, [.int th, .int (nI n), .ref oA, .ref aA, .ref bB, .ref cC, .int tl, .int (nI k), .ref gA, .ref zA, .ref bA, .ref sR, .ref sD, .ref rA, .ref eC, .ref eA, .ref pA, .ref dA, .ref kA, .ref acA, .int nx])), (oA, .inl (cI, 24, .inl Po)), (aA, .inl (cI, 24, .inl Pa)), (bB, .inl (cI, 24, .inl Pb)), (cC, .inl (cI, 24, .inl Pc)), (gA, .inl (cI, 1600, .inl G)), (zA, .inl (cZ, 400, .inl O)), (bA, .inl (cI, 25, .inl B)), (sR, .inl (cI, 8, .inl sr)), (sD, .inl (cI, 32, .inl sd)), (rA, .inl (cI, 16, .inl (tm_jn 8 R0 R1))), (eC, .inl (cI, 128, .inl (tm_jn 64 C0 C1))), (eA, .inl (cI, 2, .inl (tm_tw e0 e1))), (pA, .inl (cI, 2, .inl (tm_tw h0 (nI q)))), (dA, .inl (cI, 2, .inl (upd (tm_tw d0 d1) 1 (d1 + 1)))), (kA, .inl (cI, 2, .inl (tm_tw (nI k0) (nI k1)))), (acA, .inl (cI, 240, .inl (tm_jn 120 A0 A1)))] H := hP
    have hD : va_D A [(m0, .inr (5, [.int th, .int (nI n), .ref oA, .ref aA, .ref bB, .ref cC, .int tl, .int (nI k), .ref gA, .ref zA, .ref bA, .ref sR, .ref sD, .ref rA, .ref eC, .ref eA, .ref pA, .ref dA, .ref kA, .ref acA, .int nx])), (oA, .inl (cI, 24, .inl Po)), (aA, .inl (cI, 24, .inl Pa)), (bB, .inl (cI, 24, .inl Pb)), (cC, .inl (cI, 24, .inl Pc)), (gA, .inl (cI, 1600, .inl G)), (zA, .inl (cZ, 400, .inl O)), (bA, .inl (cI, 25, .inl B)), (sR, .inl (cI, 8, .inl sr)), (sD, .inl (cI, 32, .inl sd)), (rA, .inl (cI, 16, .inl (tm_jn 8 R0 R1))), (eC, .inl (cI, 128, .inl (tm_jn 64 C0 C1))), (eA, .inl (cI, 2, .inl (tm_tw e0 e1))), (pA, .inl (cI, 2, .inl (tm_tw h0 (nI q)))), (dA, .inl (cI, 2, .inl (upd (tm_tw d0 d1) 1 (d1 + 1)))), (kA, .inl (cI, 2, .inl (tm_tw (nI k0) (nI k1)))), (acA, .inl (cI, 240, .inl (tm_jn 120 A0 A1)))] := hD
    have hD := xa_D (e2 := .inl (cI, 2, .inl (tm_tw d0 (d1 + 1)))) hD 14 rfl
    have hP := xa_P (g := tm_tw d0 (d1 + 1)) hP 14 rfl (tm_tw_c)
    have hP : va_P D cls [(m0, .inr (5, [.int th, .int (nI n), .ref oA, .ref aA, .ref bB, .ref cC, .int tl, .int (nI k), .ref gA, .ref zA, .ref bA, .ref sR, .ref sD, .ref rA, .ref eC, .ref eA, .ref pA, .ref dA, .ref kA, .ref acA, .int nx])), (oA, .inl (cI, 24, .inl Po)), (aA, .inl (cI, 24, .inl Pa)), (bB, .inl (cI, 24, .inl Pb)), (cC, .inl (cI, 24, .inl Pc)), (gA, .inl (cI, 1600, .inl G)), (zA, .inl (cZ, 400, .inl O)), (bA, .inl (cI, 25, .inl B)), (sR, .inl (cI, 8, .inl sr)), (sD, .inl (cI, 32, .inl sd)), (rA, .inl (cI, 16, .inl (tm_jn 8 R0 R1))), (eC, .inl (cI, 128, .inl (tm_jn 64 C0 C1))), (eA, .inl (cI, 2, .inl (tm_tw e0 e1))), (pA, .inl (cI, 2, .inl (tm_tw h0 (nI q)))), (dA, .inl (cI, 2, .inl (tm_tw d0 (d1 + 1)))), (kA, .inl (cI, 2, .inl (tm_tw (nI k0) (nI k1)))), (acA, .inl (cI, 240, .inl (tm_jn 120 A0 A1)))] H := hP
    have hD : va_D A [(m0, .inr (5, [.int th, .int (nI n), .ref oA, .ref aA, .ref bB, .ref cC, .int tl, .int (nI k), .ref gA, .ref zA, .ref bA, .ref sR, .ref sD, .ref rA, .ref eC, .ref eA, .ref pA, .ref dA, .ref kA, .ref acA, .int nx])), (oA, .inl (cI, 24, .inl Po)), (aA, .inl (cI, 24, .inl Pa)), (bB, .inl (cI, 24, .inl Pb)), (cC, .inl (cI, 24, .inl Pc)), (gA, .inl (cI, 1600, .inl G)), (zA, .inl (cZ, 400, .inl O)), (bA, .inl (cI, 25, .inl B)), (sR, .inl (cI, 8, .inl sr)), (sD, .inl (cI, 32, .inl sd)), (rA, .inl (cI, 16, .inl (tm_jn 8 R0 R1))), (eC, .inl (cI, 128, .inl (tm_jn 64 C0 C1))), (eA, .inl (cI, 2, .inl (tm_tw e0 e1))), (pA, .inl (cI, 2, .inl (tm_tw h0 (nI q)))), (dA, .inl (cI, 2, .inl (tm_tw d0 (d1 + 1)))), (kA, .inl (cI, 2, .inl (tm_tw (nI k0) (nI k1)))), (acA, .inl (cI, 240, .inl (tm_jn 120 A0 A1)))] := hD
    refine lv_iload_n hx hb d_Mo_target_84 rfl (lv_at hl 5 rfl) ?_
    refine lv_if_ne (tgt := 105) hx hb d_Mo_target_85 rfl (fun _ => ?_) (fun hz9 => absurd hz9 (ee0))
    refine lv_iload_n hx hb d_Mo_target_105 rfl (lv_at hl 5 rfl) ?_
    refine lv_bipush (v := 9) hx hb d_Mo_target_106 (by decide) ?_
    refine lv_icmp_ne (tgt := 118) hx hb d_Mo_target_108 rfl (fun _ => ?_) (fun hz9 => absurd hz9 (ee9))
    refine lv_iload_n hx hb d_Mo_target_118 rfl (lv_at hl 5 rfl) ?_
    refine lv_bipush (v := 10) hx hb d_Mo_target_119 (by decide) ?_
    refine lv_icmp_ne (tgt := 131) hx hb d_Mo_target_121 rfl (fun _ => ?_) (fun hz9 => absurd hz9 (ee10))
    refine lv_iload_n hx hb d_Mo_target_131 rfl (lv_at hl 5 rfl) ?_
    refine lv_bipush (v := 11) hx hb d_Mo_target_132 (by decide) ?_
    refine lv_icmp_eq (tgt := 156) hx hb d_Mo_target_134 rfl (fun hz9 => absurd hz9 (ee11)) (fun _ => ?_)
    refine lv_iload_n hx hb d_Mo_target_137 rfl (lv_at hl 5 rfl) ?_
    refine lv_bipush (v := 12) hx hb d_Mo_target_138 (by decide) ?_
    refine lv_icmp_ne (tgt := 160) hx hb d_Mo_target_140 rfl (fun _ => ?_) (fun hz9 => absurd hz9 (ee12))
    refine lv_iconst (v := 0) hx hb d_Mo_target_160 (by decide) ?_
    refine lv_istore hx hb d_Mo_target_161 hl (by decide) rfl (fun ls hl => ?_)
    have hl : lv_has ls 9 [(8, .int 0), (7, .int (R1 b)), (6, .int (R1 a)), (5, .int (G (4 * q + 3))), (4, .int (nI b)), (3, .int (nI a)), (2, .int (nI v)), (1, .int (nI q)), (0, .ref m0)] := hl
    refine lv_aload_n hx hb d_Mo_target_163 rfl (lv_at hl 8 rfl) ?_
    refine va_get (D := D) (ci := 5) (v := .ref pA) (C := R_Mo) (T := F_Mo) (N := 21) hx hb hg f_Mo hown hK.1 hP 0 rfl rfl 16 (by decide) (hg _ q579) (fun _ h9 => h9) rfl d_Mo_target_164 ?_
    refine lv_iconst (v := 1) hx hb d_Mo_target_167 (by decide) ?_
    refine lv_iload hx hb d_Mo_target_168 (lv_at hl 0 rfl) ?_
    refine lv_if_eq (tgt := 178) hx hb d_Mo_target_170 rfl (fun _ => ?_) (fun hz9 => absurd (by decide) hz9)
    refine lv_iload_n hx hb d_Mo_target_178 rfl (lv_at hl 6 rfl) ?_
    refine lv_bipush (v := 13) hx hb d_Mo_target_179 (by decide) ?_
    refine lv_icmp_ne (tgt := 189) hx hb d_Mo_target_181 rfl (fun _ => ?_) (fun hz9 => absurd hz9 (ee13))
    refine lv_iload_n hx hb d_Mo_target_189 rfl (lv_at hl 7 rfl) ?_
    refine lv_iconst (v := 1) hx hb d_Mo_target_190 (by decide) ?_
    refine lv_iadd hx hb d_Mo_target_191 ?_
    have eq9 : ((nI q) + 1 : Int32) = nI (q + 1) := nI_add q 1
    refine W.eq (g2 := F0 m 192 ls [.int (nI (q + 1)), .int 1, .ref pA]) (by rw [eq9]) ?_
    refine xa_st hx hb hK hP hD hS 13 0 rfl rfl (kx := 1) (rfl) (by decide) (by decide) d_Mo_target_192 (fun H locs hP hD hS => ?_)
    have hP : va_P D cls [(m0, .inr (5, [.int th, .int (nI n), .ref oA, .ref aA, .ref bB, .ref cC, .int tl, .int (nI k), .ref gA, .ref zA, .ref bA, .ref sR, .ref sD, .ref rA, .ref eC, .ref eA, .ref pA, .ref dA, .ref kA, .ref acA, .int nx])), (oA, .inl (cI, 24, .inl Po)), (aA, .inl (cI, 24, .inl Pa)), (bB, .inl (cI, 24, .inl Pb)), (cC, .inl (cI, 24, .inl Pc)), (gA, .inl (cI, 1600, .inl G)), (zA, .inl (cZ, 400, .inl O)), (bA, .inl (cI, 25, .inl B)), (sR, .inl (cI, 8, .inl sr)), (sD, .inl (cI, 32, .inl sd)), (rA, .inl (cI, 16, .inl (tm_jn 8 R0 R1))), (eC, .inl (cI, 128, .inl (tm_jn 64 C0 C1))), (eA, .inl (cI, 2, .inl (tm_tw e0 e1))), (pA, .inl (cI, 2, .inl (upd (tm_tw h0 (nI q)) 1 (nI (q + 1))))), (dA, .inl (cI, 2, .inl (tm_tw d0 (d1 + 1)))), (kA, .inl (cI, 2, .inl (tm_tw (nI k0) (nI k1)))), (acA, .inl (cI, 240, .inl (tm_jn 120 A0 A1)))] H := hP
    have hD : va_D A [(m0, .inr (5, [.int th, .int (nI n), .ref oA, .ref aA, .ref bB, .ref cC, .int tl, .int (nI k), .ref gA, .ref zA, .ref bA, .ref sR, .ref sD, .ref rA, .ref eC, .ref eA, .ref pA, .ref dA, .ref kA, .ref acA, .int nx])), (oA, .inl (cI, 24, .inl Po)), (aA, .inl (cI, 24, .inl Pa)), (bB, .inl (cI, 24, .inl Pb)), (cC, .inl (cI, 24, .inl Pc)), (gA, .inl (cI, 1600, .inl G)), (zA, .inl (cZ, 400, .inl O)), (bA, .inl (cI, 25, .inl B)), (sR, .inl (cI, 8, .inl sr)), (sD, .inl (cI, 32, .inl sd)), (rA, .inl (cI, 16, .inl (tm_jn 8 R0 R1))), (eC, .inl (cI, 128, .inl (tm_jn 64 C0 C1))), (eA, .inl (cI, 2, .inl (tm_tw e0 e1))), (pA, .inl (cI, 2, .inl (upd (tm_tw h0 (nI q)) 1 (nI (q + 1))))), (dA, .inl (cI, 2, .inl (tm_tw d0 (d1 + 1)))), (kA, .inl (cI, 2, .inl (tm_tw (nI k0) (nI k1)))), (acA, .inl (cI, 240, .inl (tm_jn 120 A0 A1)))] := hD
    have hD := xa_D (e2 := .inl (cI, 2, .inl (tm_tw h0 (nI (q + 1))))) hD 13 rfl
    have hP := xa_P (g := tm_tw h0 (nI (q + 1))) hP 13 rfl (tm_tw_c)
    have hP : va_P D cls [(m0, .inr (5, [.int th, .int (nI n), .ref oA, .ref aA, .ref bB, .ref cC, .int tl, .int (nI k), .ref gA, .ref zA, .ref bA, .ref sR, .ref sD, .ref rA, .ref eC, .ref eA, .ref pA, .ref dA, .ref kA, .ref acA, .int nx])), (oA, .inl (cI, 24, .inl Po)), (aA, .inl (cI, 24, .inl Pa)), (bB, .inl (cI, 24, .inl Pb)), (cC, .inl (cI, 24, .inl Pc)), (gA, .inl (cI, 1600, .inl G)), (zA, .inl (cZ, 400, .inl O)), (bA, .inl (cI, 25, .inl B)), (sR, .inl (cI, 8, .inl sr)), (sD, .inl (cI, 32, .inl sd)), (rA, .inl (cI, 16, .inl (tm_jn 8 R0 R1))), (eC, .inl (cI, 128, .inl (tm_jn 64 C0 C1))), (eA, .inl (cI, 2, .inl (tm_tw e0 e1))), (pA, .inl (cI, 2, .inl (tm_tw h0 (nI (q + 1))))), (dA, .inl (cI, 2, .inl (tm_tw d0 (d1 + 1)))), (kA, .inl (cI, 2, .inl (tm_tw (nI k0) (nI k1)))), (acA, .inl (cI, 240, .inl (tm_jn 120 A0 A1)))] H := hP
    have hD : va_D A [(m0, .inr (5, [.int th, .int (nI n), .ref oA, .ref aA, .ref bB, .ref cC, .int tl, .int (nI k), .ref gA, .ref zA, .ref bA, .ref sR, .ref sD, .ref rA, .ref eC, .ref eA, .ref pA, .ref dA, .ref kA, .ref acA, .int nx])), (oA, .inl (cI, 24, .inl Po)), (aA, .inl (cI, 24, .inl Pa)), (bB, .inl (cI, 24, .inl Pb)), (cC, .inl (cI, 24, .inl Pc)), (gA, .inl (cI, 1600, .inl G)), (zA, .inl (cZ, 400, .inl O)), (bA, .inl (cI, 25, .inl B)), (sR, .inl (cI, 8, .inl sr)), (sD, .inl (cI, 32, .inl sd)), (rA, .inl (cI, 16, .inl (tm_jn 8 R0 R1))), (eC, .inl (cI, 128, .inl (tm_jn 64 C0 C1))), (eA, .inl (cI, 2, .inl (tm_tw e0 e1))), (pA, .inl (cI, 2, .inl (tm_tw h0 (nI (q + 1))))), (dA, .inl (cI, 2, .inl (tm_tw d0 (d1 + 1)))), (kA, .inl (cI, 2, .inl (tm_tw (nI k0) (nI k1)))), (acA, .inl (cI, 240, .inl (tm_jn 120 A0 A1)))] := hD
    refine lv_iload_n hx hb d_Mo_target_193 rfl (lv_at hl 6 rfl) ?_
    refine lv_iconst (v := 5) hx hb d_Mo_target_194 (by decide) ?_
    refine lv_icmp_ge (tgt := 226) hx hb d_Mo_target_195 rfl (fun _ => ?_) (fun hz9 => absurd (nI_le (a := 5) (b := v) (by omega) (by omega)) hz9)
    refine lv_iload_n hx hb d_Mo_target_226 rfl (lv_at hl 6 rfl) ?_
    refine lv_iconst (v := 5) hx hb d_Mo_target_227 (by decide) ?_
    refine lv_icmp_ne (tgt := 251) hx hb d_Mo_target_228 rfl (fun _ => ?_) (fun hz9 => absurd hz9 (ee5))
    refine lv_iload_n hx hb d_Mo_target_251 rfl (lv_at hl 6 rfl) ?_
    refine lv_bipush (v := 6) hx hb d_Mo_target_252 (by decide) ?_
    refine lv_icmp_ne (tgt := 278) hx hb d_Mo_target_254 rfl (fun hz9 => absurd (ee6) hz9) (fun _ => ?_)
    refine lv_aload_n hx hb d_Mo_target_257 rfl (lv_at hl 8 rfl) ?_
    refine va_get (D := D) (ci := 5) (v := .ref rA) (C := R_Mo) (T := F_Mo) (N := 21) hx hb hg f_Mo hown hK.1 hP 0 rfl rfl 13 (by decide) (hg _ q576) (fun _ h9 => h9) rfl d_Mo_target_258 ?_
    refine lv_bipush (v := 8) hx hb d_Mo_target_261 (by decide) ?_
    refine lv_iload_n hx hb d_Mo_target_263 rfl (lv_at hl 5 rfl) ?_
    refine lv_iadd hx hb d_Mo_target_264 ?_
    have eq9 : (8 + (nI a) : Int32) = nI (8 + a) := nI_add 8 a
    refine W.eq (g2 := F0 m 265 ls [.int (nI (8 + a)), .ref rA]) (by rw [eq9]) ?_
    refine lv_sipush (v := 256) hx hb d_Mo_target_265 (by decide) ?_
    refine lv_iload hx hb d_Mo_target_268 (lv_at hl 3 rfl) ?_
    refine lv_imul hx hb d_Mo_target_270 ?_
    refine xr_S (As := [.int (256 * (G (4 * q + 3)))]) (rest := [.int (nI (8 + a)), .ref rA]) ⟨hx, hb, hml, hown, hg⟩ (c_Mo_round l D cI cZ cJ (256 * (G (4 * q + 3)))) m_Mo_round q725 ⟨rfl, rfl⟩ ⟨Nat.le_of_ble_eq_true rfl, Nat.le_of_ble_eq_true rfl⟩ hK hP [] rfl rfl hl.1 rfl (Nat.le_of_ble_eq_true rfl) d_Mo_target_271 ⟨Nat.zero_le _, Nat.zero_le _⟩ ?_
    refine xa_st hx hb hK hP hD hS 10 0 rfl rfl (kx := 8 + a) (rfl) (by omega) (by decide) d_Mo_target_274 (fun H locs hP hD hS => ?_)
    have hP : va_P D cls [(m0, .inr (5, [.int th, .int (nI n), .ref oA, .ref aA, .ref bB, .ref cC, .int tl, .int (nI k), .ref gA, .ref zA, .ref bA, .ref sR, .ref sD, .ref rA, .ref eC, .ref eA, .ref pA, .ref dA, .ref kA, .ref acA, .int nx])), (oA, .inl (cI, 24, .inl Po)), (aA, .inl (cI, 24, .inl Pa)), (bB, .inl (cI, 24, .inl Pb)), (cC, .inl (cI, 24, .inl Pc)), (gA, .inl (cI, 1600, .inl G)), (zA, .inl (cZ, 400, .inl O)), (bA, .inl (cI, 25, .inl B)), (sR, .inl (cI, 8, .inl sr)), (sD, .inl (cI, 32, .inl sd)), (rA, .inl (cI, 16, .inl (upd (tm_jn 8 R0 R1) (8 + a) (tm_wr (256 * (G (4 * q + 3))))))), (eC, .inl (cI, 128, .inl (tm_jn 64 C0 C1))), (eA, .inl (cI, 2, .inl (tm_tw e0 e1))), (pA, .inl (cI, 2, .inl (tm_tw h0 (nI (q + 1))))), (dA, .inl (cI, 2, .inl (tm_tw d0 (d1 + 1)))), (kA, .inl (cI, 2, .inl (tm_tw (nI k0) (nI k1)))), (acA, .inl (cI, 240, .inl (tm_jn 120 A0 A1)))] H := hP
    have hD : va_D A [(m0, .inr (5, [.int th, .int (nI n), .ref oA, .ref aA, .ref bB, .ref cC, .int tl, .int (nI k), .ref gA, .ref zA, .ref bA, .ref sR, .ref sD, .ref rA, .ref eC, .ref eA, .ref pA, .ref dA, .ref kA, .ref acA, .int nx])), (oA, .inl (cI, 24, .inl Po)), (aA, .inl (cI, 24, .inl Pa)), (bB, .inl (cI, 24, .inl Pb)), (cC, .inl (cI, 24, .inl Pc)), (gA, .inl (cI, 1600, .inl G)), (zA, .inl (cZ, 400, .inl O)), (bA, .inl (cI, 25, .inl B)), (sR, .inl (cI, 8, .inl sr)), (sD, .inl (cI, 32, .inl sd)), (rA, .inl (cI, 16, .inl (upd (tm_jn 8 R0 R1) (8 + a) (tm_wr (256 * (G (4 * q + 3))))))), (eC, .inl (cI, 128, .inl (tm_jn 64 C0 C1))), (eA, .inl (cI, 2, .inl (tm_tw e0 e1))), (pA, .inl (cI, 2, .inl (tm_tw h0 (nI (q + 1))))), (dA, .inl (cI, 2, .inl (tm_tw d0 (d1 + 1)))), (kA, .inl (cI, 2, .inl (tm_tw (nI k0) (nI k1)))), (acA, .inl (cI, 240, .inl (tm_jn 120 A0 A1)))] := hD
    rw [show (8 + a) = 8 + a by omega, tm_jn_uh] at hP hD
    have hP : va_P D cls [(m0, .inr (5, [.int th, .int (nI n), .ref oA, .ref aA, .ref bB, .ref cC, .int tl, .int (nI k), .ref gA, .ref zA, .ref bA, .ref sR, .ref sD, .ref rA, .ref eC, .ref eA, .ref pA, .ref dA, .ref kA, .ref acA, .int nx])), (oA, .inl (cI, 24, .inl Po)), (aA, .inl (cI, 24, .inl Pa)), (bB, .inl (cI, 24, .inl Pb)), (cC, .inl (cI, 24, .inl Pc)), (gA, .inl (cI, 1600, .inl G)), (zA, .inl (cZ, 400, .inl O)), (bA, .inl (cI, 25, .inl B)), (sR, .inl (cI, 8, .inl sr)), (sD, .inl (cI, 32, .inl sd)), (rA, .inl (cI, 16, .inl (tm_jn 8 R0 (upd R1 a (tm_wr (256 * (G (4 * q + 3)))))))), (eC, .inl (cI, 128, .inl (tm_jn 64 C0 C1))), (eA, .inl (cI, 2, .inl (tm_tw e0 e1))), (pA, .inl (cI, 2, .inl (tm_tw h0 (nI (q + 1))))), (dA, .inl (cI, 2, .inl (tm_tw d0 (d1 + 1)))), (kA, .inl (cI, 2, .inl (tm_tw (nI k0) (nI k1)))), (acA, .inl (cI, 240, .inl (tm_jn 120 A0 A1)))] H := hP
    have hD : va_D A [(m0, .inr (5, [.int th, .int (nI n), .ref oA, .ref aA, .ref bB, .ref cC, .int tl, .int (nI k), .ref gA, .ref zA, .ref bA, .ref sR, .ref sD, .ref rA, .ref eC, .ref eA, .ref pA, .ref dA, .ref kA, .ref acA, .int nx])), (oA, .inl (cI, 24, .inl Po)), (aA, .inl (cI, 24, .inl Pa)), (bB, .inl (cI, 24, .inl Pb)), (cC, .inl (cI, 24, .inl Pc)), (gA, .inl (cI, 1600, .inl G)), (zA, .inl (cZ, 400, .inl O)), (bA, .inl (cI, 25, .inl B)), (sR, .inl (cI, 8, .inl sr)), (sD, .inl (cI, 32, .inl sd)), (rA, .inl (cI, 16, .inl (tm_jn 8 R0 (upd R1 a (tm_wr (256 * (G (4 * q + 3)))))))), (eC, .inl (cI, 128, .inl (tm_jn 64 C0 C1))), (eA, .inl (cI, 2, .inl (tm_tw e0 e1))), (pA, .inl (cI, 2, .inl (tm_tw h0 (nI (q + 1))))), (dA, .inl (cI, 2, .inl (tm_tw d0 (d1 + 1)))), (kA, .inl (cI, 2, .inl (tm_tw (nI k0) (nI k1)))), (acA, .inl (cI, 240, .inl (tm_jn 120 A0 A1)))] := hD
    refine lv_goto (tgt := 315) hx hb d_Mo_target_275 rfl ?_
    refine lv_aload_n hx hb d_Mo_target_315 rfl (lv_at hl 8 rfl) ?_
    refine va_get (D := D) (ci := 5) (v := .ref rA) (C := R_Mo) (T := F_Mo) (N := 21) hx hb hg f_Mo hown hK.1 hP 0 rfl rfl 13 (by decide) (hg _ q576) (fun _ h9 => h9) rfl d_Mo_target_316 ?_
    refine lv_bipush (v := 8) hx hb d_Mo_target_319 (by decide) ?_
    refine lv_iconst (v := 0) hx hb d_Mo_target_321 (by decide) ?_
    refine xa_st hx hb hK hP hD hS 10 0 rfl rfl (kx := 8) (rfl) (by decide) (by decide) d_Mo_target_322 (fun H locs hP hD hS => ?_)
    have hP : va_P D cls [(m0, .inr (5, [.int th, .int (nI n), .ref oA, .ref aA, .ref bB, .ref cC, .int tl, .int (nI k), .ref gA, .ref zA, .ref bA, .ref sR, .ref sD, .ref rA, .ref eC, .ref eA, .ref pA, .ref dA, .ref kA, .ref acA, .int nx])), (oA, .inl (cI, 24, .inl Po)), (aA, .inl (cI, 24, .inl Pa)), (bB, .inl (cI, 24, .inl Pb)), (cC, .inl (cI, 24, .inl Pc)), (gA, .inl (cI, 1600, .inl G)), (zA, .inl (cZ, 400, .inl O)), (bA, .inl (cI, 25, .inl B)), (sR, .inl (cI, 8, .inl sr)), (sD, .inl (cI, 32, .inl sd)), (rA, .inl (cI, 16, .inl (upd (tm_jn 8 R0 (upd R1 a (tm_wr (256 * (G (4 * q + 3)))))) 8 0))), (eC, .inl (cI, 128, .inl (tm_jn 64 C0 C1))), (eA, .inl (cI, 2, .inl (tm_tw e0 e1))), (pA, .inl (cI, 2, .inl (tm_tw h0 (nI (q + 1))))), (dA, .inl (cI, 2, .inl (tm_tw d0 (d1 + 1)))), (kA, .inl (cI, 2, .inl (tm_tw (nI k0) (nI k1)))), (acA, .inl (cI, 240, .inl (tm_jn 120 A0 A1)))] H := hP
    have hD : va_D A [(m0, .inr (5, [.int th, .int (nI n), .ref oA, .ref aA, .ref bB, .ref cC, .int tl, .int (nI k), .ref gA, .ref zA, .ref bA, .ref sR, .ref sD, .ref rA, .ref eC, .ref eA, .ref pA, .ref dA, .ref kA, .ref acA, .int nx])), (oA, .inl (cI, 24, .inl Po)), (aA, .inl (cI, 24, .inl Pa)), (bB, .inl (cI, 24, .inl Pb)), (cC, .inl (cI, 24, .inl Pc)), (gA, .inl (cI, 1600, .inl G)), (zA, .inl (cZ, 400, .inl O)), (bA, .inl (cI, 25, .inl B)), (sR, .inl (cI, 8, .inl sr)), (sD, .inl (cI, 32, .inl sd)), (rA, .inl (cI, 16, .inl (upd (tm_jn 8 R0 (upd R1 a (tm_wr (256 * (G (4 * q + 3)))))) 8 0))), (eC, .inl (cI, 128, .inl (tm_jn 64 C0 C1))), (eA, .inl (cI, 2, .inl (tm_tw e0 e1))), (pA, .inl (cI, 2, .inl (tm_tw h0 (nI (q + 1))))), (dA, .inl (cI, 2, .inl (tm_tw d0 (d1 + 1)))), (kA, .inl (cI, 2, .inl (tm_tw (nI k0) (nI k1)))), (acA, .inl (cI, 240, .inl (tm_jn 120 A0 A1)))] := hD
    rw [show 8 = 8 + 0 by omega, tm_jn_uh] at hP hD
    have hP : va_P D cls [(m0, .inr (5, [.int th, .int (nI n), .ref oA, .ref aA, .ref bB, .ref cC, .int tl, .int (nI k), .ref gA, .ref zA, .ref bA, .ref sR, .ref sD, .ref rA, .ref eC, .ref eA, .ref pA, .ref dA, .ref kA, .ref acA, .int nx])), (oA, .inl (cI, 24, .inl Po)), (aA, .inl (cI, 24, .inl Pa)), (bB, .inl (cI, 24, .inl Pb)), (cC, .inl (cI, 24, .inl Pc)), (gA, .inl (cI, 1600, .inl G)), (zA, .inl (cZ, 400, .inl O)), (bA, .inl (cI, 25, .inl B)), (sR, .inl (cI, 8, .inl sr)), (sD, .inl (cI, 32, .inl sd)), (rA, .inl (cI, 16, .inl (tm_jn 8 R0 (upd (upd R1 a (tm_wr (256 * (G (4 * q + 3))))) 0 0)))), (eC, .inl (cI, 128, .inl (tm_jn 64 C0 C1))), (eA, .inl (cI, 2, .inl (tm_tw e0 e1))), (pA, .inl (cI, 2, .inl (tm_tw h0 (nI (q + 1))))), (dA, .inl (cI, 2, .inl (tm_tw d0 (d1 + 1)))), (kA, .inl (cI, 2, .inl (tm_tw (nI k0) (nI k1)))), (acA, .inl (cI, 240, .inl (tm_jn 120 A0 A1)))] H := hP
    have hD : va_D A [(m0, .inr (5, [.int th, .int (nI n), .ref oA, .ref aA, .ref bB, .ref cC, .int tl, .int (nI k), .ref gA, .ref zA, .ref bA, .ref sR, .ref sD, .ref rA, .ref eC, .ref eA, .ref pA, .ref dA, .ref kA, .ref acA, .int nx])), (oA, .inl (cI, 24, .inl Po)), (aA, .inl (cI, 24, .inl Pa)), (bB, .inl (cI, 24, .inl Pb)), (cC, .inl (cI, 24, .inl Pc)), (gA, .inl (cI, 1600, .inl G)), (zA, .inl (cZ, 400, .inl O)), (bA, .inl (cI, 25, .inl B)), (sR, .inl (cI, 8, .inl sr)), (sD, .inl (cI, 32, .inl sd)), (rA, .inl (cI, 16, .inl (tm_jn 8 R0 (upd (upd R1 a (tm_wr (256 * (G (4 * q + 3))))) 0 0)))), (eC, .inl (cI, 128, .inl (tm_jn 64 C0 C1))), (eA, .inl (cI, 2, .inl (tm_tw e0 e1))), (pA, .inl (cI, 2, .inl (tm_tw h0 (nI (q + 1))))), (dA, .inl (cI, 2, .inl (tm_tw d0 (d1 + 1)))), (kA, .inl (cI, 2, .inl (tm_tw (nI k0) (nI k1)))), (acA, .inl (cI, 240, .inl (tm_jn 120 A0 A1)))] := hD
    have ew1_1 : (upd (upd R1 a (tm_wr (256 * (G (4 * q + 3))))) 0 0) = ((tm_ts G q (R1, C1, A1, k1, nI q, d1, e1, x1)).1) := by rw [tm_set_m hR0 ha8]; simp [tm_ts, tm_alu, tm_calc, hv, ha, hbb, hc_b, f13, ee0, ee5, ee6, ee7, ee8, ee9, ee10, ee11, ee12, ee13, f7, f9, f4]
    have ew1 : tm_jn 8 R0 (upd (upd R1 a (tm_wr (256 * (G (4 * q + 3))))) 0 0) = tm_jn 8 R0 ((tm_ts G q (R1, C1, A1, k1, nI q, d1, e1, x1)).1) := congr (congrArg (tm_jn 8) rfl) ew1_1
    have ew2_1 : C1 = ((tm_ts G q (R1, C1, A1, k1, nI q, d1, e1, x1)).2.1) := by first | rfl | (simp [tm_ts, hv, f13, ee0, ee5, ee6, ee7, ee8, ee9, ee10, ee11, ee12, ee13, f7, f9, f4]; done)
    have ew2 : tm_jn 64 C0 C1 = tm_jn 64 C0 ((tm_ts G q (R1, C1, A1, k1, nI q, d1, e1, x1)).2.1) := congr (congrArg (tm_jn 64) rfl) ew2_1
    have ew3_1 : e1 = ((tm_ts G q (R1, C1, A1, k1, nI q, d1, e1, x1)).2.2.2.2.2.2.1) := by first | rfl | (simp [tm_ts, hv, f13, ee0, ee5, ee6, ee7, ee8, ee9, ee10, ee11, ee12, ee13, f7, f9, f4]; done)
    have ew3 : tm_tw e0 e1 = tm_tw e0 ((tm_ts G q (R1, C1, A1, k1, nI q, d1, e1, x1)).2.2.2.2.2.2.1) := congr (congrArg (tm_tw) rfl) ew3_1
    have ew4_1 : (nI (q + 1)) = ((tm_ts G q (R1, C1, A1, k1, nI q, d1, e1, x1)).2.2.2.2.1) := by first | rfl | (simp [tm_ts, hv, f13, ee0, ee5, ee6, ee7, ee8, ee9, ee10, ee11, ee12, ee13, f7, f9, f4]; done)
    have ew4 : tm_tw h0 (nI (q + 1)) = tm_tw h0 ((tm_ts G q (R1, C1, A1, k1, nI q, d1, e1, x1)).2.2.2.2.1) := congr (congrArg (tm_tw) rfl) ew4_1
    have ew5_1 : (d1 + 1) = ((tm_ts G q (R1, C1, A1, k1, nI q, d1, e1, x1)).2.2.2.2.2.1) := by first | rfl | (simp [tm_ts, hv, f13, ee0, ee5, ee6, ee7, ee8, ee9, ee10, ee11, ee12, ee13, f7, f9, f4]; done)
    have ew5 : tm_tw d0 (d1 + 1) = tm_tw d0 ((tm_ts G q (R1, C1, A1, k1, nI q, d1, e1, x1)).2.2.2.2.2.1) := congr (congrArg (tm_tw) rfl) ew5_1
    have ew6_1 : (nI k1) = (nI (tm_ts G q (R1, C1, A1, k1, nI q, d1, e1, x1)).2.2.2.1) := congrArg nI (by first | (simp [tm_ts, hv, f13, ee0, ee5, ee6, ee7, ee8, ee9, ee10, ee11, ee12, ee13, f7, f9, f4]; done) | (simp [tm_ts, hv, f13, ee0, ee5, ee6, ee7, ee8, ee9, ee10, ee11, ee12, ee13, f7, f9, f4]; omega) | omega)
    have ew6 : tm_tw (nI k0) (nI k1) = tm_tw (nI k0) (nI (tm_ts G q (R1, C1, A1, k1, nI q, d1, e1, x1)).2.2.2.1) := congr (congrArg (tm_tw) rfl) ew6_1
    have ew7_1 : A1 = ((tm_ts G q (R1, C1, A1, k1, nI q, d1, e1, x1)).2.2.1) := by first | rfl | (simp [tm_ts, hv, f13, ee0, ee5, ee6, ee7, ee8, ee9, ee10, ee11, ee12, ee13, f7, f9, f4]; done)
    have ew7 : tm_jn 120 A0 A1 = tm_jn 120 A0 ((tm_ts G q (R1, C1, A1, k1, nI q, d1, e1, x1)).2.2.1) := congr (congrArg (tm_jn 120) rfl) ew7_1
    have hP : va_P D cls [(m0, .inr (5, [.int th, .int (nI n), .ref oA, .ref aA, .ref bB, .ref cC, .int tl, .int (nI k), .ref gA, .ref zA, .ref bA, .ref sR, .ref sD, .ref rA, .ref eC, .ref eA, .ref pA, .ref dA, .ref kA, .ref acA, .int nx])), (oA, .inl (cI, 24, .inl Po)), (aA, .inl (cI, 24, .inl Pa)), (bB, .inl (cI, 24, .inl Pb)), (cC, .inl (cI, 24, .inl Pc)), (gA, .inl (cI, 1600, .inl G)), (zA, .inl (cZ, 400, .inl O)), (bA, .inl (cI, 25, .inl B)), (sR, .inl (cI, 8, .inl sr)), (sD, .inl (cI, 32, .inl sd)), (rA, .inl (cI, 16, .inl (tm_jn 8 R0 ((tm_ts G q (R1, C1, A1, k1, nI q, d1, e1, x1)).1)))), (eC, .inl (cI, 128, .inl (tm_jn 64 C0 ((tm_ts G q (R1, C1, A1, k1, nI q, d1, e1, x1)).2.1)))), (eA, .inl (cI, 2, .inl (tm_tw e0 ((tm_ts G q (R1, C1, A1, k1, nI q, d1, e1, x1)).2.2.2.2.2.2.1)))), (pA, .inl (cI, 2, .inl (tm_tw h0 ((tm_ts G q (R1, C1, A1, k1, nI q, d1, e1, x1)).2.2.2.2.1)))), (dA, .inl (cI, 2, .inl (tm_tw d0 ((tm_ts G q (R1, C1, A1, k1, nI q, d1, e1, x1)).2.2.2.2.2.1)))), (kA, .inl (cI, 2, .inl (tm_tw (nI k0) (nI (tm_ts G q (R1, C1, A1, k1, nI q, d1, e1, x1)).2.2.2.1)))), (acA, .inl (cI, 240, .inl (tm_jn 120 A0 ((tm_ts G q (R1, C1, A1, k1, nI q, d1, e1, x1)).2.2.1))))] H := by rw [← ew1, ← ew2, ← ew3, ← ew4, ← ew5, ← ew6, ← ew7]; exact hP
    have hD : va_D A [(m0, .inr (5, [.int th, .int (nI n), .ref oA, .ref aA, .ref bB, .ref cC, .int tl, .int (nI k), .ref gA, .ref zA, .ref bA, .ref sR, .ref sD, .ref rA, .ref eC, .ref eA, .ref pA, .ref dA, .ref kA, .ref acA, .int nx])), (oA, .inl (cI, 24, .inl Po)), (aA, .inl (cI, 24, .inl Pa)), (bB, .inl (cI, 24, .inl Pb)), (cC, .inl (cI, 24, .inl Pc)), (gA, .inl (cI, 1600, .inl G)), (zA, .inl (cZ, 400, .inl O)), (bA, .inl (cI, 25, .inl B)), (sR, .inl (cI, 8, .inl sr)), (sD, .inl (cI, 32, .inl sd)), (rA, .inl (cI, 16, .inl (tm_jn 8 R0 ((tm_ts G q (R1, C1, A1, k1, nI q, d1, e1, x1)).1)))), (eC, .inl (cI, 128, .inl (tm_jn 64 C0 ((tm_ts G q (R1, C1, A1, k1, nI q, d1, e1, x1)).2.1)))), (eA, .inl (cI, 2, .inl (tm_tw e0 ((tm_ts G q (R1, C1, A1, k1, nI q, d1, e1, x1)).2.2.2.2.2.2.1)))), (pA, .inl (cI, 2, .inl (tm_tw h0 ((tm_ts G q (R1, C1, A1, k1, nI q, d1, e1, x1)).2.2.2.2.1)))), (dA, .inl (cI, 2, .inl (tm_tw d0 ((tm_ts G q (R1, C1, A1, k1, nI q, d1, e1, x1)).2.2.2.2.2.1)))), (kA, .inl (cI, 2, .inl (tm_tw (nI k0) (nI (tm_ts G q (R1, C1, A1, k1, nI q, d1, e1, x1)).2.2.2.1)))), (acA, .inl (cI, 240, .inl (tm_jn 120 A0 ((tm_ts G q (R1, C1, A1, k1, nI q, d1, e1, x1)).2.2.1))))] := by rw [← ew1, ← ew2, ← ew3, ← ew4, ← ew5, ← ew6, ← ew7]; exact hD
    exact W.vret hx hb hr (fun t9 ht9 hW9 => ⟨⟨(), rfl, trivial, by rw [ht9]; exact hP, hD⟩, hS.F ht9⟩) hS.2.2 d_Mo_target_323
  · have f13 : ¬ 13 < nI v := nI_nlt (a := 13) (b := v) (by omega) (by decide)
    have ee0 : ¬ nI v = 0 := xn_ne (w := 0) (by omega) (by decide) (by omega)
    have ee5 : ¬ nI v = 5 := xn_ne (w := 5) (by omega) (by decide) (by omega)
    have ee6 : ¬ nI v = 6 := xn_ne (w := 6) (by omega) (by decide) (by omega)
    have ee7 : nI v = 7 := by rw [hcase]; rfl
    have ee8 : ¬ nI v = 8 := xn_ne (w := 8) (by omega) (by decide) (by omega)
    have ee9 : ¬ nI v = 9 := xn_ne (w := 9) (by omega) (by decide) (by omega)
    have ee10 : ¬ nI v = 10 := xn_ne (w := 10) (by omega) (by decide) (by omega)
    have ee11 : ¬ nI v = 11 := xn_ne (w := 11) (by omega) (by decide) (by omega)
    have ee12 : ¬ nI v = 12 := xn_ne (w := 12) (by omega) (by decide) (by omega)
    have ee13 : ¬ nI v = 13 := xn_ne (w := 13) (by omega) (by decide) (by omega)
    have f7 : ¬ nI v < 7 := nI_nlt (a := v) (b := 7) (by omega) (by omega)
    have f9 : nI v < 9 := nI_lt (a := v) (b := 9) (by omega) (by decide)
    have f4 : 4 < nI v := nI_lt (a := 4) (b := v) (by omega) (by omega)
    obtain ⟨hd, hdM⟩ := hmem (by omega) (by omega)
    have hc_dd : (nI dd).toNatClampNeg = dd := nI_clamp (by omega)
    have hod : ¬ (nI dd < 0 ∨ nI 64 ≤ nI dd) := not_or.mpr ⟨nI_pos (by omega), nI_ge (by omega) (by omega)⟩
    refine lv_aload_n hx hb d_Mo_target_0 rfl (lv_at hl 0 rfl) ?_
    refine va_get (D := D) (ci := 5) (v := .ref pA) (C := R_Mo) (T := F_Mo) (N := 21) hx hb hg f_Mo hown hK.1 hP 0 rfl rfl 16 (by decide) (hg _ q579) (fun _ h9 => h9) rfl d_Mo_target_1 ?_
    refine lv_iconst (v := 1) hx hb d_Mo_target_4 (by decide) ?_
    refine xa_ld hx hb hK hP 13 0 rfl rfl (kx := 1) (rfl) (by decide) (by decide) d_Mo_target_5 ?_
    have eq9 : ((tm_tw h0 (nI q)) 1 : Int32) = nI q := rfl
    refine W.eq (g2 := F0 m 6 ls [.int (nI q)]) (by rw [eq9]) ?_
    refine lv_istore_n hx hb d_Mo_target_6 rfl hl (by decide) rfl (fun ls hl => ?_)
    have hl : lv_has ls 9 [(1, .int (nI q)), (0, .ref m0)] := hl
    refine lv_aload_n hx hb d_Mo_target_7 rfl (lv_at hl 1 rfl) ?_
    refine va_get (D := D) (ci := 5) (v := .ref gA) (C := R_Mo) (T := F_Mo) (N := 21) hx hb hg f_Mo hown hK.1 hP 0 rfl rfl 8 (by decide) (hg _ q571) (fun _ h9 => h9) rfl d_Mo_target_8 ?_
    refine lv_iconst (v := 4) hx hb d_Mo_target_11 (by decide) ?_
    refine lv_iload_n hx hb d_Mo_target_12 rfl (lv_at hl 0 rfl) ?_
    refine lv_imul hx hb d_Mo_target_13 ?_
    have eq9 : (4 * (nI q) : Int32) = nI (4 * q) := pk_mul 4 q
    refine W.eq (g2 := F0 m 14 ls [.int (nI (4 * q)), .ref gA]) (by rw [eq9]) ?_
    refine xa_ld hx hb hK hP 5 0 rfl rfl (kx := 4 * q) (rfl) (by omega) (by decide) d_Mo_target_14 ?_
    have eq9 : (G (4 * q) : Int32) = nI v := hv
    refine W.eq (g2 := F0 m 15 ls [.int (nI v)]) (by rw [eq9]) ?_
    refine lv_istore_n hx hb d_Mo_target_15 rfl hl (by decide) rfl (fun ls hl => ?_)
    have hl : lv_has ls 9 [(2, .int (nI v)), (1, .int (nI q)), (0, .ref m0)] := hl
    refine lv_aload_n hx hb d_Mo_target_16 rfl (lv_at hl 2 rfl) ?_
    refine va_get (D := D) (ci := 5) (v := .ref gA) (C := R_Mo) (T := F_Mo) (N := 21) hx hb hg f_Mo hown hK.1 hP 0 rfl rfl 8 (by decide) (hg _ q571) (fun _ h9 => h9) rfl d_Mo_target_17 ?_
    refine lv_iconst (v := 4) hx hb d_Mo_target_20 (by decide) ?_
    refine lv_iload_n hx hb d_Mo_target_21 rfl (lv_at hl 1 rfl) ?_
    refine lv_imul hx hb d_Mo_target_22 ?_
    have eq9 : (4 * (nI q) : Int32) = nI (4 * q) := pk_mul 4 q
    refine W.eq (g2 := F0 m 23 ls [.int (nI (4 * q)), .ref gA]) (by rw [eq9]) ?_
    refine lv_iconst (v := 1) hx hb d_Mo_target_23 (by decide) ?_
    refine lv_iadd hx hb d_Mo_target_24 ?_
    have eq9 : ((nI (4 * q)) + 1 : Int32) = nI (4 * q + 1) := nI_add (4 * q) 1
    refine W.eq (g2 := F0 m 25 ls [.int (nI (4 * q + 1)), .ref gA]) (by rw [eq9]) ?_
    refine xa_ld hx hb hK hP 5 0 rfl rfl (kx := 4 * q + 1) (rfl) (by omega) (by decide) d_Mo_target_25 ?_
    have eq9 : (G (4 * q + 1) : Int32) = nI a := ha
    refine W.eq (g2 := F0 m 26 ls [.int (nI a)]) (by rw [eq9]) ?_
    refine lv_istore_n hx hb d_Mo_target_26 rfl hl (by decide) rfl (fun ls hl => ?_)
    have hl : lv_has ls 9 [(3, .int (nI a)), (2, .int (nI v)), (1, .int (nI q)), (0, .ref m0)] := hl
    refine lv_aload_n hx hb d_Mo_target_27 rfl (lv_at hl 3 rfl) ?_
    refine va_get (D := D) (ci := 5) (v := .ref gA) (C := R_Mo) (T := F_Mo) (N := 21) hx hb hg f_Mo hown hK.1 hP 0 rfl rfl 8 (by decide) (hg _ q571) (fun _ h9 => h9) rfl d_Mo_target_28 ?_
    refine lv_iconst (v := 4) hx hb d_Mo_target_31 (by decide) ?_
    refine lv_iload_n hx hb d_Mo_target_32 rfl (lv_at hl 2 rfl) ?_
    refine lv_imul hx hb d_Mo_target_33 ?_
    have eq9 : (4 * (nI q) : Int32) = nI (4 * q) := pk_mul 4 q
    refine W.eq (g2 := F0 m 34 ls [.int (nI (4 * q)), .ref gA]) (by rw [eq9]) ?_
    refine lv_iconst (v := 2) hx hb d_Mo_target_34 (by decide) ?_
    refine lv_iadd hx hb d_Mo_target_35 ?_
    have eq9 : ((nI (4 * q)) + 2 : Int32) = nI (4 * q + 2) := nI_add (4 * q) 2
    refine W.eq (g2 := F0 m 36 ls [.int (nI (4 * q + 2)), .ref gA]) (by rw [eq9]) ?_
    refine xa_ld hx hb hK hP 5 0 rfl rfl (kx := 4 * q + 2) (rfl) (by omega) (by decide) d_Mo_target_36 ?_
    have eq9 : (G (4 * q + 2) : Int32) = nI b := hbb
    refine W.eq (g2 := F0 m 37 ls [.int (nI b)]) (by rw [eq9]) ?_
    refine lv_istore hx hb d_Mo_target_37 hl (by decide) rfl (fun ls hl => ?_)
    have hl : lv_has ls 9 [(4, .int (nI b)), (3, .int (nI a)), (2, .int (nI v)), (1, .int (nI q)), (0, .ref m0)] := hl
    refine lv_aload_n hx hb d_Mo_target_39 rfl (lv_at hl 4 rfl) ?_
    refine va_get (D := D) (ci := 5) (v := .ref gA) (C := R_Mo) (T := F_Mo) (N := 21) hx hb hg f_Mo hown hK.1 hP 0 rfl rfl 8 (by decide) (hg _ q571) (fun _ h9 => h9) rfl d_Mo_target_40 ?_
    refine lv_iconst (v := 4) hx hb d_Mo_target_43 (by decide) ?_
    refine lv_iload_n hx hb d_Mo_target_44 rfl (lv_at hl 3 rfl) ?_
    refine lv_imul hx hb d_Mo_target_45 ?_
    have eq9 : (4 * (nI q) : Int32) = nI (4 * q) := pk_mul 4 q
    refine W.eq (g2 := F0 m 46 ls [.int (nI (4 * q)), .ref gA]) (by rw [eq9]) ?_
    refine lv_iconst (v := 3) hx hb d_Mo_target_46 (by decide) ?_
    refine lv_iadd hx hb d_Mo_target_47 ?_
    have eq9 : ((nI (4 * q)) + 3 : Int32) = nI (4 * q + 3) := nI_add (4 * q) 3
    refine W.eq (g2 := F0 m 48 ls [.int (nI (4 * q + 3)), .ref gA]) (by rw [eq9]) ?_
    refine xa_ld hx hb hK hP 5 0 rfl rfl (kx := 4 * q + 3) (rfl) (by omega) (by decide) d_Mo_target_48 ?_
    refine lv_istore hx hb d_Mo_target_49 hl (by decide) rfl (fun ls hl => ?_)
    have hl : lv_has ls 9 [(5, .int (G (4 * q + 3))), (4, .int (nI b)), (3, .int (nI a)), (2, .int (nI v)), (1, .int (nI q)), (0, .ref m0)] := hl
    refine lv_aload_n hx hb d_Mo_target_51 rfl (lv_at hl 5 rfl) ?_
    refine va_get (D := D) (ci := 5) (v := .ref rA) (C := R_Mo) (T := F_Mo) (N := 21) hx hb hg f_Mo hown hK.1 hP 0 rfl rfl 13 (by decide) (hg _ q576) (fun _ h9 => h9) rfl d_Mo_target_52 ?_
    refine lv_bipush (v := 8) hx hb d_Mo_target_55 (by decide) ?_
    refine lv_iload_n hx hb d_Mo_target_57 rfl (lv_at hl 2 rfl) ?_
    refine lv_iadd hx hb d_Mo_target_58 ?_
    have eq9 : (8 + (nI a) : Int32) = nI (8 + a) := nI_add 8 a
    refine W.eq (g2 := F0 m 59 ls [.int (nI (8 + a)), .ref rA]) (by rw [eq9]) ?_
    refine xa_ld hx hb hK hP 10 0 rfl rfl (kx := 8 + a) (rfl) (by omega) (by decide) d_Mo_target_59 ?_
    have eq9 : ((tm_jn 8 R0 R1) (8 + a) : Int32) = R1 a := (congrArg (tm_jn 8 R0 R1) (show 8 + a = 8 + a by omega)).trans tm_jn_hi
    refine W.eq (g2 := F0 m 60 ls [.int (R1 a)]) (by rw [eq9]) ?_
    refine lv_istore hx hb d_Mo_target_60 hl (by decide) rfl (fun ls hl => ?_)
    have hl : lv_has ls 9 [(6, .int (R1 a)), (5, .int (G (4 * q + 3))), (4, .int (nI b)), (3, .int (nI a)), (2, .int (nI v)), (1, .int (nI q)), (0, .ref m0)] := hl
    refine lv_aload_n hx hb d_Mo_target_62 rfl (lv_at hl 6 rfl) ?_
    refine va_get (D := D) (ci := 5) (v := .ref rA) (C := R_Mo) (T := F_Mo) (N := 21) hx hb hg f_Mo hown hK.1 hP 0 rfl rfl 13 (by decide) (hg _ q576) (fun _ h9 => h9) rfl d_Mo_target_63 ?_
    refine lv_bipush (v := 8) hx hb d_Mo_target_66 (by decide) ?_
    refine lv_iload hx hb d_Mo_target_68 (lv_at hl 2 rfl) ?_
    refine lv_iadd hx hb d_Mo_target_70 ?_
    have eq9 : (8 + (nI b) : Int32) = nI (8 + b) := nI_add 8 b
    refine W.eq (g2 := F0 m 71 ls [.int (nI (8 + b)), .ref rA]) (by rw [eq9]) ?_
    refine xa_ld hx hb hK hP 10 0 rfl rfl (kx := 8 + b) (rfl) (by omega) (by decide) d_Mo_target_71 ?_
    have eq9 : ((tm_jn 8 R0 R1) (8 + b) : Int32) = R1 b := (congrArg (tm_jn 8 R0 R1) (show 8 + b = 8 + b by omega)).trans tm_jn_hi
    refine W.eq (g2 := F0 m 72 ls [.int (R1 b)]) (by rw [eq9]) ?_
    refine lv_istore hx hb d_Mo_target_72 hl (by decide) rfl (fun ls hl => ?_)
    have hl : lv_has ls 9 [(7, .int (R1 b)), (6, .int (R1 a)), (5, .int (G (4 * q + 3))), (4, .int (nI b)), (3, .int (nI a)), (2, .int (nI v)), (1, .int (nI q)), (0, .ref m0)] := hl
    refine lv_aload_n hx hb d_Mo_target_74 rfl (lv_at hl 7 rfl) ?_
    refine va_get (D := D) (ci := 5) (v := .ref dA) (C := R_Mo) (T := F_Mo) (N := 21) hx hb hg f_Mo hown hK.1 hP 0 rfl rfl 17 (by decide) (hg _ q580) (fun _ h9 => h9) rfl d_Mo_target_75 ?_
    refine lv_iconst (v := 1) hx hb d_Mo_target_78 (by decide) ?_
    refine lv_dup2_11 hx hb d_Mo_target_79 rfl rfl ?_
    refine xa_ld hx hb hK hP 14 0 rfl rfl (kx := 1) (rfl) (by decide) (by decide) d_Mo_target_80 ?_
    have eq9 : ((tm_tw d0 d1) 1 : Int32) = d1 := rfl
    refine W.eq (g2 := F0 m 81 ls [.int d1, .int 1, .ref dA]) (by rw [eq9]) ?_
    refine lv_iconst (v := 1) hx hb d_Mo_target_81 (by decide) ?_
    refine lv_iadd hx hb d_Mo_target_82 ?_
    refine xa_st hx hb hK hP hD hS 14 0 rfl rfl (kx := 1) (rfl) (by decide) (by decide) d_Mo_target_83 (fun H locs hP hD hS => ?_)
    have hP : va_P D cls [(m0, .inr (5, [.int th, .int (nI n), .ref oA, .ref aA, .ref bB, .ref cC, .int tl, .int (nI k), .ref gA, .ref zA, .ref bA, .ref sR, .ref sD, .ref rA, .ref eC, .ref eA, .ref pA, .ref dA, .ref kA, .ref acA, .int nx])), (oA, .inl (cI, 24, .inl Po)), (aA, .inl (cI, 24, .inl Pa)), (bB, .inl (cI, 24, .inl Pb)), (cC, .inl (cI, 24, .inl Pc)), (gA, .inl (cI, 1600, .inl G)), (zA, .inl (cZ, 400, .inl O)), (bA, .inl (cI, 25, .inl B)), (sR, .inl (cI, 8, .inl sr)), (sD, .inl (cI, 32, .inl sd)), (rA, .inl (cI, 16, .inl (tm_jn 8 R0 R1))), (eC, .inl (cI, 128, .inl (tm_jn 64 C0 C1))), (eA, .inl (cI, 2, .inl (tm_tw e0 e1))), (pA, .inl (cI, 2, .inl (tm_tw h0 (nI q)))), (dA, .inl (cI, 2, .inl (upd (tm_tw d0 d1) 1 (d1 + 1)))), (kA, .inl (cI, 2, .inl (tm_tw (nI k0) (nI k1)))), (acA, .inl (cI, 240, .inl (tm_jn 120 A0 A1)))] H := hP
    have hD : va_D A [(m0, .inr (5, [.int th, .int (nI n), .ref oA, .ref aA, .ref bB, .ref cC, .int tl, .int (nI k), .ref gA, .ref zA, .ref bA, .ref sR, .ref sD, .ref rA, .ref eC, .ref eA, .ref pA, .ref dA, .ref kA, .ref acA, .int nx])), (oA, .inl (cI, 24, .inl Po)), (aA, .inl (cI, 24, .inl Pa)), (bB, .inl (cI, 24, .inl Pb)), (cC, .inl (cI, 24, .inl Pc)), (gA, .inl (cI, 1600, .inl G)), (zA, .inl (cZ, 400, .inl O)), (bA, .inl (cI, 25, .inl B)), (sR, .inl (cI, 8, .inl sr)), (sD, .inl (cI, 32, .inl sd)), (rA, .inl (cI, 16, .inl (tm_jn 8 R0 R1))), (eC, .inl (cI, 128, .inl (tm_jn 64 C0 C1))), (eA, .inl (cI, 2, .inl (tm_tw e0 e1))), (pA, .inl (cI, 2, .inl (tm_tw h0 (nI q)))), (dA, .inl (cI, 2, .inl (upd (tm_tw d0 d1) 1 (d1 + 1)))), (kA, .inl (cI, 2, .inl (tm_tw (nI k0) (nI k1)))), (acA, .inl (cI, 240, .inl (tm_jn 120 A0 A1)))] := hD
    have hD := xa_D (e2 := .inl (cI, 2, .inl (tm_tw d0 (d1 + 1)))) hD 14 rfl
    have hP := xa_P (g := tm_tw d0 (d1 + 1)) hP 14 rfl (tm_tw_c)
    have hP : va_P D cls [(m0, .inr (5, [.int th, .int (nI n), .ref oA, .ref aA, .ref bB, .ref cC, .int tl, .int (nI k), .ref gA, .ref zA, .ref bA, .ref sR, .ref sD, .ref rA, .ref eC, .ref eA, .ref pA, .ref dA, .ref kA, .ref acA, .int nx])), (oA, .inl (cI, 24, .inl Po)), (aA, .inl (cI, 24, .inl Pa)), (bB, .inl (cI, 24, .inl Pb)), (cC, .inl (cI, 24, .inl Pc)), (gA, .inl (cI, 1600, .inl G)), (zA, .inl (cZ, 400, .inl O)), (bA, .inl (cI, 25, .inl B)), (sR, .inl (cI, 8, .inl sr)), (sD, .inl (cI, 32, .inl sd)), (rA, .inl (cI, 16, .inl (tm_jn 8 R0 R1))), (eC, .inl (cI, 128, .inl (tm_jn 64 C0 C1))), (eA, .inl (cI, 2, .inl (tm_tw e0 e1))), (pA, .inl (cI, 2, .inl (tm_tw h0 (nI q)))), (dA, .inl (cI, 2, .inl (tm_tw d0 (d1 + 1)))), (kA, .inl (cI, 2, .inl (tm_tw (nI k0) (nI k1)))), (acA, .inl (cI, 240, .inl (tm_jn 120 A0 A1)))] H := hP
    have hD : va_D A [(m0, .inr (5, [.int th, .int (nI n), .ref oA, .ref aA, .ref bB, .ref cC, .int tl, .int (nI k), .ref gA, .ref zA, .ref bA, .ref sR, .ref sD, .ref rA, .ref eC, .ref eA, .ref pA, .ref dA, .ref kA, .ref acA, .int nx])), (oA, .inl (cI, 24, .inl Po)), (aA, .inl (cI, 24, .inl Pa)), (bB, .inl (cI, 24, .inl Pb)), (cC, .inl (cI, 24, .inl Pc)), (gA, .inl (cI, 1600, .inl G)), (zA, .inl (cZ, 400, .inl O)), (bA, .inl (cI, 25, .inl B)), (sR, .inl (cI, 8, .inl sr)), (sD, .inl (cI, 32, .inl sd)), (rA, .inl (cI, 16, .inl (tm_jn 8 R0 R1))), (eC, .inl (cI, 128, .inl (tm_jn 64 C0 C1))), (eA, .inl (cI, 2, .inl (tm_tw e0 e1))), (pA, .inl (cI, 2, .inl (tm_tw h0 (nI q)))), (dA, .inl (cI, 2, .inl (tm_tw d0 (d1 + 1)))), (kA, .inl (cI, 2, .inl (tm_tw (nI k0) (nI k1)))), (acA, .inl (cI, 240, .inl (tm_jn 120 A0 A1)))] := hD
    refine lv_iload_n hx hb d_Mo_target_84 rfl (lv_at hl 5 rfl) ?_
    refine lv_if_ne (tgt := 105) hx hb d_Mo_target_85 rfl (fun _ => ?_) (fun hz9 => absurd hz9 (ee0))
    refine lv_iload_n hx hb d_Mo_target_105 rfl (lv_at hl 5 rfl) ?_
    refine lv_bipush (v := 9) hx hb d_Mo_target_106 (by decide) ?_
    refine lv_icmp_ne (tgt := 118) hx hb d_Mo_target_108 rfl (fun _ => ?_) (fun hz9 => absurd hz9 (ee9))
    refine lv_iload_n hx hb d_Mo_target_118 rfl (lv_at hl 5 rfl) ?_
    refine lv_bipush (v := 10) hx hb d_Mo_target_119 (by decide) ?_
    refine lv_icmp_ne (tgt := 131) hx hb d_Mo_target_121 rfl (fun _ => ?_) (fun hz9 => absurd hz9 (ee10))
    refine lv_iload_n hx hb d_Mo_target_131 rfl (lv_at hl 5 rfl) ?_
    refine lv_bipush (v := 11) hx hb d_Mo_target_132 (by decide) ?_
    refine lv_icmp_eq (tgt := 156) hx hb d_Mo_target_134 rfl (fun hz9 => absurd hz9 (ee11)) (fun _ => ?_)
    refine lv_iload_n hx hb d_Mo_target_137 rfl (lv_at hl 5 rfl) ?_
    refine lv_bipush (v := 12) hx hb d_Mo_target_138 (by decide) ?_
    refine lv_icmp_ne (tgt := 160) hx hb d_Mo_target_140 rfl (fun _ => ?_) (fun hz9 => absurd hz9 (ee12))
    refine lv_iconst (v := 0) hx hb d_Mo_target_160 (by decide) ?_
    refine lv_istore hx hb d_Mo_target_161 hl (by decide) rfl (fun ls hl => ?_)
    have hl : lv_has ls 9 [(8, .int 0), (7, .int (R1 b)), (6, .int (R1 a)), (5, .int (G (4 * q + 3))), (4, .int (nI b)), (3, .int (nI a)), (2, .int (nI v)), (1, .int (nI q)), (0, .ref m0)] := hl
    refine lv_aload_n hx hb d_Mo_target_163 rfl (lv_at hl 8 rfl) ?_
    refine va_get (D := D) (ci := 5) (v := .ref pA) (C := R_Mo) (T := F_Mo) (N := 21) hx hb hg f_Mo hown hK.1 hP 0 rfl rfl 16 (by decide) (hg _ q579) (fun _ h9 => h9) rfl d_Mo_target_164 ?_
    refine lv_iconst (v := 1) hx hb d_Mo_target_167 (by decide) ?_
    refine lv_iload hx hb d_Mo_target_168 (lv_at hl 0 rfl) ?_
    refine lv_if_eq (tgt := 178) hx hb d_Mo_target_170 rfl (fun _ => ?_) (fun hz9 => absurd (by decide) hz9)
    refine lv_iload_n hx hb d_Mo_target_178 rfl (lv_at hl 6 rfl) ?_
    refine lv_bipush (v := 13) hx hb d_Mo_target_179 (by decide) ?_
    refine lv_icmp_ne (tgt := 189) hx hb d_Mo_target_181 rfl (fun _ => ?_) (fun hz9 => absurd hz9 (ee13))
    refine lv_iload_n hx hb d_Mo_target_189 rfl (lv_at hl 7 rfl) ?_
    refine lv_iconst (v := 1) hx hb d_Mo_target_190 (by decide) ?_
    refine lv_iadd hx hb d_Mo_target_191 ?_
    have eq9 : ((nI q) + 1 : Int32) = nI (q + 1) := nI_add q 1
    refine W.eq (g2 := F0 m 192 ls [.int (nI (q + 1)), .int 1, .ref pA]) (by rw [eq9]) ?_
    refine xa_st hx hb hK hP hD hS 13 0 rfl rfl (kx := 1) (rfl) (by decide) (by decide) d_Mo_target_192 (fun H locs hP hD hS => ?_)
    have hP : va_P D cls [(m0, .inr (5, [.int th, .int (nI n), .ref oA, .ref aA, .ref bB, .ref cC, .int tl, .int (nI k), .ref gA, .ref zA, .ref bA, .ref sR, .ref sD, .ref rA, .ref eC, .ref eA, .ref pA, .ref dA, .ref kA, .ref acA, .int nx])), (oA, .inl (cI, 24, .inl Po)), (aA, .inl (cI, 24, .inl Pa)), (bB, .inl (cI, 24, .inl Pb)), (cC, .inl (cI, 24, .inl Pc)), (gA, .inl (cI, 1600, .inl G)), (zA, .inl (cZ, 400, .inl O)), (bA, .inl (cI, 25, .inl B)), (sR, .inl (cI, 8, .inl sr)), (sD, .inl (cI, 32, .inl sd)), (rA, .inl (cI, 16, .inl (tm_jn 8 R0 R1))), (eC, .inl (cI, 128, .inl (tm_jn 64 C0 C1))), (eA, .inl (cI, 2, .inl (tm_tw e0 e1))), (pA, .inl (cI, 2, .inl (upd (tm_tw h0 (nI q)) 1 (nI (q + 1))))), (dA, .inl (cI, 2, .inl (tm_tw d0 (d1 + 1)))), (kA, .inl (cI, 2, .inl (tm_tw (nI k0) (nI k1)))), (acA, .inl (cI, 240, .inl (tm_jn 120 A0 A1)))] H := hP
    have hD : va_D A [(m0, .inr (5, [.int th, .int (nI n), .ref oA, .ref aA, .ref bB, .ref cC, .int tl, .int (nI k), .ref gA, .ref zA, .ref bA, .ref sR, .ref sD, .ref rA, .ref eC, .ref eA, .ref pA, .ref dA, .ref kA, .ref acA, .int nx])), (oA, .inl (cI, 24, .inl Po)), (aA, .inl (cI, 24, .inl Pa)), (bB, .inl (cI, 24, .inl Pb)), (cC, .inl (cI, 24, .inl Pc)), (gA, .inl (cI, 1600, .inl G)), (zA, .inl (cZ, 400, .inl O)), (bA, .inl (cI, 25, .inl B)), (sR, .inl (cI, 8, .inl sr)), (sD, .inl (cI, 32, .inl sd)), (rA, .inl (cI, 16, .inl (tm_jn 8 R0 R1))), (eC, .inl (cI, 128, .inl (tm_jn 64 C0 C1))), (eA, .inl (cI, 2, .inl (tm_tw e0 e1))), (pA, .inl (cI, 2, .inl (upd (tm_tw h0 (nI q)) 1 (nI (q + 1))))), (dA, .inl (cI, 2, .inl (tm_tw d0 (d1 + 1)))), (kA, .inl (cI, 2, .inl (tm_tw (nI k0) (nI k1)))), (acA, .inl (cI, 240, .inl (tm_jn 120 A0 A1)))] := hD
    have hD := xa_D (e2 := .inl (cI, 2, .inl (tm_tw h0 (nI (q + 1))))) hD 13 rfl
    have hP := xa_P (g := tm_tw h0 (nI (q + 1))) hP 13 rfl (tm_tw_c)
    have hP : va_P D cls [(m0, .inr (5, [.int th, .int (nI n), .ref oA, .ref aA, .ref bB, .ref cC, .int tl, .int (nI k), .ref gA, .ref zA, .ref bA, .ref sR, .ref sD, .ref rA, .ref eC, .ref eA, .ref pA, .ref dA, .ref kA, .ref acA, .int nx])), (oA, .inl (cI, 24, .inl Po)), (aA, .inl (cI, 24, .inl Pa)), (bB, .inl (cI, 24, .inl Pb)), (cC, .inl (cI, 24, .inl Pc)), (gA, .inl (cI, 1600, .inl G)), (zA, .inl (cZ, 400, .inl O)), (bA, .inl (cI, 25, .inl B)), (sR, .inl (cI, 8, .inl sr)), (sD, .inl (cI, 32, .inl sd)), (rA, .inl (cI, 16, .inl (tm_jn 8 R0 R1))), (eC, .inl (cI, 128, .inl (tm_jn 64 C0 C1))), (eA, .inl (cI, 2, .inl (tm_tw e0 e1))), (pA, .inl (cI, 2, .inl (tm_tw h0 (nI (q + 1))))), (dA, .inl (cI, 2, .inl (tm_tw d0 (d1 + 1)))), (kA, .inl (cI, 2, .inl (tm_tw (nI k0) (nI k1)))), (acA, .inl (cI, 240, .inl (tm_jn 120 A0 A1)))] H := hP
    have hD : va_D A [(m0, .inr (5, [.int th, .int (nI n), .ref oA, .ref aA, .ref bB, .ref cC, .int tl, .int (nI k), .ref gA, .ref zA, .ref bA, .ref sR, .ref sD, .ref rA, .ref eC, .ref eA, .ref pA, .ref dA, .ref kA, .ref acA, .int nx])), (oA, .inl (cI, 24, .inl Po)), (aA, .inl (cI, 24, .inl Pa)), (bB, .inl (cI, 24, .inl Pb)), (cC, .inl (cI, 24, .inl Pc)), (gA, .inl (cI, 1600, .inl G)), (zA, .inl (cZ, 400, .inl O)), (bA, .inl (cI, 25, .inl B)), (sR, .inl (cI, 8, .inl sr)), (sD, .inl (cI, 32, .inl sd)), (rA, .inl (cI, 16, .inl (tm_jn 8 R0 R1))), (eC, .inl (cI, 128, .inl (tm_jn 64 C0 C1))), (eA, .inl (cI, 2, .inl (tm_tw e0 e1))), (pA, .inl (cI, 2, .inl (tm_tw h0 (nI (q + 1))))), (dA, .inl (cI, 2, .inl (tm_tw d0 (d1 + 1)))), (kA, .inl (cI, 2, .inl (tm_tw (nI k0) (nI k1)))), (acA, .inl (cI, 240, .inl (tm_jn 120 A0 A1)))] := hD
    refine lv_iload_n hx hb d_Mo_target_193 rfl (lv_at hl 6 rfl) ?_
    refine lv_iconst (v := 5) hx hb d_Mo_target_194 (by decide) ?_
    refine lv_icmp_ge (tgt := 226) hx hb d_Mo_target_195 rfl (fun _ => ?_) (fun hz9 => absurd (nI_le (a := 5) (b := v) (by omega) (by omega)) hz9)
    refine lv_iload_n hx hb d_Mo_target_226 rfl (lv_at hl 6 rfl) ?_
    refine lv_iconst (v := 5) hx hb d_Mo_target_227 (by decide) ?_
    refine lv_icmp_ne (tgt := 251) hx hb d_Mo_target_228 rfl (fun _ => ?_) (fun hz9 => absurd hz9 (ee5))
    refine lv_iload_n hx hb d_Mo_target_251 rfl (lv_at hl 6 rfl) ?_
    refine lv_bipush (v := 6) hx hb d_Mo_target_252 (by decide) ?_
    refine lv_icmp_ne (tgt := 278) hx hb d_Mo_target_254 rfl (fun _ => ?_) (fun hz9 => absurd hz9 (ee6))
    refine lv_iload_n hx hb d_Mo_target_278 rfl (lv_at hl 6 rfl) ?_
    refine lv_bipush (v := 7) hx hb d_Mo_target_279 (by decide) ?_
    refine lv_icmp_eq (tgt := 290) hx hb d_Mo_target_281 rfl (fun _ => ?_) (fun hz9 => absurd (ee7) hz9)
    refine lv_aload_n hx hb d_Mo_target_290 rfl (lv_at hl 8 rfl) ?_
    refine lv_iconst (v := 1) hx hb d_Mo_target_291 (by decide) ?_
    refine lv_iload_n hx hb d_Mo_target_292 rfl (lv_at hl 5 rfl) ?_
    refine lv_iload hx hb d_Mo_target_293 (lv_at hl 1 rfl) ?_
    refine lv_iload hx hb d_Mo_target_295 (lv_at hl 3 rfl) ?_
    refine lv_iadd hx hb d_Mo_target_297 ?_
    refine xr_S (As := [.int ((R1 b) + (G (4 * q + 3)))]) (rest := [.int (nI a), .int 1, .ref m0]) ⟨hx, hb, hml, hown, hg⟩ (c_Mo_round l D cI cZ cJ ((R1 b) + (G (4 * q + 3)))) m_Mo_round q725 ⟨rfl, rfl⟩ ⟨Nat.le_of_ble_eq_true rfl, Nat.le_of_ble_eq_true rfl⟩ hK hP [] rfl rfl hl.1 rfl (Nat.le_of_ble_eq_true rfl) d_Mo_target_298 ⟨Nat.zero_le _, Nat.zero_le _⟩ ?_
    have eq9 : (tm_wr ((R1 b) + (G (4 * q + 3))) : Int32) = tm_adr G q R1 := by simp [tm_adr, hbb, hc_b]
    refine W.eq (g2 := F0 m 301 ls [.int (tm_adr G q R1), .int (nI a), .int 1, .ref m0]) (by rw [eq9]) ?_
    have eq9 : (tm_adr G q R1 : Int32) = nI dd := hd
    refine W.eq (g2 := F0 m 301 ls [.int (nI dd), .int (nI a), .int 1, .ref m0]) (by rw [eq9]) ?_
    refine lv_iload_n hx hb d_Mo_target_301 rfl (lv_at hl 6 rfl) ?_
    refine lv_bipush (v := 8) hx hb d_Mo_target_302 (by decide) ?_
    refine lv_icmp_ne (tgt := 311) hx hb d_Mo_target_304 rfl (fun _ => ?_) (fun hz9 => absurd hz9 (ee8))
    refine lv_iconst (v := 0) hx hb d_Mo_target_311 (by decide) ?_
    refine xw_go (w2 := [(m0, .inr (5, [.int th, .int (nI n), .ref oA, .ref aA, .ref bB, .ref cC, .int tl, .int (nI k), .ref gA, .ref zA, .ref bA, .ref sR, .ref sD, .ref rA, .ref eC, .ref eA, .ref pA, .ref dA, .ref kA, .ref acA, .int nx])), (oA, .inl (cI, 24, .inl Po)), (aA, .inl (cI, 24, .inl Pa)), (bB, .inl (cI, 24, .inl Pb)), (cC, .inl (cI, 24, .inl Pc)), (gA, .inl (cI, 1600, .inl G)), (zA, .inl (cZ, 400, .inl O)), (bA, .inl (cI, 25, .inl B)), (sR, .inl (cI, 8, .inl sr)), (sD, .inl (cI, 32, .inl sd)), (rA, .inl (cI, 16, .inl (tm_jn 8 R0 (upd (upd R1 a (C1 dd)) 0 0)))), (eC, .inl (cI, 128, .inl (tm_jn 64 C0 C1))), (eA, .inl (cI, 2, .inl (tm_tw e0 e1))), (pA, .inl (cI, 2, .inl (tm_tw h0 (nI (q + 1))))), (dA, .inl (cI, 2, .inl (tm_tw d0 (d1 + 1)))), (kA, .inl (cI, 2, .inl (tm_tw (nI k0) (nI (tm_dk k1 (nI dd)))))), (acA, .inl (cI, 240, .inl (tm_jn 120 A0 (tm_da A1 k1 (nI dd) 0 (C1 dd)))))]) (wr := []) (w1 := [(m0, .inr (5, [.int th, .int (nI n), .ref oA, .ref aA, .ref bB, .ref cC, .int tl, .int (nI k), .ref gA, .ref zA, .ref bA, .ref sR, .ref sD, .ref rA, .ref eC, .ref eA, .ref pA, .ref dA, .ref kA, .ref acA, .int nx])), (oA, .inl (cI, 24, .inl Po)), (aA, .inl (cI, 24, .inl Pa)), (bB, .inl (cI, 24, .inl Pb)), (cC, .inl (cI, 24, .inl Pc)), (gA, .inl (cI, 1600, .inl G)), (zA, .inl (cZ, 400, .inl O)), (bA, .inl (cI, 25, .inl B)), (sR, .inl (cI, 8, .inl sr)), (sD, .inl (cI, 32, .inl sd)), (rA, .inl (cI, 16, .inl (tm_jn 8 R0 (upd (upd R1 a (C1 dd)) 0 0)))), (eC, .inl (cI, 128, .inl (tm_jn 64 C0 C1))), (eA, .inl (cI, 2, .inl (tm_tw e0 e1))), (pA, .inl (cI, 2, .inl (tm_tw h0 (nI (q + 1))))), (dA, .inl (cI, 2, .inl (tm_tw d0 (d1 + 1)))), (kA, .inl (cI, 2, .inl (tm_tw (nI k0) (nI (tm_dk k1 (nI dd)))))), (acA, .inl (cI, 240, .inl (tm_jn 120 A0 (tm_da A1 k1 (nI dd) 0 (C1 dd)))))]) (va_runV (As := [.int 1, .int (nI a), .int (nI dd), .int 0]) (rest := []) (C := R_Mo) ⟨hx, hb, hml, hown, hg⟩ (c_Mo_move10 l D cI cZ cJ m0 oA aA bB cC gA zA bA sR sD rA eC eA pA dA kA acA Po Pa Pb Pc G O B sr sd R0 R1 C0 C1 A0 A1 n k k0 k1 th tl nx e0 e1 h0 (nI (q + 1)) d0 (d1 + 1) a dd (ha8) (hdM) (by omega) H.size) ⟨xg_B hg m_Mo_move.1 m_Mo_move.2.2.1 m_Mo_move.2.2.2.1 m_Mo_move.2.2.2.2 q731 rfl rfl ⟨Nat.le_of_ble_eq_true rfl, Nat.le_of_ble_eq_true rfl⟩, hg _ m_Mo_move.2.1, hg _ sp_Mo_move⟩ ⟨xw_blind, (va_recv (q0 := 0) hK.1 hP rfl rfl), xw_pre hK hP hD [0, 1, 2, 3, 4, 5, 6, 7, 8, 9, 10, 11, 12, 13, 14, 15, 16] (by decide) rfl⟩ rfl rfl hl.1 rfl (lv_room (Nat.le_of_ble_eq_true rfl)) d_Mo_target_312 ⟨Nat.zero_le _, Nat.zero_le _⟩) hP hD hS hA [0, 1, 2, 3, 4, 5, 6, 7, 8, 9, 10, 11, 12, 13, 14, 15, 16] [] [0, 1, 2, 3, 4, 5, 6, 7, 8, 9, 10, 11, 12, 13, 14, 15, 16] rfl rfl (by decide) (by decide) rfl (by decide) (fun H locs hP hD hS => ?_)
    refine lv_aload_n hx hb d_Mo_target_315 rfl (lv_at hl 8 rfl) ?_
    refine va_get (D := D) (ci := 5) (v := .ref rA) (C := R_Mo) (T := F_Mo) (N := 21) hx hb hg f_Mo hown hK.1 hP 0 rfl rfl 13 (by decide) (hg _ q576) (fun _ h9 => h9) rfl d_Mo_target_316 ?_
    refine lv_bipush (v := 8) hx hb d_Mo_target_319 (by decide) ?_
    refine lv_iconst (v := 0) hx hb d_Mo_target_321 (by decide) ?_
    refine xa_st hx hb hK hP hD hS 10 0 rfl rfl (kx := 8) (rfl) (by decide) (by decide) d_Mo_target_322 (fun H locs hP hD hS => ?_)
    have hP : va_P D cls [(m0, .inr (5, [.int th, .int (nI n), .ref oA, .ref aA, .ref bB, .ref cC, .int tl, .int (nI k), .ref gA, .ref zA, .ref bA, .ref sR, .ref sD, .ref rA, .ref eC, .ref eA, .ref pA, .ref dA, .ref kA, .ref acA, .int nx])), (oA, .inl (cI, 24, .inl Po)), (aA, .inl (cI, 24, .inl Pa)), (bB, .inl (cI, 24, .inl Pb)), (cC, .inl (cI, 24, .inl Pc)), (gA, .inl (cI, 1600, .inl G)), (zA, .inl (cZ, 400, .inl O)), (bA, .inl (cI, 25, .inl B)), (sR, .inl (cI, 8, .inl sr)), (sD, .inl (cI, 32, .inl sd)), (rA, .inl (cI, 16, .inl (upd (tm_jn 8 R0 (upd (upd R1 a (C1 dd)) 0 0)) 8 0))), (eC, .inl (cI, 128, .inl (tm_jn 64 C0 C1))), (eA, .inl (cI, 2, .inl (tm_tw e0 e1))), (pA, .inl (cI, 2, .inl (tm_tw h0 (nI (q + 1))))), (dA, .inl (cI, 2, .inl (tm_tw d0 (d1 + 1)))), (kA, .inl (cI, 2, .inl (tm_tw (nI k0) (nI (tm_dk k1 (nI dd)))))), (acA, .inl (cI, 240, .inl (tm_jn 120 A0 (tm_da A1 k1 (nI dd) 0 (C1 dd)))))] H := hP
    have hD : va_D A [(m0, .inr (5, [.int th, .int (nI n), .ref oA, .ref aA, .ref bB, .ref cC, .int tl, .int (nI k), .ref gA, .ref zA, .ref bA, .ref sR, .ref sD, .ref rA, .ref eC, .ref eA, .ref pA, .ref dA, .ref kA, .ref acA, .int nx])), (oA, .inl (cI, 24, .inl Po)), (aA, .inl (cI, 24, .inl Pa)), (bB, .inl (cI, 24, .inl Pb)), (cC, .inl (cI, 24, .inl Pc)), (gA, .inl (cI, 1600, .inl G)), (zA, .inl (cZ, 400, .inl O)), (bA, .inl (cI, 25, .inl B)), (sR, .inl (cI, 8, .inl sr)), (sD, .inl (cI, 32, .inl sd)), (rA, .inl (cI, 16, .inl (upd (tm_jn 8 R0 (upd (upd R1 a (C1 dd)) 0 0)) 8 0))), (eC, .inl (cI, 128, .inl (tm_jn 64 C0 C1))), (eA, .inl (cI, 2, .inl (tm_tw e0 e1))), (pA, .inl (cI, 2, .inl (tm_tw h0 (nI (q + 1))))), (dA, .inl (cI, 2, .inl (tm_tw d0 (d1 + 1)))), (kA, .inl (cI, 2, .inl (tm_tw (nI k0) (nI (tm_dk k1 (nI dd)))))), (acA, .inl (cI, 240, .inl (tm_jn 120 A0 (tm_da A1 k1 (nI dd) 0 (C1 dd)))))] := hD
    rw [show 8 = 8 + 0 by omega, tm_jn_uh] at hP hD
    have hP : va_P D cls [(m0, .inr (5, [.int th, .int (nI n), .ref oA, .ref aA, .ref bB, .ref cC, .int tl, .int (nI k), .ref gA, .ref zA, .ref bA, .ref sR, .ref sD, .ref rA, .ref eC, .ref eA, .ref pA, .ref dA, .ref kA, .ref acA, .int nx])), (oA, .inl (cI, 24, .inl Po)), (aA, .inl (cI, 24, .inl Pa)), (bB, .inl (cI, 24, .inl Pb)), (cC, .inl (cI, 24, .inl Pc)), (gA, .inl (cI, 1600, .inl G)), (zA, .inl (cZ, 400, .inl O)), (bA, .inl (cI, 25, .inl B)), (sR, .inl (cI, 8, .inl sr)), (sD, .inl (cI, 32, .inl sd)), (rA, .inl (cI, 16, .inl (tm_jn 8 R0 (upd (upd (upd R1 a (C1 dd)) 0 0) 0 0)))), (eC, .inl (cI, 128, .inl (tm_jn 64 C0 C1))), (eA, .inl (cI, 2, .inl (tm_tw e0 e1))), (pA, .inl (cI, 2, .inl (tm_tw h0 (nI (q + 1))))), (dA, .inl (cI, 2, .inl (tm_tw d0 (d1 + 1)))), (kA, .inl (cI, 2, .inl (tm_tw (nI k0) (nI (tm_dk k1 (nI dd)))))), (acA, .inl (cI, 240, .inl (tm_jn 120 A0 (tm_da A1 k1 (nI dd) 0 (C1 dd)))))] H := hP
    have hD : va_D A [(m0, .inr (5, [.int th, .int (nI n), .ref oA, .ref aA, .ref bB, .ref cC, .int tl, .int (nI k), .ref gA, .ref zA, .ref bA, .ref sR, .ref sD, .ref rA, .ref eC, .ref eA, .ref pA, .ref dA, .ref kA, .ref acA, .int nx])), (oA, .inl (cI, 24, .inl Po)), (aA, .inl (cI, 24, .inl Pa)), (bB, .inl (cI, 24, .inl Pb)), (cC, .inl (cI, 24, .inl Pc)), (gA, .inl (cI, 1600, .inl G)), (zA, .inl (cZ, 400, .inl O)), (bA, .inl (cI, 25, .inl B)), (sR, .inl (cI, 8, .inl sr)), (sD, .inl (cI, 32, .inl sd)), (rA, .inl (cI, 16, .inl (tm_jn 8 R0 (upd (upd (upd R1 a (C1 dd)) 0 0) 0 0)))), (eC, .inl (cI, 128, .inl (tm_jn 64 C0 C1))), (eA, .inl (cI, 2, .inl (tm_tw e0 e1))), (pA, .inl (cI, 2, .inl (tm_tw h0 (nI (q + 1))))), (dA, .inl (cI, 2, .inl (tm_tw d0 (d1 + 1)))), (kA, .inl (cI, 2, .inl (tm_tw (nI k0) (nI (tm_dk k1 (nI dd)))))), (acA, .inl (cI, 240, .inl (tm_jn 120 A0 (tm_da A1 k1 (nI dd) 0 (C1 dd)))))] := hD
    have ew1_1 : (upd (upd (upd R1 a (C1 dd)) 0 0) 0 0) = ((tm_ts G q (R1, C1, A1, k1, nI q, d1, e1, x1)).1) := by rw [xn_uu, tm_set_m hR0 ha8]; simp [tm_ts, tm_mR, hv, hod, ha, hd, hc_dd, f13, ee0, ee5, ee6, ee7, ee8, ee9, ee10, ee11, ee12, ee13, f7, f9, f4]
    have ew1 : tm_jn 8 R0 (upd (upd (upd R1 a (C1 dd)) 0 0) 0 0) = tm_jn 8 R0 ((tm_ts G q (R1, C1, A1, k1, nI q, d1, e1, x1)).1) := congr (congrArg (tm_jn 8) rfl) ew1_1
    have ew2_1 : C1 = ((tm_ts G q (R1, C1, A1, k1, nI q, d1, e1, x1)).2.1) := by simp [tm_ts, tm_mC, hv, hod, ha, hd, hc_dd, hc_a, f13, ee0, ee5, ee6, ee7, ee8, ee9, ee10, ee11, ee12, ee13, f7, f9, f4]
    have ew2 : tm_jn 64 C0 C1 = tm_jn 64 C0 ((tm_ts G q (R1, C1, A1, k1, nI q, d1, e1, x1)).2.1) := congr (congrArg (tm_jn 64) rfl) ew2_1
    have ew3_1 : e1 = ((tm_ts G q (R1, C1, A1, k1, nI q, d1, e1, x1)).2.2.2.2.2.2.1) := by simp [tm_ts, hv, hod, hd, f13, ee0, ee5, ee6, ee7, ee8, ee9, ee10, ee11, ee12, ee13, f7, f9, f4]
    have ew3 : tm_tw e0 e1 = tm_tw e0 ((tm_ts G q (R1, C1, A1, k1, nI q, d1, e1, x1)).2.2.2.2.2.2.1) := congr (congrArg (tm_tw) rfl) ew3_1
    have ew4_1 : (nI (q + 1)) = ((tm_ts G q (R1, C1, A1, k1, nI q, d1, e1, x1)).2.2.2.2.1) := by simp [tm_ts, hv, hod, hd, f13, ee0, ee5, ee6, ee7, ee8, ee9, ee10, ee11, ee12, ee13, f7, f9, f4]
    have ew4 : tm_tw h0 (nI (q + 1)) = tm_tw h0 ((tm_ts G q (R1, C1, A1, k1, nI q, d1, e1, x1)).2.2.2.2.1) := congr (congrArg (tm_tw) rfl) ew4_1
    have ew5_1 : (d1 + 1) = ((tm_ts G q (R1, C1, A1, k1, nI q, d1, e1, x1)).2.2.2.2.2.1) := by simp [tm_ts, hv, hod, hd, f13, ee0, ee5, ee6, ee7, ee8, ee9, ee10, ee11, ee12, ee13, f7, f9, f4]
    have ew5 : tm_tw d0 (d1 + 1) = tm_tw d0 ((tm_ts G q (R1, C1, A1, k1, nI q, d1, e1, x1)).2.2.2.2.2.1) := congr (congrArg (tm_tw) rfl) ew5_1
    have ew6_1 : (nI (tm_dk k1 (nI dd))) = (nI (tm_ts G q (R1, C1, A1, k1, nI q, d1, e1, x1)).2.2.2.1) := congrArg nI (by simp [tm_ts, hv, hod, hd, f13, ee0, ee5, ee6, ee7, ee8, ee9, ee10, ee11, ee12, ee13, f7, f9, f4])
    have ew6 : tm_tw (nI k0) (nI (tm_dk k1 (nI dd))) = tm_tw (nI k0) (nI (tm_ts G q (R1, C1, A1, k1, nI q, d1, e1, x1)).2.2.2.1) := congr (congrArg (tm_tw) rfl) ew6_1
    have ew7_1 : (tm_da A1 k1 (nI dd) 0 (C1 dd)) = ((tm_ts G q (R1, C1, A1, k1, nI q, d1, e1, x1)).2.2.1) := by simp [tm_ts, tm_mA, hv, hod, ha, hd, hc_dd, hc_a, f13, ee0, ee5, ee6, ee7, ee8, ee9, ee10, ee11, ee12, ee13, f7, f9, f4]
    have ew7 : tm_jn 120 A0 (tm_da A1 k1 (nI dd) 0 (C1 dd)) = tm_jn 120 A0 ((tm_ts G q (R1, C1, A1, k1, nI q, d1, e1, x1)).2.2.1) := congr (congrArg (tm_jn 120) rfl) ew7_1
    have hP : va_P D cls [(m0, .inr (5, [.int th, .int (nI n), .ref oA, .ref aA, .ref bB, .ref cC, .int tl, .int (nI k), .ref gA, .ref zA, .ref bA, .ref sR, .ref sD, .ref rA, .ref eC, .ref eA, .ref pA, .ref dA, .ref kA, .ref acA, .int nx])), (oA, .inl (cI, 24, .inl Po)), (aA, .inl (cI, 24, .inl Pa)), (bB, .inl (cI, 24, .inl Pb)), (cC, .inl (cI, 24, .inl Pc)), (gA, .inl (cI, 1600, .inl G)), (zA, .inl (cZ, 400, .inl O)), (bA, .inl (cI, 25, .inl B)), (sR, .inl (cI, 8, .inl sr)), (sD, .inl (cI, 32, .inl sd)), (rA, .inl (cI, 16, .inl (tm_jn 8 R0 ((tm_ts G q (R1, C1, A1, k1, nI q, d1, e1, x1)).1)))), (eC, .inl (cI, 128, .inl (tm_jn 64 C0 ((tm_ts G q (R1, C1, A1, k1, nI q, d1, e1, x1)).2.1)))), (eA, .inl (cI, 2, .inl (tm_tw e0 ((tm_ts G q (R1, C1, A1, k1, nI q, d1, e1, x1)).2.2.2.2.2.2.1)))), (pA, .inl (cI, 2, .inl (tm_tw h0 ((tm_ts G q (R1, C1, A1, k1, nI q, d1, e1, x1)).2.2.2.2.1)))), (dA, .inl (cI, 2, .inl (tm_tw d0 ((tm_ts G q (R1, C1, A1, k1, nI q, d1, e1, x1)).2.2.2.2.2.1)))), (kA, .inl (cI, 2, .inl (tm_tw (nI k0) (nI (tm_ts G q (R1, C1, A1, k1, nI q, d1, e1, x1)).2.2.2.1)))), (acA, .inl (cI, 240, .inl (tm_jn 120 A0 ((tm_ts G q (R1, C1, A1, k1, nI q, d1, e1, x1)).2.2.1))))] H := by rw [← ew1, ← ew2, ← ew3, ← ew4, ← ew5, ← ew6, ← ew7]; exact hP
    have hD : va_D A [(m0, .inr (5, [.int th, .int (nI n), .ref oA, .ref aA, .ref bB, .ref cC, .int tl, .int (nI k), .ref gA, .ref zA, .ref bA, .ref sR, .ref sD, .ref rA, .ref eC, .ref eA, .ref pA, .ref dA, .ref kA, .ref acA, .int nx])), (oA, .inl (cI, 24, .inl Po)), (aA, .inl (cI, 24, .inl Pa)), (bB, .inl (cI, 24, .inl Pb)), (cC, .inl (cI, 24, .inl Pc)), (gA, .inl (cI, 1600, .inl G)), (zA, .inl (cZ, 400, .inl O)), (bA, .inl (cI, 25, .inl B)), (sR, .inl (cI, 8, .inl sr)), (sD, .inl (cI, 32, .inl sd)), (rA, .inl (cI, 16, .inl (tm_jn 8 R0 ((tm_ts G q (R1, C1, A1, k1, nI q, d1, e1, x1)).1)))), (eC, .inl (cI, 128, .inl (tm_jn 64 C0 ((tm_ts G q (R1, C1, A1, k1, nI q, d1, e1, x1)).2.1)))), (eA, .inl (cI, 2, .inl (tm_tw e0 ((tm_ts G q (R1, C1, A1, k1, nI q, d1, e1, x1)).2.2.2.2.2.2.1)))), (pA, .inl (cI, 2, .inl (tm_tw h0 ((tm_ts G q (R1, C1, A1, k1, nI q, d1, e1, x1)).2.2.2.2.1)))), (dA, .inl (cI, 2, .inl (tm_tw d0 ((tm_ts G q (R1, C1, A1, k1, nI q, d1, e1, x1)).2.2.2.2.2.1)))), (kA, .inl (cI, 2, .inl (tm_tw (nI k0) (nI (tm_ts G q (R1, C1, A1, k1, nI q, d1, e1, x1)).2.2.2.1)))), (acA, .inl (cI, 240, .inl (tm_jn 120 A0 ((tm_ts G q (R1, C1, A1, k1, nI q, d1, e1, x1)).2.2.1))))] := by rw [← ew1, ← ew2, ← ew3, ← ew4, ← ew5, ← ew6, ← ew7]; exact hD
    exact W.vret hx hb hr (fun t9 ht9 hW9 => ⟨⟨(), rfl, trivial, by rw [ht9]; exact hP, hD⟩, hS.F ht9⟩) hS.2.2 d_Mo_target_323
  · have f13 : ¬ 13 < nI v := nI_nlt (a := 13) (b := v) (by omega) (by decide)
    have ee0 : ¬ nI v = 0 := xn_ne (w := 0) (by omega) (by decide) (by omega)
    have ee5 : ¬ nI v = 5 := xn_ne (w := 5) (by omega) (by decide) (by omega)
    have ee6 : ¬ nI v = 6 := xn_ne (w := 6) (by omega) (by decide) (by omega)
    have ee7 : ¬ nI v = 7 := xn_ne (w := 7) (by omega) (by decide) (by omega)
    have ee8 : nI v = 8 := by rw [hcase]; rfl
    have ee9 : ¬ nI v = 9 := xn_ne (w := 9) (by omega) (by decide) (by omega)
    have ee10 : ¬ nI v = 10 := xn_ne (w := 10) (by omega) (by decide) (by omega)
    have ee11 : ¬ nI v = 11 := xn_ne (w := 11) (by omega) (by decide) (by omega)
    have ee12 : ¬ nI v = 12 := xn_ne (w := 12) (by omega) (by decide) (by omega)
    have ee13 : ¬ nI v = 13 := xn_ne (w := 13) (by omega) (by decide) (by omega)
    have f7 : ¬ nI v < 7 := nI_nlt (a := v) (b := 7) (by omega) (by omega)
    have f9 : nI v < 9 := nI_lt (a := v) (b := 9) (by omega) (by decide)
    have f4 : 4 < nI v := nI_lt (a := 4) (b := v) (by omega) (by omega)
    obtain ⟨hd, hdM⟩ := hmem (by omega) (by omega)
    have hc_dd : (nI dd).toNatClampNeg = dd := nI_clamp (by omega)
    have hod : ¬ (nI dd < 0 ∨ nI 64 ≤ nI dd) := not_or.mpr ⟨nI_pos (by omega), nI_ge (by omega) (by omega)⟩
    refine lv_aload_n hx hb d_Mo_target_0 rfl (lv_at hl 0 rfl) ?_
    refine va_get (D := D) (ci := 5) (v := .ref pA) (C := R_Mo) (T := F_Mo) (N := 21) hx hb hg f_Mo hown hK.1 hP 0 rfl rfl 16 (by decide) (hg _ q579) (fun _ h9 => h9) rfl d_Mo_target_1 ?_
    refine lv_iconst (v := 1) hx hb d_Mo_target_4 (by decide) ?_
    refine xa_ld hx hb hK hP 13 0 rfl rfl (kx := 1) (rfl) (by decide) (by decide) d_Mo_target_5 ?_
    have eq9 : ((tm_tw h0 (nI q)) 1 : Int32) = nI q := rfl
    refine W.eq (g2 := F0 m 6 ls [.int (nI q)]) (by rw [eq9]) ?_
    refine lv_istore_n hx hb d_Mo_target_6 rfl hl (by decide) rfl (fun ls hl => ?_)
    have hl : lv_has ls 9 [(1, .int (nI q)), (0, .ref m0)] := hl
    refine lv_aload_n hx hb d_Mo_target_7 rfl (lv_at hl 1 rfl) ?_
    refine va_get (D := D) (ci := 5) (v := .ref gA) (C := R_Mo) (T := F_Mo) (N := 21) hx hb hg f_Mo hown hK.1 hP 0 rfl rfl 8 (by decide) (hg _ q571) (fun _ h9 => h9) rfl d_Mo_target_8 ?_
    refine lv_iconst (v := 4) hx hb d_Mo_target_11 (by decide) ?_
    refine lv_iload_n hx hb d_Mo_target_12 rfl (lv_at hl 0 rfl) ?_
    refine lv_imul hx hb d_Mo_target_13 ?_
    have eq9 : (4 * (nI q) : Int32) = nI (4 * q) := pk_mul 4 q
    refine W.eq (g2 := F0 m 14 ls [.int (nI (4 * q)), .ref gA]) (by rw [eq9]) ?_
    refine xa_ld hx hb hK hP 5 0 rfl rfl (kx := 4 * q) (rfl) (by omega) (by decide) d_Mo_target_14 ?_
    have eq9 : (G (4 * q) : Int32) = nI v := hv
    refine W.eq (g2 := F0 m 15 ls [.int (nI v)]) (by rw [eq9]) ?_
    refine lv_istore_n hx hb d_Mo_target_15 rfl hl (by decide) rfl (fun ls hl => ?_)
    have hl : lv_has ls 9 [(2, .int (nI v)), (1, .int (nI q)), (0, .ref m0)] := hl
    refine lv_aload_n hx hb d_Mo_target_16 rfl (lv_at hl 2 rfl) ?_
    refine va_get (D := D) (ci := 5) (v := .ref gA) (C := R_Mo) (T := F_Mo) (N := 21) hx hb hg f_Mo hown hK.1 hP 0 rfl rfl 8 (by decide) (hg _ q571) (fun _ h9 => h9) rfl d_Mo_target_17 ?_
    refine lv_iconst (v := 4) hx hb d_Mo_target_20 (by decide) ?_
    refine lv_iload_n hx hb d_Mo_target_21 rfl (lv_at hl 1 rfl) ?_
    refine lv_imul hx hb d_Mo_target_22 ?_
    have eq9 : (4 * (nI q) : Int32) = nI (4 * q) := pk_mul 4 q
    refine W.eq (g2 := F0 m 23 ls [.int (nI (4 * q)), .ref gA]) (by rw [eq9]) ?_
    refine lv_iconst (v := 1) hx hb d_Mo_target_23 (by decide) ?_
    refine lv_iadd hx hb d_Mo_target_24 ?_
    have eq9 : ((nI (4 * q)) + 1 : Int32) = nI (4 * q + 1) := nI_add (4 * q) 1
    refine W.eq (g2 := F0 m 25 ls [.int (nI (4 * q + 1)), .ref gA]) (by rw [eq9]) ?_
    refine xa_ld hx hb hK hP 5 0 rfl rfl (kx := 4 * q + 1) (rfl) (by omega) (by decide) d_Mo_target_25 ?_
    have eq9 : (G (4 * q + 1) : Int32) = nI a := ha
    refine W.eq (g2 := F0 m 26 ls [.int (nI a)]) (by rw [eq9]) ?_
    refine lv_istore_n hx hb d_Mo_target_26 rfl hl (by decide) rfl (fun ls hl => ?_)
    have hl : lv_has ls 9 [(3, .int (nI a)), (2, .int (nI v)), (1, .int (nI q)), (0, .ref m0)] := hl
    refine lv_aload_n hx hb d_Mo_target_27 rfl (lv_at hl 3 rfl) ?_
    refine va_get (D := D) (ci := 5) (v := .ref gA) (C := R_Mo) (T := F_Mo) (N := 21) hx hb hg f_Mo hown hK.1 hP 0 rfl rfl 8 (by decide) (hg _ q571) (fun _ h9 => h9) rfl d_Mo_target_28 ?_
    refine lv_iconst (v := 4) hx hb d_Mo_target_31 (by decide) ?_
    refine lv_iload_n hx hb d_Mo_target_32 rfl (lv_at hl 2 rfl) ?_
    refine lv_imul hx hb d_Mo_target_33 ?_
    have eq9 : (4 * (nI q) : Int32) = nI (4 * q) := pk_mul 4 q
    refine W.eq (g2 := F0 m 34 ls [.int (nI (4 * q)), .ref gA]) (by rw [eq9]) ?_
    refine lv_iconst (v := 2) hx hb d_Mo_target_34 (by decide) ?_
    refine lv_iadd hx hb d_Mo_target_35 ?_
    have eq9 : ((nI (4 * q)) + 2 : Int32) = nI (4 * q + 2) := nI_add (4 * q) 2
    refine W.eq (g2 := F0 m 36 ls [.int (nI (4 * q + 2)), .ref gA]) (by rw [eq9]) ?_
    refine xa_ld hx hb hK hP 5 0 rfl rfl (kx := 4 * q + 2) (rfl) (by omega) (by decide) d_Mo_target_36 ?_
    have eq9 : (G (4 * q + 2) : Int32) = nI b := hbb
    refine W.eq (g2 := F0 m 37 ls [.int (nI b)]) (by rw [eq9]) ?_
    refine lv_istore hx hb d_Mo_target_37 hl (by decide) rfl (fun ls hl => ?_)
    have hl : lv_has ls 9 [(4, .int (nI b)), (3, .int (nI a)), (2, .int (nI v)), (1, .int (nI q)), (0, .ref m0)] := hl
    refine lv_aload_n hx hb d_Mo_target_39 rfl (lv_at hl 4 rfl) ?_
    refine va_get (D := D) (ci := 5) (v := .ref gA) (C := R_Mo) (T := F_Mo) (N := 21) hx hb hg f_Mo hown hK.1 hP 0 rfl rfl 8 (by decide) (hg _ q571) (fun _ h9 => h9) rfl d_Mo_target_40 ?_
    refine lv_iconst (v := 4) hx hb d_Mo_target_43 (by decide) ?_
    refine lv_iload_n hx hb d_Mo_target_44 rfl (lv_at hl 3 rfl) ?_
    refine lv_imul hx hb d_Mo_target_45 ?_
    have eq9 : (4 * (nI q) : Int32) = nI (4 * q) := pk_mul 4 q
    refine W.eq (g2 := F0 m 46 ls [.int (nI (4 * q)), .ref gA]) (by rw [eq9]) ?_
    refine lv_iconst (v := 3) hx hb d_Mo_target_46 (by decide) ?_
    refine lv_iadd hx hb d_Mo_target_47 ?_
    have eq9 : ((nI (4 * q)) + 3 : Int32) = nI (4 * q + 3) := nI_add (4 * q) 3
    refine W.eq (g2 := F0 m 48 ls [.int (nI (4 * q + 3)), .ref gA]) (by rw [eq9]) ?_
    refine xa_ld hx hb hK hP 5 0 rfl rfl (kx := 4 * q + 3) (rfl) (by omega) (by decide) d_Mo_target_48 ?_
    refine lv_istore hx hb d_Mo_target_49 hl (by decide) rfl (fun ls hl => ?_)
    have hl : lv_has ls 9 [(5, .int (G (4 * q + 3))), (4, .int (nI b)), (3, .int (nI a)), (2, .int (nI v)), (1, .int (nI q)), (0, .ref m0)] := hl
    refine lv_aload_n hx hb d_Mo_target_51 rfl (lv_at hl 5 rfl) ?_
    refine va_get (D := D) (ci := 5) (v := .ref rA) (C := R_Mo) (T := F_Mo) (N := 21) hx hb hg f_Mo hown hK.1 hP 0 rfl rfl 13 (by decide) (hg _ q576) (fun _ h9 => h9) rfl d_Mo_target_52 ?_
    refine lv_bipush (v := 8) hx hb d_Mo_target_55 (by decide) ?_
    refine lv_iload_n hx hb d_Mo_target_57 rfl (lv_at hl 2 rfl) ?_
    refine lv_iadd hx hb d_Mo_target_58 ?_
    have eq9 : (8 + (nI a) : Int32) = nI (8 + a) := nI_add 8 a
    refine W.eq (g2 := F0 m 59 ls [.int (nI (8 + a)), .ref rA]) (by rw [eq9]) ?_
    refine xa_ld hx hb hK hP 10 0 rfl rfl (kx := 8 + a) (rfl) (by omega) (by decide) d_Mo_target_59 ?_
    have eq9 : ((tm_jn 8 R0 R1) (8 + a) : Int32) = R1 a := (congrArg (tm_jn 8 R0 R1) (show 8 + a = 8 + a by omega)).trans tm_jn_hi
    refine W.eq (g2 := F0 m 60 ls [.int (R1 a)]) (by rw [eq9]) ?_
    refine lv_istore hx hb d_Mo_target_60 hl (by decide) rfl (fun ls hl => ?_)
    have hl : lv_has ls 9 [(6, .int (R1 a)), (5, .int (G (4 * q + 3))), (4, .int (nI b)), (3, .int (nI a)), (2, .int (nI v)), (1, .int (nI q)), (0, .ref m0)] := hl
    refine lv_aload_n hx hb d_Mo_target_62 rfl (lv_at hl 6 rfl) ?_
    refine va_get (D := D) (ci := 5) (v := .ref rA) (C := R_Mo) (T := F_Mo) (N := 21) hx hb hg f_Mo hown hK.1 hP 0 rfl rfl 13 (by decide) (hg _ q576) (fun _ h9 => h9) rfl d_Mo_target_63 ?_
    refine lv_bipush (v := 8) hx hb d_Mo_target_66 (by decide) ?_
    refine lv_iload hx hb d_Mo_target_68 (lv_at hl 2 rfl) ?_
    refine lv_iadd hx hb d_Mo_target_70 ?_
    have eq9 : (8 + (nI b) : Int32) = nI (8 + b) := nI_add 8 b
    refine W.eq (g2 := F0 m 71 ls [.int (nI (8 + b)), .ref rA]) (by rw [eq9]) ?_
    refine xa_ld hx hb hK hP 10 0 rfl rfl (kx := 8 + b) (rfl) (by omega) (by decide) d_Mo_target_71 ?_
    have eq9 : ((tm_jn 8 R0 R1) (8 + b) : Int32) = R1 b := (congrArg (tm_jn 8 R0 R1) (show 8 + b = 8 + b by omega)).trans tm_jn_hi
    refine W.eq (g2 := F0 m 72 ls [.int (R1 b)]) (by rw [eq9]) ?_
    refine lv_istore hx hb d_Mo_target_72 hl (by decide) rfl (fun ls hl => ?_)
    have hl : lv_has ls 9 [(7, .int (R1 b)), (6, .int (R1 a)), (5, .int (G (4 * q + 3))), (4, .int (nI b)), (3, .int (nI a)), (2, .int (nI v)), (1, .int (nI q)), (0, .ref m0)] := hl
    refine lv_aload_n hx hb d_Mo_target_74 rfl (lv_at hl 7 rfl) ?_
    refine va_get (D := D) (ci := 5) (v := .ref dA) (C := R_Mo) (T := F_Mo) (N := 21) hx hb hg f_Mo hown hK.1 hP 0 rfl rfl 17 (by decide) (hg _ q580) (fun _ h9 => h9) rfl d_Mo_target_75 ?_
    refine lv_iconst (v := 1) hx hb d_Mo_target_78 (by decide) ?_
    refine lv_dup2_11 hx hb d_Mo_target_79 rfl rfl ?_
    refine xa_ld hx hb hK hP 14 0 rfl rfl (kx := 1) (rfl) (by decide) (by decide) d_Mo_target_80 ?_
    have eq9 : ((tm_tw d0 d1) 1 : Int32) = d1 := rfl
    refine W.eq (g2 := F0 m 81 ls [.int d1, .int 1, .ref dA]) (by rw [eq9]) ?_
    refine lv_iconst (v := 1) hx hb d_Mo_target_81 (by decide) ?_
    refine lv_iadd hx hb d_Mo_target_82 ?_
    refine xa_st hx hb hK hP hD hS 14 0 rfl rfl (kx := 1) (rfl) (by decide) (by decide) d_Mo_target_83 (fun H locs hP hD hS => ?_)
    have hP : va_P D cls [(m0, .inr (5, [.int th, .int (nI n), .ref oA, .ref aA, .ref bB, .ref cC, .int tl, .int (nI k), .ref gA, .ref zA, .ref bA, .ref sR, .ref sD, .ref rA, .ref eC, .ref eA, .ref pA, .ref dA, .ref kA, .ref acA, .int nx])), (oA, .inl (cI, 24, .inl Po)), (aA, .inl (cI, 24, .inl Pa)), (bB, .inl (cI, 24, .inl Pb)), (cC, .inl (cI, 24, .inl Pc)), (gA, .inl (cI, 1600, .inl G)), (zA, .inl (cZ, 400, .inl O)), (bA, .inl (cI, 25, .inl B)), (sR, .inl (cI, 8, .inl sr)), (sD, .inl (cI, 32, .inl sd)), (rA, .inl (cI, 16, .inl (tm_jn 8 R0 R1))), (eC, .inl (cI, 128, .inl (tm_jn 64 C0 C1))), (eA, .inl (cI, 2, .inl (tm_tw e0 e1))), (pA, .inl (cI, 2, .inl (tm_tw h0 (nI q)))), (dA, .inl (cI, 2, .inl (upd (tm_tw d0 d1) 1 (d1 + 1)))), (kA, .inl (cI, 2, .inl (tm_tw (nI k0) (nI k1)))), (acA, .inl (cI, 240, .inl (tm_jn 120 A0 A1)))] H := hP
    have hD : va_D A [(m0, .inr (5, [.int th, .int (nI n), .ref oA, .ref aA, .ref bB, .ref cC, .int tl, .int (nI k), .ref gA, .ref zA, .ref bA, .ref sR, .ref sD, .ref rA, .ref eC, .ref eA, .ref pA, .ref dA, .ref kA, .ref acA, .int nx])), (oA, .inl (cI, 24, .inl Po)), (aA, .inl (cI, 24, .inl Pa)), (bB, .inl (cI, 24, .inl Pb)), (cC, .inl (cI, 24, .inl Pc)), (gA, .inl (cI, 1600, .inl G)), (zA, .inl (cZ, 400, .inl O)), (bA, .inl (cI, 25, .inl B)), (sR, .inl (cI, 8, .inl sr)), (sD, .inl (cI, 32, .inl sd)), (rA, .inl (cI, 16, .inl (tm_jn 8 R0 R1))), (eC, .inl (cI, 128, .inl (tm_jn 64 C0 C1))), (eA, .inl (cI, 2, .inl (tm_tw e0 e1))), (pA, .inl (cI, 2, .inl (tm_tw h0 (nI q)))), (dA, .inl (cI, 2, .inl (upd (tm_tw d0 d1) 1 (d1 + 1)))), (kA, .inl (cI, 2, .inl (tm_tw (nI k0) (nI k1)))), (acA, .inl (cI, 240, .inl (tm_jn 120 A0 A1)))] := hD
    have hD := xa_D (e2 := .inl (cI, 2, .inl (tm_tw d0 (d1 + 1)))) hD 14 rfl
    have hP := xa_P (g := tm_tw d0 (d1 + 1)) hP 14 rfl (tm_tw_c)
    have hP : va_P D cls [(m0, .inr (5, [.int th, .int (nI n), .ref oA, .ref aA, .ref bB, .ref cC, .int tl, .int (nI k), .ref gA, .ref zA, .ref bA, .ref sR, .ref sD, .ref rA, .ref eC, .ref eA, .ref pA, .ref dA, .ref kA, .ref acA, .int nx])), (oA, .inl (cI, 24, .inl Po)), (aA, .inl (cI, 24, .inl Pa)), (bB, .inl (cI, 24, .inl Pb)), (cC, .inl (cI, 24, .inl Pc)), (gA, .inl (cI, 1600, .inl G)), (zA, .inl (cZ, 400, .inl O)), (bA, .inl (cI, 25, .inl B)), (sR, .inl (cI, 8, .inl sr)), (sD, .inl (cI, 32, .inl sd)), (rA, .inl (cI, 16, .inl (tm_jn 8 R0 R1))), (eC, .inl (cI, 128, .inl (tm_jn 64 C0 C1))), (eA, .inl (cI, 2, .inl (tm_tw e0 e1))), (pA, .inl (cI, 2, .inl (tm_tw h0 (nI q)))), (dA, .inl (cI, 2, .inl (tm_tw d0 (d1 + 1)))), (kA, .inl (cI, 2, .inl (tm_tw (nI k0) (nI k1)))), (acA, .inl (cI, 240, .inl (tm_jn 120 A0 A1)))] H := hP
    have hD : va_D A [(m0, .inr (5, [.int th, .int (nI n), .ref oA, .ref aA, .ref bB, .ref cC, .int tl, .int (nI k), .ref gA, .ref zA, .ref bA, .ref sR, .ref sD, .ref rA, .ref eC, .ref eA, .ref pA, .ref dA, .ref kA, .ref acA, .int nx])), (oA, .inl (cI, 24, .inl Po)), (aA, .inl (cI, 24, .inl Pa)), (bB, .inl (cI, 24, .inl Pb)), (cC, .inl (cI, 24, .inl Pc)), (gA, .inl (cI, 1600, .inl G)), (zA, .inl (cZ, 400, .inl O)), (bA, .inl (cI, 25, .inl B)), (sR, .inl (cI, 8, .inl sr)), (sD, .inl (cI, 32, .inl sd)), (rA, .inl (cI, 16, .inl (tm_jn 8 R0 R1))), (eC, .inl (cI, 128, .inl (tm_jn 64 C0 C1))), (eA, .inl (cI, 2, .inl (tm_tw e0 e1))), (pA, .inl (cI, 2, .inl (tm_tw h0 (nI q)))), (dA, .inl (cI, 2, .inl (tm_tw d0 (d1 + 1)))), (kA, .inl (cI, 2, .inl (tm_tw (nI k0) (nI k1)))), (acA, .inl (cI, 240, .inl (tm_jn 120 A0 A1)))] := hD
    refine lv_iload_n hx hb d_Mo_target_84 rfl (lv_at hl 5 rfl) ?_
    refine lv_if_ne (tgt := 105) hx hb d_Mo_target_85 rfl (fun _ => ?_) (fun hz9 => absurd hz9 (ee0))
    refine lv_iload_n hx hb d_Mo_target_105 rfl (lv_at hl 5 rfl) ?_
    refine lv_bipush (v := 9) hx hb d_Mo_target_106 (by decide) ?_
    refine lv_icmp_ne (tgt := 118) hx hb d_Mo_target_108 rfl (fun _ => ?_) (fun hz9 => absurd hz9 (ee9))
    refine lv_iload_n hx hb d_Mo_target_118 rfl (lv_at hl 5 rfl) ?_
    refine lv_bipush (v := 10) hx hb d_Mo_target_119 (by decide) ?_
    refine lv_icmp_ne (tgt := 131) hx hb d_Mo_target_121 rfl (fun _ => ?_) (fun hz9 => absurd hz9 (ee10))
    refine lv_iload_n hx hb d_Mo_target_131 rfl (lv_at hl 5 rfl) ?_
    refine lv_bipush (v := 11) hx hb d_Mo_target_132 (by decide) ?_
    refine lv_icmp_eq (tgt := 156) hx hb d_Mo_target_134 rfl (fun hz9 => absurd hz9 (ee11)) (fun _ => ?_)
    refine lv_iload_n hx hb d_Mo_target_137 rfl (lv_at hl 5 rfl) ?_
    refine lv_bipush (v := 12) hx hb d_Mo_target_138 (by decide) ?_
    refine lv_icmp_ne (tgt := 160) hx hb d_Mo_target_140 rfl (fun _ => ?_) (fun hz9 => absurd hz9 (ee12))
    refine lv_iconst (v := 0) hx hb d_Mo_target_160 (by decide) ?_
    refine lv_istore hx hb d_Mo_target_161 hl (by decide) rfl (fun ls hl => ?_)
    have hl : lv_has ls 9 [(8, .int 0), (7, .int (R1 b)), (6, .int (R1 a)), (5, .int (G (4 * q + 3))), (4, .int (nI b)), (3, .int (nI a)), (2, .int (nI v)), (1, .int (nI q)), (0, .ref m0)] := hl
    refine lv_aload_n hx hb d_Mo_target_163 rfl (lv_at hl 8 rfl) ?_
    refine va_get (D := D) (ci := 5) (v := .ref pA) (C := R_Mo) (T := F_Mo) (N := 21) hx hb hg f_Mo hown hK.1 hP 0 rfl rfl 16 (by decide) (hg _ q579) (fun _ h9 => h9) rfl d_Mo_target_164 ?_
    refine lv_iconst (v := 1) hx hb d_Mo_target_167 (by decide) ?_
    refine lv_iload hx hb d_Mo_target_168 (lv_at hl 0 rfl) ?_
    refine lv_if_eq (tgt := 178) hx hb d_Mo_target_170 rfl (fun _ => ?_) (fun hz9 => absurd (by decide) hz9)
    refine lv_iload_n hx hb d_Mo_target_178 rfl (lv_at hl 6 rfl) ?_
    refine lv_bipush (v := 13) hx hb d_Mo_target_179 (by decide) ?_
    refine lv_icmp_ne (tgt := 189) hx hb d_Mo_target_181 rfl (fun _ => ?_) (fun hz9 => absurd hz9 (ee13))
    refine lv_iload_n hx hb d_Mo_target_189 rfl (lv_at hl 7 rfl) ?_
    refine lv_iconst (v := 1) hx hb d_Mo_target_190 (by decide) ?_
    refine lv_iadd hx hb d_Mo_target_191 ?_
    have eq9 : ((nI q) + 1 : Int32) = nI (q + 1) := nI_add q 1
    refine W.eq (g2 := F0 m 192 ls [.int (nI (q + 1)), .int 1, .ref pA]) (by rw [eq9]) ?_
    refine xa_st hx hb hK hP hD hS 13 0 rfl rfl (kx := 1) (rfl) (by decide) (by decide) d_Mo_target_192 (fun H locs hP hD hS => ?_)
    have hP : va_P D cls [(m0, .inr (5, [.int th, .int (nI n), .ref oA, .ref aA, .ref bB, .ref cC, .int tl, .int (nI k), .ref gA, .ref zA, .ref bA, .ref sR, .ref sD, .ref rA, .ref eC, .ref eA, .ref pA, .ref dA, .ref kA, .ref acA, .int nx])), (oA, .inl (cI, 24, .inl Po)), (aA, .inl (cI, 24, .inl Pa)), (bB, .inl (cI, 24, .inl Pb)), (cC, .inl (cI, 24, .inl Pc)), (gA, .inl (cI, 1600, .inl G)), (zA, .inl (cZ, 400, .inl O)), (bA, .inl (cI, 25, .inl B)), (sR, .inl (cI, 8, .inl sr)), (sD, .inl (cI, 32, .inl sd)), (rA, .inl (cI, 16, .inl (tm_jn 8 R0 R1))), (eC, .inl (cI, 128, .inl (tm_jn 64 C0 C1))), (eA, .inl (cI, 2, .inl (tm_tw e0 e1))), (pA, .inl (cI, 2, .inl (upd (tm_tw h0 (nI q)) 1 (nI (q + 1))))), (dA, .inl (cI, 2, .inl (tm_tw d0 (d1 + 1)))), (kA, .inl (cI, 2, .inl (tm_tw (nI k0) (nI k1)))), (acA, .inl (cI, 240, .inl (tm_jn 120 A0 A1)))] H := hP
    have hD : va_D A [(m0, .inr (5, [.int th, .int (nI n), .ref oA, .ref aA, .ref bB, .ref cC, .int tl, .int (nI k), .ref gA, .ref zA, .ref bA, .ref sR, .ref sD, .ref rA, .ref eC, .ref eA, .ref pA, .ref dA, .ref kA, .ref acA, .int nx])), (oA, .inl (cI, 24, .inl Po)), (aA, .inl (cI, 24, .inl Pa)), (bB, .inl (cI, 24, .inl Pb)), (cC, .inl (cI, 24, .inl Pc)), (gA, .inl (cI, 1600, .inl G)), (zA, .inl (cZ, 400, .inl O)), (bA, .inl (cI, 25, .inl B)), (sR, .inl (cI, 8, .inl sr)), (sD, .inl (cI, 32, .inl sd)), (rA, .inl (cI, 16, .inl (tm_jn 8 R0 R1))), (eC, .inl (cI, 128, .inl (tm_jn 64 C0 C1))), (eA, .inl (cI, 2, .inl (tm_tw e0 e1))), (pA, .inl (cI, 2, .inl (upd (tm_tw h0 (nI q)) 1 (nI (q + 1))))), (dA, .inl (cI, 2, .inl (tm_tw d0 (d1 + 1)))), (kA, .inl (cI, 2, .inl (tm_tw (nI k0) (nI k1)))), (acA, .inl (cI, 240, .inl (tm_jn 120 A0 A1)))] := hD
    have hD := xa_D (e2 := .inl (cI, 2, .inl (tm_tw h0 (nI (q + 1))))) hD 13 rfl
    have hP := xa_P (g := tm_tw h0 (nI (q + 1))) hP 13 rfl (tm_tw_c)
    have hP : va_P D cls [(m0, .inr (5, [.int th, .int (nI n), .ref oA, .ref aA, .ref bB, .ref cC, .int tl, .int (nI k), .ref gA, .ref zA, .ref bA, .ref sR, .ref sD, .ref rA, .ref eC, .ref eA, .ref pA, .ref dA, .ref kA, .ref acA, .int nx])), (oA, .inl (cI, 24, .inl Po)), (aA, .inl (cI, 24, .inl Pa)), (bB, .inl (cI, 24, .inl Pb)), (cC, .inl (cI, 24, .inl Pc)), (gA, .inl (cI, 1600, .inl G)), (zA, .inl (cZ, 400, .inl O)), (bA, .inl (cI, 25, .inl B)), (sR, .inl (cI, 8, .inl sr)), (sD, .inl (cI, 32, .inl sd)), (rA, .inl (cI, 16, .inl (tm_jn 8 R0 R1))), (eC, .inl (cI, 128, .inl (tm_jn 64 C0 C1))), (eA, .inl (cI, 2, .inl (tm_tw e0 e1))), (pA, .inl (cI, 2, .inl (tm_tw h0 (nI (q + 1))))), (dA, .inl (cI, 2, .inl (tm_tw d0 (d1 + 1)))), (kA, .inl (cI, 2, .inl (tm_tw (nI k0) (nI k1)))), (acA, .inl (cI, 240, .inl (tm_jn 120 A0 A1)))] H := hP
    have hD : va_D A [(m0, .inr (5, [.int th, .int (nI n), .ref oA, .ref aA, .ref bB, .ref cC, .int tl, .int (nI k), .ref gA, .ref zA, .ref bA, .ref sR, .ref sD, .ref rA, .ref eC, .ref eA, .ref pA, .ref dA, .ref kA, .ref acA, .int nx])), (oA, .inl (cI, 24, .inl Po)), (aA, .inl (cI, 24, .inl Pa)), (bB, .inl (cI, 24, .inl Pb)), (cC, .inl (cI, 24, .inl Pc)), (gA, .inl (cI, 1600, .inl G)), (zA, .inl (cZ, 400, .inl O)), (bA, .inl (cI, 25, .inl B)), (sR, .inl (cI, 8, .inl sr)), (sD, .inl (cI, 32, .inl sd)), (rA, .inl (cI, 16, .inl (tm_jn 8 R0 R1))), (eC, .inl (cI, 128, .inl (tm_jn 64 C0 C1))), (eA, .inl (cI, 2, .inl (tm_tw e0 e1))), (pA, .inl (cI, 2, .inl (tm_tw h0 (nI (q + 1))))), (dA, .inl (cI, 2, .inl (tm_tw d0 (d1 + 1)))), (kA, .inl (cI, 2, .inl (tm_tw (nI k0) (nI k1)))), (acA, .inl (cI, 240, .inl (tm_jn 120 A0 A1)))] := hD
    refine lv_iload_n hx hb d_Mo_target_193 rfl (lv_at hl 6 rfl) ?_
    refine lv_iconst (v := 5) hx hb d_Mo_target_194 (by decide) ?_
    refine lv_icmp_ge (tgt := 226) hx hb d_Mo_target_195 rfl (fun _ => ?_) (fun hz9 => absurd (nI_le (a := 5) (b := v) (by omega) (by omega)) hz9)
    refine lv_iload_n hx hb d_Mo_target_226 rfl (lv_at hl 6 rfl) ?_
    refine lv_iconst (v := 5) hx hb d_Mo_target_227 (by decide) ?_
    refine lv_icmp_ne (tgt := 251) hx hb d_Mo_target_228 rfl (fun _ => ?_) (fun hz9 => absurd hz9 (ee5))
    refine lv_iload_n hx hb d_Mo_target_251 rfl (lv_at hl 6 rfl) ?_
    refine lv_bipush (v := 6) hx hb d_Mo_target_252 (by decide) ?_
    refine lv_icmp_ne (tgt := 278) hx hb d_Mo_target_254 rfl (fun _ => ?_) (fun hz9 => absurd hz9 (ee6))
    refine lv_iload_n hx hb d_Mo_target_278 rfl (lv_at hl 6 rfl) ?_
    refine lv_bipush (v := 7) hx hb d_Mo_target_279 (by decide) ?_
    refine lv_icmp_eq (tgt := 290) hx hb d_Mo_target_281 rfl (fun hz9 => absurd hz9 (ee7)) (fun _ => ?_)
    refine lv_iload_n hx hb d_Mo_target_284 rfl (lv_at hl 6 rfl) ?_
    refine lv_bipush (v := 8) hx hb d_Mo_target_285 (by decide) ?_
    refine lv_icmp_ne (tgt := 315) hx hb d_Mo_target_287 rfl (fun hz9 => absurd (ee8) hz9) (fun _ => ?_)
    refine lv_aload_n hx hb d_Mo_target_290 rfl (lv_at hl 8 rfl) ?_
    refine lv_iconst (v := 1) hx hb d_Mo_target_291 (by decide) ?_
    refine lv_iload_n hx hb d_Mo_target_292 rfl (lv_at hl 5 rfl) ?_
    refine lv_iload hx hb d_Mo_target_293 (lv_at hl 1 rfl) ?_
    refine lv_iload hx hb d_Mo_target_295 (lv_at hl 3 rfl) ?_
    refine lv_iadd hx hb d_Mo_target_297 ?_
    refine xr_S (As := [.int ((R1 b) + (G (4 * q + 3)))]) (rest := [.int (nI a), .int 1, .ref m0]) ⟨hx, hb, hml, hown, hg⟩ (c_Mo_round l D cI cZ cJ ((R1 b) + (G (4 * q + 3)))) m_Mo_round q725 ⟨rfl, rfl⟩ ⟨Nat.le_of_ble_eq_true rfl, Nat.le_of_ble_eq_true rfl⟩ hK hP [] rfl rfl hl.1 rfl (Nat.le_of_ble_eq_true rfl) d_Mo_target_298 ⟨Nat.zero_le _, Nat.zero_le _⟩ ?_
    have eq9 : (tm_wr ((R1 b) + (G (4 * q + 3))) : Int32) = tm_adr G q R1 := by simp [tm_adr, hbb, hc_b]
    refine W.eq (g2 := F0 m 301 ls [.int (tm_adr G q R1), .int (nI a), .int 1, .ref m0]) (by rw [eq9]) ?_
    have eq9 : (tm_adr G q R1 : Int32) = nI dd := hd
    refine W.eq (g2 := F0 m 301 ls [.int (nI dd), .int (nI a), .int 1, .ref m0]) (by rw [eq9]) ?_
    refine lv_iload_n hx hb d_Mo_target_301 rfl (lv_at hl 6 rfl) ?_
    refine lv_bipush (v := 8) hx hb d_Mo_target_302 (by decide) ?_
    refine lv_icmp_ne (tgt := 311) hx hb d_Mo_target_304 rfl (fun hz9 => absurd (ee8) hz9) (fun _ => ?_)
    refine lv_iconst (v := 1) hx hb d_Mo_target_307 (by decide) ?_
    refine lv_goto (tgt := 312) hx hb d_Mo_target_308 rfl ?_
    refine xw_go (w2 := [(m0, .inr (5, [.int th, .int (nI n), .ref oA, .ref aA, .ref bB, .ref cC, .int tl, .int (nI k), .ref gA, .ref zA, .ref bA, .ref sR, .ref sD, .ref rA, .ref eC, .ref eA, .ref pA, .ref dA, .ref kA, .ref acA, .int nx])), (oA, .inl (cI, 24, .inl Po)), (aA, .inl (cI, 24, .inl Pa)), (bB, .inl (cI, 24, .inl Pb)), (cC, .inl (cI, 24, .inl Pc)), (gA, .inl (cI, 1600, .inl G)), (zA, .inl (cZ, 400, .inl O)), (bA, .inl (cI, 25, .inl B)), (sR, .inl (cI, 8, .inl sr)), (sD, .inl (cI, 32, .inl sd)), (rA, .inl (cI, 16, .inl (tm_jn 8 R0 (upd R1 0 0)))), (eC, .inl (cI, 128, .inl (tm_jn 64 C0 (upd C1 dd (R1 a))))), (eA, .inl (cI, 2, .inl (tm_tw e0 e1))), (pA, .inl (cI, 2, .inl (tm_tw h0 (nI (q + 1))))), (dA, .inl (cI, 2, .inl (tm_tw d0 (d1 + 1)))), (kA, .inl (cI, 2, .inl (tm_tw (nI k0) (nI (tm_dk k1 (nI dd)))))), (acA, .inl (cI, 240, .inl (tm_jn 120 A0 (tm_da A1 k1 (nI dd) 1 (R1 a)))))]) (wr := []) (w1 := [(m0, .inr (5, [.int th, .int (nI n), .ref oA, .ref aA, .ref bB, .ref cC, .int tl, .int (nI k), .ref gA, .ref zA, .ref bA, .ref sR, .ref sD, .ref rA, .ref eC, .ref eA, .ref pA, .ref dA, .ref kA, .ref acA, .int nx])), (oA, .inl (cI, 24, .inl Po)), (aA, .inl (cI, 24, .inl Pa)), (bB, .inl (cI, 24, .inl Pb)), (cC, .inl (cI, 24, .inl Pc)), (gA, .inl (cI, 1600, .inl G)), (zA, .inl (cZ, 400, .inl O)), (bA, .inl (cI, 25, .inl B)), (sR, .inl (cI, 8, .inl sr)), (sD, .inl (cI, 32, .inl sd)), (rA, .inl (cI, 16, .inl (tm_jn 8 R0 (upd R1 0 0)))), (eC, .inl (cI, 128, .inl (tm_jn 64 C0 (upd C1 dd (R1 a))))), (eA, .inl (cI, 2, .inl (tm_tw e0 e1))), (pA, .inl (cI, 2, .inl (tm_tw h0 (nI (q + 1))))), (dA, .inl (cI, 2, .inl (tm_tw d0 (d1 + 1)))), (kA, .inl (cI, 2, .inl (tm_tw (nI k0) (nI (tm_dk k1 (nI dd)))))), (acA, .inl (cI, 240, .inl (tm_jn 120 A0 (tm_da A1 k1 (nI dd) 1 (R1 a)))))]) (va_runV (As := [.int 1, .int (nI a), .int (nI dd), .int 1]) (rest := []) (C := R_Mo) ⟨hx, hb, hml, hown, hg⟩ (c_Mo_move11 l D cI cZ cJ m0 oA aA bB cC gA zA bA sR sD rA eC eA pA dA kA acA Po Pa Pb Pc G O B sr sd R0 R1 C0 C1 A0 A1 n k k0 k1 th tl nx e0 e1 h0 (nI (q + 1)) d0 (d1 + 1) a dd (ha8) (hdM) (by omega) H.size) ⟨xg_B hg m_Mo_move.1 m_Mo_move.2.2.1 m_Mo_move.2.2.2.1 m_Mo_move.2.2.2.2 q731 rfl rfl ⟨Nat.le_of_ble_eq_true rfl, Nat.le_of_ble_eq_true rfl⟩, hg _ m_Mo_move.2.1, hg _ sp_Mo_move⟩ ⟨xw_blind, (va_recv (q0 := 0) hK.1 hP rfl rfl), xw_pre hK hP hD [0, 1, 2, 3, 4, 5, 6, 7, 8, 9, 10, 11, 12, 13, 14, 15, 16] (by decide) rfl⟩ rfl rfl hl.1 rfl (lv_room (Nat.le_of_ble_eq_true rfl)) d_Mo_target_312 ⟨Nat.zero_le _, Nat.zero_le _⟩) hP hD hS hA [0, 1, 2, 3, 4, 5, 6, 7, 8, 9, 10, 11, 12, 13, 14, 15, 16] [] [0, 1, 2, 3, 4, 5, 6, 7, 8, 9, 10, 11, 12, 13, 14, 15, 16] rfl rfl (by decide) (by decide) rfl (by decide) (fun H locs hP hD hS => ?_)
    refine lv_aload_n hx hb d_Mo_target_315 rfl (lv_at hl 8 rfl) ?_
    refine va_get (D := D) (ci := 5) (v := .ref rA) (C := R_Mo) (T := F_Mo) (N := 21) hx hb hg f_Mo hown hK.1 hP 0 rfl rfl 13 (by decide) (hg _ q576) (fun _ h9 => h9) rfl d_Mo_target_316 ?_
    refine lv_bipush (v := 8) hx hb d_Mo_target_319 (by decide) ?_
    refine lv_iconst (v := 0) hx hb d_Mo_target_321 (by decide) ?_
    refine xa_st hx hb hK hP hD hS 10 0 rfl rfl (kx := 8) (rfl) (by decide) (by decide) d_Mo_target_322 (fun H locs hP hD hS => ?_)
    have hP : va_P D cls [(m0, .inr (5, [.int th, .int (nI n), .ref oA, .ref aA, .ref bB, .ref cC, .int tl, .int (nI k), .ref gA, .ref zA, .ref bA, .ref sR, .ref sD, .ref rA, .ref eC, .ref eA, .ref pA, .ref dA, .ref kA, .ref acA, .int nx])), (oA, .inl (cI, 24, .inl Po)), (aA, .inl (cI, 24, .inl Pa)), (bB, .inl (cI, 24, .inl Pb)), (cC, .inl (cI, 24, .inl Pc)), (gA, .inl (cI, 1600, .inl G)), (zA, .inl (cZ, 400, .inl O)), (bA, .inl (cI, 25, .inl B)), (sR, .inl (cI, 8, .inl sr)), (sD, .inl (cI, 32, .inl sd)), (rA, .inl (cI, 16, .inl (upd (tm_jn 8 R0 (upd R1 0 0)) 8 0))), (eC, .inl (cI, 128, .inl (tm_jn 64 C0 (upd C1 dd (R1 a))))), (eA, .inl (cI, 2, .inl (tm_tw e0 e1))), (pA, .inl (cI, 2, .inl (tm_tw h0 (nI (q + 1))))), (dA, .inl (cI, 2, .inl (tm_tw d0 (d1 + 1)))), (kA, .inl (cI, 2, .inl (tm_tw (nI k0) (nI (tm_dk k1 (nI dd)))))), (acA, .inl (cI, 240, .inl (tm_jn 120 A0 (tm_da A1 k1 (nI dd) 1 (R1 a)))))] H := hP
    have hD : va_D A [(m0, .inr (5, [.int th, .int (nI n), .ref oA, .ref aA, .ref bB, .ref cC, .int tl, .int (nI k), .ref gA, .ref zA, .ref bA, .ref sR, .ref sD, .ref rA, .ref eC, .ref eA, .ref pA, .ref dA, .ref kA, .ref acA, .int nx])), (oA, .inl (cI, 24, .inl Po)), (aA, .inl (cI, 24, .inl Pa)), (bB, .inl (cI, 24, .inl Pb)), (cC, .inl (cI, 24, .inl Pc)), (gA, .inl (cI, 1600, .inl G)), (zA, .inl (cZ, 400, .inl O)), (bA, .inl (cI, 25, .inl B)), (sR, .inl (cI, 8, .inl sr)), (sD, .inl (cI, 32, .inl sd)), (rA, .inl (cI, 16, .inl (upd (tm_jn 8 R0 (upd R1 0 0)) 8 0))), (eC, .inl (cI, 128, .inl (tm_jn 64 C0 (upd C1 dd (R1 a))))), (eA, .inl (cI, 2, .inl (tm_tw e0 e1))), (pA, .inl (cI, 2, .inl (tm_tw h0 (nI (q + 1))))), (dA, .inl (cI, 2, .inl (tm_tw d0 (d1 + 1)))), (kA, .inl (cI, 2, .inl (tm_tw (nI k0) (nI (tm_dk k1 (nI dd)))))), (acA, .inl (cI, 240, .inl (tm_jn 120 A0 (tm_da A1 k1 (nI dd) 1 (R1 a)))))] := hD
    rw [show 8 = 8 + 0 by omega, tm_jn_uh] at hP hD
    have hP : va_P D cls [(m0, .inr (5, [.int th, .int (nI n), .ref oA, .ref aA, .ref bB, .ref cC, .int tl, .int (nI k), .ref gA, .ref zA, .ref bA, .ref sR, .ref sD, .ref rA, .ref eC, .ref eA, .ref pA, .ref dA, .ref kA, .ref acA, .int nx])), (oA, .inl (cI, 24, .inl Po)), (aA, .inl (cI, 24, .inl Pa)), (bB, .inl (cI, 24, .inl Pb)), (cC, .inl (cI, 24, .inl Pc)), (gA, .inl (cI, 1600, .inl G)), (zA, .inl (cZ, 400, .inl O)), (bA, .inl (cI, 25, .inl B)), (sR, .inl (cI, 8, .inl sr)), (sD, .inl (cI, 32, .inl sd)), (rA, .inl (cI, 16, .inl (tm_jn 8 R0 (upd (upd R1 0 0) 0 0)))), (eC, .inl (cI, 128, .inl (tm_jn 64 C0 (upd C1 dd (R1 a))))), (eA, .inl (cI, 2, .inl (tm_tw e0 e1))), (pA, .inl (cI, 2, .inl (tm_tw h0 (nI (q + 1))))), (dA, .inl (cI, 2, .inl (tm_tw d0 (d1 + 1)))), (kA, .inl (cI, 2, .inl (tm_tw (nI k0) (nI (tm_dk k1 (nI dd)))))), (acA, .inl (cI, 240, .inl (tm_jn 120 A0 (tm_da A1 k1 (nI dd) 1 (R1 a)))))] H := hP
    have hD : va_D A [(m0, .inr (5, [.int th, .int (nI n), .ref oA, .ref aA, .ref bB, .ref cC, .int tl, .int (nI k), .ref gA, .ref zA, .ref bA, .ref sR, .ref sD, .ref rA, .ref eC, .ref eA, .ref pA, .ref dA, .ref kA, .ref acA, .int nx])), (oA, .inl (cI, 24, .inl Po)), (aA, .inl (cI, 24, .inl Pa)), (bB, .inl (cI, 24, .inl Pb)), (cC, .inl (cI, 24, .inl Pc)), (gA, .inl (cI, 1600, .inl G)), (zA, .inl (cZ, 400, .inl O)), (bA, .inl (cI, 25, .inl B)), (sR, .inl (cI, 8, .inl sr)), (sD, .inl (cI, 32, .inl sd)), (rA, .inl (cI, 16, .inl (tm_jn 8 R0 (upd (upd R1 0 0) 0 0)))), (eC, .inl (cI, 128, .inl (tm_jn 64 C0 (upd C1 dd (R1 a))))), (eA, .inl (cI, 2, .inl (tm_tw e0 e1))), (pA, .inl (cI, 2, .inl (tm_tw h0 (nI (q + 1))))), (dA, .inl (cI, 2, .inl (tm_tw d0 (d1 + 1)))), (kA, .inl (cI, 2, .inl (tm_tw (nI k0) (nI (tm_dk k1 (nI dd)))))), (acA, .inl (cI, 240, .inl (tm_jn 120 A0 (tm_da A1 k1 (nI dd) 1 (R1 a)))))] := hD
    have ew1_1 : (upd (upd R1 0 0) 0 0) = ((tm_ts G q (R1, C1, A1, k1, nI q, d1, e1, x1)).1) := by rw [tm_upd0 hR0, tm_upd0 hR0]; simp [tm_ts, tm_mR, hv, hod, hd, f13, ee0, ee5, ee6, ee7, ee8, ee9, ee10, ee11, ee12, ee13, f7, f9, f4]
    have ew1 : tm_jn 8 R0 (upd (upd R1 0 0) 0 0) = tm_jn 8 R0 ((tm_ts G q (R1, C1, A1, k1, nI q, d1, e1, x1)).1) := congr (congrArg (tm_jn 8) rfl) ew1_1
    have ew2_1 : (upd C1 dd (R1 a)) = ((tm_ts G q (R1, C1, A1, k1, nI q, d1, e1, x1)).2.1) := by simp [tm_ts, tm_mC, hv, hod, ha, hd, hc_dd, hc_a, f13, ee0, ee5, ee6, ee7, ee8, ee9, ee10, ee11, ee12, ee13, f7, f9, f4]
    have ew2 : tm_jn 64 C0 (upd C1 dd (R1 a)) = tm_jn 64 C0 ((tm_ts G q (R1, C1, A1, k1, nI q, d1, e1, x1)).2.1) := congr (congrArg (tm_jn 64) rfl) ew2_1
    have ew3_1 : e1 = ((tm_ts G q (R1, C1, A1, k1, nI q, d1, e1, x1)).2.2.2.2.2.2.1) := by simp [tm_ts, hv, hod, hd, f13, ee0, ee5, ee6, ee7, ee8, ee9, ee10, ee11, ee12, ee13, f7, f9, f4]
    have ew3 : tm_tw e0 e1 = tm_tw e0 ((tm_ts G q (R1, C1, A1, k1, nI q, d1, e1, x1)).2.2.2.2.2.2.1) := congr (congrArg (tm_tw) rfl) ew3_1
    have ew4_1 : (nI (q + 1)) = ((tm_ts G q (R1, C1, A1, k1, nI q, d1, e1, x1)).2.2.2.2.1) := by simp [tm_ts, hv, hod, hd, f13, ee0, ee5, ee6, ee7, ee8, ee9, ee10, ee11, ee12, ee13, f7, f9, f4]
    have ew4 : tm_tw h0 (nI (q + 1)) = tm_tw h0 ((tm_ts G q (R1, C1, A1, k1, nI q, d1, e1, x1)).2.2.2.2.1) := congr (congrArg (tm_tw) rfl) ew4_1
    have ew5_1 : (d1 + 1) = ((tm_ts G q (R1, C1, A1, k1, nI q, d1, e1, x1)).2.2.2.2.2.1) := by simp [tm_ts, hv, hod, hd, f13, ee0, ee5, ee6, ee7, ee8, ee9, ee10, ee11, ee12, ee13, f7, f9, f4]
    have ew5 : tm_tw d0 (d1 + 1) = tm_tw d0 ((tm_ts G q (R1, C1, A1, k1, nI q, d1, e1, x1)).2.2.2.2.2.1) := congr (congrArg (tm_tw) rfl) ew5_1
    have ew6_1 : (nI (tm_dk k1 (nI dd))) = (nI (tm_ts G q (R1, C1, A1, k1, nI q, d1, e1, x1)).2.2.2.1) := congrArg nI (by simp [tm_ts, hv, hod, hd, f13, ee0, ee5, ee6, ee7, ee8, ee9, ee10, ee11, ee12, ee13, f7, f9, f4])
    have ew6 : tm_tw (nI k0) (nI (tm_dk k1 (nI dd))) = tm_tw (nI k0) (nI (tm_ts G q (R1, C1, A1, k1, nI q, d1, e1, x1)).2.2.2.1) := congr (congrArg (tm_tw) rfl) ew6_1
    have ew7_1 : (tm_da A1 k1 (nI dd) 1 (R1 a)) = ((tm_ts G q (R1, C1, A1, k1, nI q, d1, e1, x1)).2.2.1) := by simp [tm_ts, tm_mA, hv, hod, ha, hd, hc_dd, hc_a, f13, ee0, ee5, ee6, ee7, ee8, ee9, ee10, ee11, ee12, ee13, f7, f9, f4]
    have ew7 : tm_jn 120 A0 (tm_da A1 k1 (nI dd) 1 (R1 a)) = tm_jn 120 A0 ((tm_ts G q (R1, C1, A1, k1, nI q, d1, e1, x1)).2.2.1) := congr (congrArg (tm_jn 120) rfl) ew7_1
    have hP : va_P D cls [(m0, .inr (5, [.int th, .int (nI n), .ref oA, .ref aA, .ref bB, .ref cC, .int tl, .int (nI k), .ref gA, .ref zA, .ref bA, .ref sR, .ref sD, .ref rA, .ref eC, .ref eA, .ref pA, .ref dA, .ref kA, .ref acA, .int nx])), (oA, .inl (cI, 24, .inl Po)), (aA, .inl (cI, 24, .inl Pa)), (bB, .inl (cI, 24, .inl Pb)), (cC, .inl (cI, 24, .inl Pc)), (gA, .inl (cI, 1600, .inl G)), (zA, .inl (cZ, 400, .inl O)), (bA, .inl (cI, 25, .inl B)), (sR, .inl (cI, 8, .inl sr)), (sD, .inl (cI, 32, .inl sd)), (rA, .inl (cI, 16, .inl (tm_jn 8 R0 ((tm_ts G q (R1, C1, A1, k1, nI q, d1, e1, x1)).1)))), (eC, .inl (cI, 128, .inl (tm_jn 64 C0 ((tm_ts G q (R1, C1, A1, k1, nI q, d1, e1, x1)).2.1)))), (eA, .inl (cI, 2, .inl (tm_tw e0 ((tm_ts G q (R1, C1, A1, k1, nI q, d1, e1, x1)).2.2.2.2.2.2.1)))), (pA, .inl (cI, 2, .inl (tm_tw h0 ((tm_ts G q (R1, C1, A1, k1, nI q, d1, e1, x1)).2.2.2.2.1)))), (dA, .inl (cI, 2, .inl (tm_tw d0 ((tm_ts G q (R1, C1, A1, k1, nI q, d1, e1, x1)).2.2.2.2.2.1)))), (kA, .inl (cI, 2, .inl (tm_tw (nI k0) (nI (tm_ts G q (R1, C1, A1, k1, nI q, d1, e1, x1)).2.2.2.1)))), (acA, .inl (cI, 240, .inl (tm_jn 120 A0 ((tm_ts G q (R1, C1, A1, k1, nI q, d1, e1, x1)).2.2.1))))] H := by rw [← ew1, ← ew2, ← ew3, ← ew4, ← ew5, ← ew6, ← ew7]; exact hP
    have hD : va_D A [(m0, .inr (5, [.int th, .int (nI n), .ref oA, .ref aA, .ref bB, .ref cC, .int tl, .int (nI k), .ref gA, .ref zA, .ref bA, .ref sR, .ref sD, .ref rA, .ref eC, .ref eA, .ref pA, .ref dA, .ref kA, .ref acA, .int nx])), (oA, .inl (cI, 24, .inl Po)), (aA, .inl (cI, 24, .inl Pa)), (bB, .inl (cI, 24, .inl Pb)), (cC, .inl (cI, 24, .inl Pc)), (gA, .inl (cI, 1600, .inl G)), (zA, .inl (cZ, 400, .inl O)), (bA, .inl (cI, 25, .inl B)), (sR, .inl (cI, 8, .inl sr)), (sD, .inl (cI, 32, .inl sd)), (rA, .inl (cI, 16, .inl (tm_jn 8 R0 ((tm_ts G q (R1, C1, A1, k1, nI q, d1, e1, x1)).1)))), (eC, .inl (cI, 128, .inl (tm_jn 64 C0 ((tm_ts G q (R1, C1, A1, k1, nI q, d1, e1, x1)).2.1)))), (eA, .inl (cI, 2, .inl (tm_tw e0 ((tm_ts G q (R1, C1, A1, k1, nI q, d1, e1, x1)).2.2.2.2.2.2.1)))), (pA, .inl (cI, 2, .inl (tm_tw h0 ((tm_ts G q (R1, C1, A1, k1, nI q, d1, e1, x1)).2.2.2.2.1)))), (dA, .inl (cI, 2, .inl (tm_tw d0 ((tm_ts G q (R1, C1, A1, k1, nI q, d1, e1, x1)).2.2.2.2.2.1)))), (kA, .inl (cI, 2, .inl (tm_tw (nI k0) (nI (tm_ts G q (R1, C1, A1, k1, nI q, d1, e1, x1)).2.2.2.1)))), (acA, .inl (cI, 240, .inl (tm_jn 120 A0 ((tm_ts G q (R1, C1, A1, k1, nI q, d1, e1, x1)).2.2.1))))] := by rw [← ew1, ← ew2, ← ew3, ← ew4, ← ew5, ← ew6, ← ew7]; exact hD
    exact W.vret hx hb hr (fun t9 ht9 hW9 => ⟨⟨(), rfl, trivial, by rw [ht9]; exact hP, hD⟩, hS.F ht9⟩) hS.2.2 d_Mo_target_323
  · have f13 : ¬ 13 < nI v := nI_nlt (a := 13) (b := v) (by omega) (by decide)
    have ee0 : ¬ nI v = 0 := xn_ne (w := 0) (by omega) (by decide) (by omega)
    have ee5 : ¬ nI v = 5 := xn_ne (w := 5) (by omega) (by decide) (by omega)
    have ee6 : ¬ nI v = 6 := xn_ne (w := 6) (by omega) (by decide) (by omega)
    have ee7 : ¬ nI v = 7 := xn_ne (w := 7) (by omega) (by decide) (by omega)
    have ee8 : ¬ nI v = 8 := xn_ne (w := 8) (by omega) (by decide) (by omega)
    have ee9 : nI v = 9 := by rw [hcase]; rfl
    have ee10 : ¬ nI v = 10 := xn_ne (w := 10) (by omega) (by decide) (by omega)
    have ee11 : ¬ nI v = 11 := xn_ne (w := 11) (by omega) (by decide) (by omega)
    have ee12 : ¬ nI v = 12 := xn_ne (w := 12) (by omega) (by decide) (by omega)
    have ee13 : ¬ nI v = 13 := xn_ne (w := 13) (by omega) (by decide) (by omega)
    have f7 : ¬ nI v < 7 := nI_nlt (a := v) (b := 7) (by omega) (by omega)
    have f9 : ¬ nI v < 9 := nI_nlt (a := v) (b := 9) (by omega) (by omega)
    have f4 : 4 < nI v := nI_lt (a := 4) (b := v) (by omega) (by omega)
    refine lv_aload_n hx hb d_Mo_target_0 rfl (lv_at hl 0 rfl) ?_
    refine va_get (D := D) (ci := 5) (v := .ref pA) (C := R_Mo) (T := F_Mo) (N := 21) hx hb hg f_Mo hown hK.1 hP 0 rfl rfl 16 (by decide) (hg _ q579) (fun _ h9 => h9) rfl d_Mo_target_1 ?_
    refine lv_iconst (v := 1) hx hb d_Mo_target_4 (by decide) ?_
    refine xa_ld hx hb hK hP 13 0 rfl rfl (kx := 1) (rfl) (by decide) (by decide) d_Mo_target_5 ?_
    have eq9 : ((tm_tw h0 (nI q)) 1 : Int32) = nI q := rfl
    refine W.eq (g2 := F0 m 6 ls [.int (nI q)]) (by rw [eq9]) ?_
    refine lv_istore_n hx hb d_Mo_target_6 rfl hl (by decide) rfl (fun ls hl => ?_)
    have hl : lv_has ls 9 [(1, .int (nI q)), (0, .ref m0)] := hl
    refine lv_aload_n hx hb d_Mo_target_7 rfl (lv_at hl 1 rfl) ?_
    refine va_get (D := D) (ci := 5) (v := .ref gA) (C := R_Mo) (T := F_Mo) (N := 21) hx hb hg f_Mo hown hK.1 hP 0 rfl rfl 8 (by decide) (hg _ q571) (fun _ h9 => h9) rfl d_Mo_target_8 ?_
    refine lv_iconst (v := 4) hx hb d_Mo_target_11 (by decide) ?_
    refine lv_iload_n hx hb d_Mo_target_12 rfl (lv_at hl 0 rfl) ?_
    refine lv_imul hx hb d_Mo_target_13 ?_
    have eq9 : (4 * (nI q) : Int32) = nI (4 * q) := pk_mul 4 q
    refine W.eq (g2 := F0 m 14 ls [.int (nI (4 * q)), .ref gA]) (by rw [eq9]) ?_
    refine xa_ld hx hb hK hP 5 0 rfl rfl (kx := 4 * q) (rfl) (by omega) (by decide) d_Mo_target_14 ?_
    have eq9 : (G (4 * q) : Int32) = nI v := hv
    refine W.eq (g2 := F0 m 15 ls [.int (nI v)]) (by rw [eq9]) ?_
    refine lv_istore_n hx hb d_Mo_target_15 rfl hl (by decide) rfl (fun ls hl => ?_)
    have hl : lv_has ls 9 [(2, .int (nI v)), (1, .int (nI q)), (0, .ref m0)] := hl
    refine lv_aload_n hx hb d_Mo_target_16 rfl (lv_at hl 2 rfl) ?_
    refine va_get (D := D) (ci := 5) (v := .ref gA) (C := R_Mo) (T := F_Mo) (N := 21) hx hb hg f_Mo hown hK.1 hP 0 rfl rfl 8 (by decide) (hg _ q571) (fun _ h9 => h9) rfl d_Mo_target_17 ?_
    refine lv_iconst (v := 4) hx hb d_Mo_target_20 (by decide) ?_
    refine lv_iload_n hx hb d_Mo_target_21 rfl (lv_at hl 1 rfl) ?_
    refine lv_imul hx hb d_Mo_target_22 ?_
    have eq9 : (4 * (nI q) : Int32) = nI (4 * q) := pk_mul 4 q
    refine W.eq (g2 := F0 m 23 ls [.int (nI (4 * q)), .ref gA]) (by rw [eq9]) ?_
    refine lv_iconst (v := 1) hx hb d_Mo_target_23 (by decide) ?_
    refine lv_iadd hx hb d_Mo_target_24 ?_
    have eq9 : ((nI (4 * q)) + 1 : Int32) = nI (4 * q + 1) := nI_add (4 * q) 1
    refine W.eq (g2 := F0 m 25 ls [.int (nI (4 * q + 1)), .ref gA]) (by rw [eq9]) ?_
    refine xa_ld hx hb hK hP 5 0 rfl rfl (kx := 4 * q + 1) (rfl) (by omega) (by decide) d_Mo_target_25 ?_
    have eq9 : (G (4 * q + 1) : Int32) = nI a := ha
    refine W.eq (g2 := F0 m 26 ls [.int (nI a)]) (by rw [eq9]) ?_
    refine lv_istore_n hx hb d_Mo_target_26 rfl hl (by decide) rfl (fun ls hl => ?_)
    have hl : lv_has ls 9 [(3, .int (nI a)), (2, .int (nI v)), (1, .int (nI q)), (0, .ref m0)] := hl
    refine lv_aload_n hx hb d_Mo_target_27 rfl (lv_at hl 3 rfl) ?_
    refine va_get (D := D) (ci := 5) (v := .ref gA) (C := R_Mo) (T := F_Mo) (N := 21) hx hb hg f_Mo hown hK.1 hP 0 rfl rfl 8 (by decide) (hg _ q571) (fun _ h9 => h9) rfl d_Mo_target_28 ?_
    refine lv_iconst (v := 4) hx hb d_Mo_target_31 (by decide) ?_
    refine lv_iload_n hx hb d_Mo_target_32 rfl (lv_at hl 2 rfl) ?_
    refine lv_imul hx hb d_Mo_target_33 ?_
    have eq9 : (4 * (nI q) : Int32) = nI (4 * q) := pk_mul 4 q
    refine W.eq (g2 := F0 m 34 ls [.int (nI (4 * q)), .ref gA]) (by rw [eq9]) ?_
    refine lv_iconst (v := 2) hx hb d_Mo_target_34 (by decide) ?_
    refine lv_iadd hx hb d_Mo_target_35 ?_
    have eq9 : ((nI (4 * q)) + 2 : Int32) = nI (4 * q + 2) := nI_add (4 * q) 2
    refine W.eq (g2 := F0 m 36 ls [.int (nI (4 * q + 2)), .ref gA]) (by rw [eq9]) ?_
    refine xa_ld hx hb hK hP 5 0 rfl rfl (kx := 4 * q + 2) (rfl) (by omega) (by decide) d_Mo_target_36 ?_
    have eq9 : (G (4 * q + 2) : Int32) = nI b := hbb
    refine W.eq (g2 := F0 m 37 ls [.int (nI b)]) (by rw [eq9]) ?_
    refine lv_istore hx hb d_Mo_target_37 hl (by decide) rfl (fun ls hl => ?_)
    have hl : lv_has ls 9 [(4, .int (nI b)), (3, .int (nI a)), (2, .int (nI v)), (1, .int (nI q)), (0, .ref m0)] := hl
    refine lv_aload_n hx hb d_Mo_target_39 rfl (lv_at hl 4 rfl) ?_
    refine va_get (D := D) (ci := 5) (v := .ref gA) (C := R_Mo) (T := F_Mo) (N := 21) hx hb hg f_Mo hown hK.1 hP 0 rfl rfl 8 (by decide) (hg _ q571) (fun _ h9 => h9) rfl d_Mo_target_40 ?_
    refine lv_iconst (v := 4) hx hb d_Mo_target_43 (by decide) ?_
    refine lv_iload_n hx hb d_Mo_target_44 rfl (lv_at hl 3 rfl) ?_
    refine lv_imul hx hb d_Mo_target_45 ?_
    have eq9 : (4 * (nI q) : Int32) = nI (4 * q) := pk_mul 4 q
    refine W.eq (g2 := F0 m 46 ls [.int (nI (4 * q)), .ref gA]) (by rw [eq9]) ?_
    refine lv_iconst (v := 3) hx hb d_Mo_target_46 (by decide) ?_
    refine lv_iadd hx hb d_Mo_target_47 ?_
    have eq9 : ((nI (4 * q)) + 3 : Int32) = nI (4 * q + 3) := nI_add (4 * q) 3
    refine W.eq (g2 := F0 m 48 ls [.int (nI (4 * q + 3)), .ref gA]) (by rw [eq9]) ?_
    refine xa_ld hx hb hK hP 5 0 rfl rfl (kx := 4 * q + 3) (rfl) (by omega) (by decide) d_Mo_target_48 ?_
    refine lv_istore hx hb d_Mo_target_49 hl (by decide) rfl (fun ls hl => ?_)
    have hl : lv_has ls 9 [(5, .int (G (4 * q + 3))), (4, .int (nI b)), (3, .int (nI a)), (2, .int (nI v)), (1, .int (nI q)), (0, .ref m0)] := hl
    refine lv_aload_n hx hb d_Mo_target_51 rfl (lv_at hl 5 rfl) ?_
    refine va_get (D := D) (ci := 5) (v := .ref rA) (C := R_Mo) (T := F_Mo) (N := 21) hx hb hg f_Mo hown hK.1 hP 0 rfl rfl 13 (by decide) (hg _ q576) (fun _ h9 => h9) rfl d_Mo_target_52 ?_
    refine lv_bipush (v := 8) hx hb d_Mo_target_55 (by decide) ?_
    refine lv_iload_n hx hb d_Mo_target_57 rfl (lv_at hl 2 rfl) ?_
    refine lv_iadd hx hb d_Mo_target_58 ?_
    have eq9 : (8 + (nI a) : Int32) = nI (8 + a) := nI_add 8 a
    refine W.eq (g2 := F0 m 59 ls [.int (nI (8 + a)), .ref rA]) (by rw [eq9]) ?_
    refine xa_ld hx hb hK hP 10 0 rfl rfl (kx := 8 + a) (rfl) (by omega) (by decide) d_Mo_target_59 ?_
    have eq9 : ((tm_jn 8 R0 R1) (8 + a) : Int32) = R1 a := (congrArg (tm_jn 8 R0 R1) (show 8 + a = 8 + a by omega)).trans tm_jn_hi
    refine W.eq (g2 := F0 m 60 ls [.int (R1 a)]) (by rw [eq9]) ?_
    refine lv_istore hx hb d_Mo_target_60 hl (by decide) rfl (fun ls hl => ?_)
    have hl : lv_has ls 9 [(6, .int (R1 a)), (5, .int (G (4 * q + 3))), (4, .int (nI b)), (3, .int (nI a)), (2, .int (nI v)), (1, .int (nI q)), (0, .ref m0)] := hl
    refine lv_aload_n hx hb d_Mo_target_62 rfl (lv_at hl 6 rfl) ?_
    refine va_get (D := D) (ci := 5) (v := .ref rA) (C := R_Mo) (T := F_Mo) (N := 21) hx hb hg f_Mo hown hK.1 hP 0 rfl rfl 13 (by decide) (hg _ q576) (fun _ h9 => h9) rfl d_Mo_target_63 ?_
    refine lv_bipush (v := 8) hx hb d_Mo_target_66 (by decide) ?_
    refine lv_iload hx hb d_Mo_target_68 (lv_at hl 2 rfl) ?_
    refine lv_iadd hx hb d_Mo_target_70 ?_
    have eq9 : (8 + (nI b) : Int32) = nI (8 + b) := nI_add 8 b
    refine W.eq (g2 := F0 m 71 ls [.int (nI (8 + b)), .ref rA]) (by rw [eq9]) ?_
    refine xa_ld hx hb hK hP 10 0 rfl rfl (kx := 8 + b) (rfl) (by omega) (by decide) d_Mo_target_71 ?_
    have eq9 : ((tm_jn 8 R0 R1) (8 + b) : Int32) = R1 b := (congrArg (tm_jn 8 R0 R1) (show 8 + b = 8 + b by omega)).trans tm_jn_hi
    refine W.eq (g2 := F0 m 72 ls [.int (R1 b)]) (by rw [eq9]) ?_
    refine lv_istore hx hb d_Mo_target_72 hl (by decide) rfl (fun ls hl => ?_)
    have hl : lv_has ls 9 [(7, .int (R1 b)), (6, .int (R1 a)), (5, .int (G (4 * q + 3))), (4, .int (nI b)), (3, .int (nI a)), (2, .int (nI v)), (1, .int (nI q)), (0, .ref m0)] := hl
    refine lv_aload_n hx hb d_Mo_target_74 rfl (lv_at hl 7 rfl) ?_
    refine va_get (D := D) (ci := 5) (v := .ref dA) (C := R_Mo) (T := F_Mo) (N := 21) hx hb hg f_Mo hown hK.1 hP 0 rfl rfl 17 (by decide) (hg _ q580) (fun _ h9 => h9) rfl d_Mo_target_75 ?_
    refine lv_iconst (v := 1) hx hb d_Mo_target_78 (by decide) ?_
    refine lv_dup2_11 hx hb d_Mo_target_79 rfl rfl ?_
    refine xa_ld hx hb hK hP 14 0 rfl rfl (kx := 1) (rfl) (by decide) (by decide) d_Mo_target_80 ?_
    have eq9 : ((tm_tw d0 d1) 1 : Int32) = d1 := rfl
    refine W.eq (g2 := F0 m 81 ls [.int d1, .int 1, .ref dA]) (by rw [eq9]) ?_
    refine lv_iconst (v := 1) hx hb d_Mo_target_81 (by decide) ?_
    refine lv_iadd hx hb d_Mo_target_82 ?_
    refine xa_st hx hb hK hP hD hS 14 0 rfl rfl (kx := 1) (rfl) (by decide) (by decide) d_Mo_target_83 (fun H locs hP hD hS => ?_)
    have hP : va_P D cls [(m0, .inr (5, [.int th, .int (nI n), .ref oA, .ref aA, .ref bB, .ref cC, .int tl, .int (nI k), .ref gA, .ref zA, .ref bA, .ref sR, .ref sD, .ref rA, .ref eC, .ref eA, .ref pA, .ref dA, .ref kA, .ref acA, .int nx])), (oA, .inl (cI, 24, .inl Po)), (aA, .inl (cI, 24, .inl Pa)), (bB, .inl (cI, 24, .inl Pb)), (cC, .inl (cI, 24, .inl Pc)), (gA, .inl (cI, 1600, .inl G)), (zA, .inl (cZ, 400, .inl O)), (bA, .inl (cI, 25, .inl B)), (sR, .inl (cI, 8, .inl sr)), (sD, .inl (cI, 32, .inl sd)), (rA, .inl (cI, 16, .inl (tm_jn 8 R0 R1))), (eC, .inl (cI, 128, .inl (tm_jn 64 C0 C1))), (eA, .inl (cI, 2, .inl (tm_tw e0 e1))), (pA, .inl (cI, 2, .inl (tm_tw h0 (nI q)))), (dA, .inl (cI, 2, .inl (upd (tm_tw d0 d1) 1 (d1 + 1)))), (kA, .inl (cI, 2, .inl (tm_tw (nI k0) (nI k1)))), (acA, .inl (cI, 240, .inl (tm_jn 120 A0 A1)))] H := hP
    have hD : va_D A [(m0, .inr (5, [.int th, .int (nI n), .ref oA, .ref aA, .ref bB, .ref cC, .int tl, .int (nI k), .ref gA, .ref zA, .ref bA, .ref sR, .ref sD, .ref rA, .ref eC, .ref eA, .ref pA, .ref dA, .ref kA, .ref acA, .int nx])), (oA, .inl (cI, 24, .inl Po)), (aA, .inl (cI, 24, .inl Pa)), (bB, .inl (cI, 24, .inl Pb)), (cC, .inl (cI, 24, .inl Pc)), (gA, .inl (cI, 1600, .inl G)), (zA, .inl (cZ, 400, .inl O)), (bA, .inl (cI, 25, .inl B)), (sR, .inl (cI, 8, .inl sr)), (sD, .inl (cI, 32, .inl sd)), (rA, .inl (cI, 16, .inl (tm_jn 8 R0 R1))), (eC, .inl (cI, 128, .inl (tm_jn 64 C0 C1))), (eA, .inl (cI, 2, .inl (tm_tw e0 e1))), (pA, .inl (cI, 2, .inl (tm_tw h0 (nI q)))), (dA, .inl (cI, 2, .inl (upd (tm_tw d0 d1) 1 (d1 + 1)))), (kA, .inl (cI, 2, .inl (tm_tw (nI k0) (nI k1)))), (acA, .inl (cI, 240, .inl (tm_jn 120 A0 A1)))] := hD
    have hD := xa_D (e2 := .inl (cI, 2, .inl (tm_tw d0 (d1 + 1)))) hD 14 rfl
    have hP := xa_P (g := tm_tw d0 (d1 + 1)) hP 14 rfl (tm_tw_c)
    have hP : va_P D cls [(m0, .inr (5, [.int th, .int (nI n), .ref oA, .ref aA, .ref bB, .ref cC, .int tl, .int (nI k), .ref gA, .ref zA, .ref bA, .ref sR, .ref sD, .ref rA, .ref eC, .ref eA, .ref pA, .ref dA, .ref kA, .ref acA, .int nx])), (oA, .inl (cI, 24, .inl Po)), (aA, .inl (cI, 24, .inl Pa)), (bB, .inl (cI, 24, .inl Pb)), (cC, .inl (cI, 24, .inl Pc)), (gA, .inl (cI, 1600, .inl G)), (zA, .inl (cZ, 400, .inl O)), (bA, .inl (cI, 25, .inl B)), (sR, .inl (cI, 8, .inl sr)), (sD, .inl (cI, 32, .inl sd)), (rA, .inl (cI, 16, .inl (tm_jn 8 R0 R1))), (eC, .inl (cI, 128, .inl (tm_jn 64 C0 C1))), (eA, .inl (cI, 2, .inl (tm_tw e0 e1))), (pA, .inl (cI, 2, .inl (tm_tw h0 (nI q)))), (dA, .inl (cI, 2, .inl (tm_tw d0 (d1 + 1)))), (kA, .inl (cI, 2, .inl (tm_tw (nI k0) (nI k1)))), (acA, .inl (cI, 240, .inl (tm_jn 120 A0 A1)))] H := hP
    have hD : va_D A [(m0, .inr (5, [.int th, .int (nI n), .ref oA, .ref aA, .ref bB, .ref cC, .int tl, .int (nI k), .ref gA, .ref zA, .ref bA, .ref sR, .ref sD, .ref rA, .ref eC, .ref eA, .ref pA, .ref dA, .ref kA, .ref acA, .int nx])), (oA, .inl (cI, 24, .inl Po)), (aA, .inl (cI, 24, .inl Pa)), (bB, .inl (cI, 24, .inl Pb)), (cC, .inl (cI, 24, .inl Pc)), (gA, .inl (cI, 1600, .inl G)), (zA, .inl (cZ, 400, .inl O)), (bA, .inl (cI, 25, .inl B)), (sR, .inl (cI, 8, .inl sr)), (sD, .inl (cI, 32, .inl sd)), (rA, .inl (cI, 16, .inl (tm_jn 8 R0 R1))), (eC, .inl (cI, 128, .inl (tm_jn 64 C0 C1))), (eA, .inl (cI, 2, .inl (tm_tw e0 e1))), (pA, .inl (cI, 2, .inl (tm_tw h0 (nI q)))), (dA, .inl (cI, 2, .inl (tm_tw d0 (d1 + 1)))), (kA, .inl (cI, 2, .inl (tm_tw (nI k0) (nI k1)))), (acA, .inl (cI, 240, .inl (tm_jn 120 A0 A1)))] := hD
    refine lv_iload_n hx hb d_Mo_target_84 rfl (lv_at hl 5 rfl) ?_
    refine lv_if_ne (tgt := 105) hx hb d_Mo_target_85 rfl (fun _ => ?_) (fun hz9 => absurd hz9 (ee0))
    refine lv_iload_n hx hb d_Mo_target_105 rfl (lv_at hl 5 rfl) ?_
    refine lv_bipush (v := 9) hx hb d_Mo_target_106 (by decide) ?_
    refine lv_icmp_ne (tgt := 118) hx hb d_Mo_target_108 rfl (fun hz9 => absurd (ee9) hz9) (fun _ => ?_)
    refine lv_iload hx hb d_Mo_target_111 (lv_at hl 1 rfl) ?_
    refine lv_iload hx hb d_Mo_target_113 (lv_at hl 0 rfl) ?_
    refine lv_icmp_eq (tgt := 156) hx hb d_Mo_target_115 rfl (fun hab => ?_) (fun hab => ?_)
    · refine lv_iconst (v := 1) hx hb d_Mo_target_156 (by decide) ?_
      refine lv_goto (tgt := 161) hx hb d_Mo_target_157 rfl ?_
      refine lv_istore hx hb d_Mo_target_161 hl (by decide) rfl (fun ls hl => ?_)
      have hl : lv_has ls 9 [(8, .int 1), (7, .int (R1 b)), (6, .int (R1 a)), (5, .int (G (4 * q + 3))), (4, .int (nI b)), (3, .int (nI a)), (2, .int (nI v)), (1, .int (nI q)), (0, .ref m0)] := hl
      refine lv_aload_n hx hb d_Mo_target_163 rfl (lv_at hl 8 rfl) ?_
      refine va_get (D := D) (ci := 5) (v := .ref pA) (C := R_Mo) (T := F_Mo) (N := 21) hx hb hg f_Mo hown hK.1 hP 0 rfl rfl 16 (by decide) (hg _ q579) (fun _ h9 => h9) rfl d_Mo_target_164 ?_
      refine lv_iconst (v := 1) hx hb d_Mo_target_167 (by decide) ?_
      refine lv_iload hx hb d_Mo_target_168 (lv_at hl 0 rfl) ?_
      refine lv_if_eq (tgt := 178) hx hb d_Mo_target_170 rfl (fun hz9 => absurd hz9 (by decide)) (fun _ => ?_)
      refine lv_iload hx hb d_Mo_target_173 (lv_at hl 3 rfl) ?_
      refine lv_goto (tgt := 192) hx hb d_Mo_target_175 rfl ?_
      refine xa_st hx hb hK hP hD hS 13 0 rfl rfl (kx := 1) (rfl) (by decide) (by decide) d_Mo_target_192 (fun H locs hP hD hS => ?_)
      have hP : va_P D cls [(m0, .inr (5, [.int th, .int (nI n), .ref oA, .ref aA, .ref bB, .ref cC, .int tl, .int (nI k), .ref gA, .ref zA, .ref bA, .ref sR, .ref sD, .ref rA, .ref eC, .ref eA, .ref pA, .ref dA, .ref kA, .ref acA, .int nx])), (oA, .inl (cI, 24, .inl Po)), (aA, .inl (cI, 24, .inl Pa)), (bB, .inl (cI, 24, .inl Pb)), (cC, .inl (cI, 24, .inl Pc)), (gA, .inl (cI, 1600, .inl G)), (zA, .inl (cZ, 400, .inl O)), (bA, .inl (cI, 25, .inl B)), (sR, .inl (cI, 8, .inl sr)), (sD, .inl (cI, 32, .inl sd)), (rA, .inl (cI, 16, .inl (tm_jn 8 R0 R1))), (eC, .inl (cI, 128, .inl (tm_jn 64 C0 C1))), (eA, .inl (cI, 2, .inl (tm_tw e0 e1))), (pA, .inl (cI, 2, .inl (upd (tm_tw h0 (nI q)) 1 (G (4 * q + 3))))), (dA, .inl (cI, 2, .inl (tm_tw d0 (d1 + 1)))), (kA, .inl (cI, 2, .inl (tm_tw (nI k0) (nI k1)))), (acA, .inl (cI, 240, .inl (tm_jn 120 A0 A1)))] H := hP
      have hD : va_D A [(m0, .inr (5, [.int th, .int (nI n), .ref oA, .ref aA, .ref bB, .ref cC, .int tl, .int (nI k), .ref gA, .ref zA, .ref bA, .ref sR, .ref sD, .ref rA, .ref eC, .ref eA, .ref pA, .ref dA, .ref kA, .ref acA, .int nx])), (oA, .inl (cI, 24, .inl Po)), (aA, .inl (cI, 24, .inl Pa)), (bB, .inl (cI, 24, .inl Pb)), (cC, .inl (cI, 24, .inl Pc)), (gA, .inl (cI, 1600, .inl G)), (zA, .inl (cZ, 400, .inl O)), (bA, .inl (cI, 25, .inl B)), (sR, .inl (cI, 8, .inl sr)), (sD, .inl (cI, 32, .inl sd)), (rA, .inl (cI, 16, .inl (tm_jn 8 R0 R1))), (eC, .inl (cI, 128, .inl (tm_jn 64 C0 C1))), (eA, .inl (cI, 2, .inl (tm_tw e0 e1))), (pA, .inl (cI, 2, .inl (upd (tm_tw h0 (nI q)) 1 (G (4 * q + 3))))), (dA, .inl (cI, 2, .inl (tm_tw d0 (d1 + 1)))), (kA, .inl (cI, 2, .inl (tm_tw (nI k0) (nI k1)))), (acA, .inl (cI, 240, .inl (tm_jn 120 A0 A1)))] := hD
      have hD := xa_D (e2 := .inl (cI, 2, .inl (tm_tw h0 (G (4 * q + 3))))) hD 13 rfl
      have hP := xa_P (g := tm_tw h0 (G (4 * q + 3))) hP 13 rfl (tm_tw_c)
      have hP : va_P D cls [(m0, .inr (5, [.int th, .int (nI n), .ref oA, .ref aA, .ref bB, .ref cC, .int tl, .int (nI k), .ref gA, .ref zA, .ref bA, .ref sR, .ref sD, .ref rA, .ref eC, .ref eA, .ref pA, .ref dA, .ref kA, .ref acA, .int nx])), (oA, .inl (cI, 24, .inl Po)), (aA, .inl (cI, 24, .inl Pa)), (bB, .inl (cI, 24, .inl Pb)), (cC, .inl (cI, 24, .inl Pc)), (gA, .inl (cI, 1600, .inl G)), (zA, .inl (cZ, 400, .inl O)), (bA, .inl (cI, 25, .inl B)), (sR, .inl (cI, 8, .inl sr)), (sD, .inl (cI, 32, .inl sd)), (rA, .inl (cI, 16, .inl (tm_jn 8 R0 R1))), (eC, .inl (cI, 128, .inl (tm_jn 64 C0 C1))), (eA, .inl (cI, 2, .inl (tm_tw e0 e1))), (pA, .inl (cI, 2, .inl (tm_tw h0 (G (4 * q + 3))))), (dA, .inl (cI, 2, .inl (tm_tw d0 (d1 + 1)))), (kA, .inl (cI, 2, .inl (tm_tw (nI k0) (nI k1)))), (acA, .inl (cI, 240, .inl (tm_jn 120 A0 A1)))] H := hP
      have hD : va_D A [(m0, .inr (5, [.int th, .int (nI n), .ref oA, .ref aA, .ref bB, .ref cC, .int tl, .int (nI k), .ref gA, .ref zA, .ref bA, .ref sR, .ref sD, .ref rA, .ref eC, .ref eA, .ref pA, .ref dA, .ref kA, .ref acA, .int nx])), (oA, .inl (cI, 24, .inl Po)), (aA, .inl (cI, 24, .inl Pa)), (bB, .inl (cI, 24, .inl Pb)), (cC, .inl (cI, 24, .inl Pc)), (gA, .inl (cI, 1600, .inl G)), (zA, .inl (cZ, 400, .inl O)), (bA, .inl (cI, 25, .inl B)), (sR, .inl (cI, 8, .inl sr)), (sD, .inl (cI, 32, .inl sd)), (rA, .inl (cI, 16, .inl (tm_jn 8 R0 R1))), (eC, .inl (cI, 128, .inl (tm_jn 64 C0 C1))), (eA, .inl (cI, 2, .inl (tm_tw e0 e1))), (pA, .inl (cI, 2, .inl (tm_tw h0 (G (4 * q + 3))))), (dA, .inl (cI, 2, .inl (tm_tw d0 (d1 + 1)))), (kA, .inl (cI, 2, .inl (tm_tw (nI k0) (nI k1)))), (acA, .inl (cI, 240, .inl (tm_jn 120 A0 A1)))] := hD
      refine lv_iload_n hx hb d_Mo_target_193 rfl (lv_at hl 6 rfl) ?_
      refine lv_iconst (v := 5) hx hb d_Mo_target_194 (by decide) ?_
      refine lv_icmp_ge (tgt := 226) hx hb d_Mo_target_195 rfl (fun _ => ?_) (fun hz9 => absurd (nI_le (a := 5) (b := v) (by omega) (by omega)) hz9)
      refine lv_iload_n hx hb d_Mo_target_226 rfl (lv_at hl 6 rfl) ?_
      refine lv_iconst (v := 5) hx hb d_Mo_target_227 (by decide) ?_
      refine lv_icmp_ne (tgt := 251) hx hb d_Mo_target_228 rfl (fun _ => ?_) (fun hz9 => absurd hz9 (ee5))
      refine lv_iload_n hx hb d_Mo_target_251 rfl (lv_at hl 6 rfl) ?_
      refine lv_bipush (v := 6) hx hb d_Mo_target_252 (by decide) ?_
      refine lv_icmp_ne (tgt := 278) hx hb d_Mo_target_254 rfl (fun _ => ?_) (fun hz9 => absurd hz9 (ee6))
      refine lv_iload_n hx hb d_Mo_target_278 rfl (lv_at hl 6 rfl) ?_
      refine lv_bipush (v := 7) hx hb d_Mo_target_279 (by decide) ?_
      refine lv_icmp_eq (tgt := 290) hx hb d_Mo_target_281 rfl (fun hz9 => absurd hz9 (ee7)) (fun _ => ?_)
      refine lv_iload_n hx hb d_Mo_target_284 rfl (lv_at hl 6 rfl) ?_
      refine lv_bipush (v := 8) hx hb d_Mo_target_285 (by decide) ?_
      refine lv_icmp_ne (tgt := 315) hx hb d_Mo_target_287 rfl (fun _ => ?_) (fun hz9 => absurd hz9 (ee8))
      refine lv_aload_n hx hb d_Mo_target_315 rfl (lv_at hl 8 rfl) ?_
      refine va_get (D := D) (ci := 5) (v := .ref rA) (C := R_Mo) (T := F_Mo) (N := 21) hx hb hg f_Mo hown hK.1 hP 0 rfl rfl 13 (by decide) (hg _ q576) (fun _ h9 => h9) rfl d_Mo_target_316 ?_
      refine lv_bipush (v := 8) hx hb d_Mo_target_319 (by decide) ?_
      refine lv_iconst (v := 0) hx hb d_Mo_target_321 (by decide) ?_
      refine xa_st hx hb hK hP hD hS 10 0 rfl rfl (kx := 8) (rfl) (by decide) (by decide) d_Mo_target_322 (fun H locs hP hD hS => ?_)
      have hP : va_P D cls [(m0, .inr (5, [.int th, .int (nI n), .ref oA, .ref aA, .ref bB, .ref cC, .int tl, .int (nI k), .ref gA, .ref zA, .ref bA, .ref sR, .ref sD, .ref rA, .ref eC, .ref eA, .ref pA, .ref dA, .ref kA, .ref acA, .int nx])), (oA, .inl (cI, 24, .inl Po)), (aA, .inl (cI, 24, .inl Pa)), (bB, .inl (cI, 24, .inl Pb)), (cC, .inl (cI, 24, .inl Pc)), (gA, .inl (cI, 1600, .inl G)), (zA, .inl (cZ, 400, .inl O)), (bA, .inl (cI, 25, .inl B)), (sR, .inl (cI, 8, .inl sr)), (sD, .inl (cI, 32, .inl sd)), (rA, .inl (cI, 16, .inl (upd (tm_jn 8 R0 R1) 8 0))), (eC, .inl (cI, 128, .inl (tm_jn 64 C0 C1))), (eA, .inl (cI, 2, .inl (tm_tw e0 e1))), (pA, .inl (cI, 2, .inl (tm_tw h0 (G (4 * q + 3))))), (dA, .inl (cI, 2, .inl (tm_tw d0 (d1 + 1)))), (kA, .inl (cI, 2, .inl (tm_tw (nI k0) (nI k1)))), (acA, .inl (cI, 240, .inl (tm_jn 120 A0 A1)))] H := hP
      have hD : va_D A [(m0, .inr (5, [.int th, .int (nI n), .ref oA, .ref aA, .ref bB, .ref cC, .int tl, .int (nI k), .ref gA, .ref zA, .ref bA, .ref sR, .ref sD, .ref rA, .ref eC, .ref eA, .ref pA, .ref dA, .ref kA, .ref acA, .int nx])), (oA, .inl (cI, 24, .inl Po)), (aA, .inl (cI, 24, .inl Pa)), (bB, .inl (cI, 24, .inl Pb)), (cC, .inl (cI, 24, .inl Pc)), (gA, .inl (cI, 1600, .inl G)), (zA, .inl (cZ, 400, .inl O)), (bA, .inl (cI, 25, .inl B)), (sR, .inl (cI, 8, .inl sr)), (sD, .inl (cI, 32, .inl sd)), (rA, .inl (cI, 16, .inl (upd (tm_jn 8 R0 R1) 8 0))), (eC, .inl (cI, 128, .inl (tm_jn 64 C0 C1))), (eA, .inl (cI, 2, .inl (tm_tw e0 e1))), (pA, .inl (cI, 2, .inl (tm_tw h0 (G (4 * q + 3))))), (dA, .inl (cI, 2, .inl (tm_tw d0 (d1 + 1)))), (kA, .inl (cI, 2, .inl (tm_tw (nI k0) (nI k1)))), (acA, .inl (cI, 240, .inl (tm_jn 120 A0 A1)))] := hD
      rw [show 8 = 8 + 0 by omega, tm_jn_uh] at hP hD
      have hP : va_P D cls [(m0, .inr (5, [.int th, .int (nI n), .ref oA, .ref aA, .ref bB, .ref cC, .int tl, .int (nI k), .ref gA, .ref zA, .ref bA, .ref sR, .ref sD, .ref rA, .ref eC, .ref eA, .ref pA, .ref dA, .ref kA, .ref acA, .int nx])), (oA, .inl (cI, 24, .inl Po)), (aA, .inl (cI, 24, .inl Pa)), (bB, .inl (cI, 24, .inl Pb)), (cC, .inl (cI, 24, .inl Pc)), (gA, .inl (cI, 1600, .inl G)), (zA, .inl (cZ, 400, .inl O)), (bA, .inl (cI, 25, .inl B)), (sR, .inl (cI, 8, .inl sr)), (sD, .inl (cI, 32, .inl sd)), (rA, .inl (cI, 16, .inl (tm_jn 8 R0 (upd R1 0 0)))), (eC, .inl (cI, 128, .inl (tm_jn 64 C0 C1))), (eA, .inl (cI, 2, .inl (tm_tw e0 e1))), (pA, .inl (cI, 2, .inl (tm_tw h0 (G (4 * q + 3))))), (dA, .inl (cI, 2, .inl (tm_tw d0 (d1 + 1)))), (kA, .inl (cI, 2, .inl (tm_tw (nI k0) (nI k1)))), (acA, .inl (cI, 240, .inl (tm_jn 120 A0 A1)))] H := hP
      have hD : va_D A [(m0, .inr (5, [.int th, .int (nI n), .ref oA, .ref aA, .ref bB, .ref cC, .int tl, .int (nI k), .ref gA, .ref zA, .ref bA, .ref sR, .ref sD, .ref rA, .ref eC, .ref eA, .ref pA, .ref dA, .ref kA, .ref acA, .int nx])), (oA, .inl (cI, 24, .inl Po)), (aA, .inl (cI, 24, .inl Pa)), (bB, .inl (cI, 24, .inl Pb)), (cC, .inl (cI, 24, .inl Pc)), (gA, .inl (cI, 1600, .inl G)), (zA, .inl (cZ, 400, .inl O)), (bA, .inl (cI, 25, .inl B)), (sR, .inl (cI, 8, .inl sr)), (sD, .inl (cI, 32, .inl sd)), (rA, .inl (cI, 16, .inl (tm_jn 8 R0 (upd R1 0 0)))), (eC, .inl (cI, 128, .inl (tm_jn 64 C0 C1))), (eA, .inl (cI, 2, .inl (tm_tw e0 e1))), (pA, .inl (cI, 2, .inl (tm_tw h0 (G (4 * q + 3))))), (dA, .inl (cI, 2, .inl (tm_tw d0 (d1 + 1)))), (kA, .inl (cI, 2, .inl (tm_tw (nI k0) (nI k1)))), (acA, .inl (cI, 240, .inl (tm_jn 120 A0 A1)))] := hD
      have ew1_1 : (upd R1 0 0) = ((tm_ts G q (R1, C1, A1, k1, nI q, d1, e1, x1)).1) := by rw [tm_upd0 hR0]; simp [tm_ts, hv, f13, ee0, ee5, ee6, ee7, ee8, ee9, ee10, ee11, ee12, ee13, f7, f9, f4]
      have ew1 : tm_jn 8 R0 (upd R1 0 0) = tm_jn 8 R0 ((tm_ts G q (R1, C1, A1, k1, nI q, d1, e1, x1)).1) := congr (congrArg (tm_jn 8) rfl) ew1_1
      have ew2_1 : C1 = ((tm_ts G q (R1, C1, A1, k1, nI q, d1, e1, x1)).2.1) := by first | rfl | (simp [tm_ts, hv, f13, ee0, ee5, ee6, ee7, ee8, ee9, ee10, ee11, ee12, ee13, f7, f9, f4, hab]; done)
      have ew2 : tm_jn 64 C0 C1 = tm_jn 64 C0 ((tm_ts G q (R1, C1, A1, k1, nI q, d1, e1, x1)).2.1) := congr (congrArg (tm_jn 64) rfl) ew2_1
      have ew3_1 : e1 = ((tm_ts G q (R1, C1, A1, k1, nI q, d1, e1, x1)).2.2.2.2.2.2.1) := by first | rfl | (simp [tm_ts, hv, f13, ee0, ee5, ee6, ee7, ee8, ee9, ee10, ee11, ee12, ee13, f7, f9, f4, hab]; done)
      have ew3 : tm_tw e0 e1 = tm_tw e0 ((tm_ts G q (R1, C1, A1, k1, nI q, d1, e1, x1)).2.2.2.2.2.2.1) := congr (congrArg (tm_tw) rfl) ew3_1
      have ew4_1 : (G (4 * q + 3)) = ((tm_ts G q (R1, C1, A1, k1, nI q, d1, e1, x1)).2.2.2.2.1) := by simp [tm_ts, tm_tb, hv, ha, hbb, hc_a, hc_b, f13, ee0, ee5, ee6, ee7, ee8, ee9, ee10, ee11, ee12, ee13, f7, f9, f4, hab]
      have ew4 : tm_tw h0 (G (4 * q + 3)) = tm_tw h0 ((tm_ts G q (R1, C1, A1, k1, nI q, d1, e1, x1)).2.2.2.2.1) := congr (congrArg (tm_tw) rfl) ew4_1
      have ew5_1 : (d1 + 1) = ((tm_ts G q (R1, C1, A1, k1, nI q, d1, e1, x1)).2.2.2.2.2.1) := by first | rfl | (simp [tm_ts, hv, f13, ee0, ee5, ee6, ee7, ee8, ee9, ee10, ee11, ee12, ee13, f7, f9, f4, hab]; done)
      have ew5 : tm_tw d0 (d1 + 1) = tm_tw d0 ((tm_ts G q (R1, C1, A1, k1, nI q, d1, e1, x1)).2.2.2.2.2.1) := congr (congrArg (tm_tw) rfl) ew5_1
      have ew6_1 : (nI k1) = (nI (tm_ts G q (R1, C1, A1, k1, nI q, d1, e1, x1)).2.2.2.1) := congrArg nI (by first | (simp [tm_ts, hv, f13, ee0, ee5, ee6, ee7, ee8, ee9, ee10, ee11, ee12, ee13, f7, f9, f4, hab]; done) | (simp [tm_ts, hv, f13, ee0, ee5, ee6, ee7, ee8, ee9, ee10, ee11, ee12, ee13, f7, f9, f4, hab]; omega) | omega)
      have ew6 : tm_tw (nI k0) (nI k1) = tm_tw (nI k0) (nI (tm_ts G q (R1, C1, A1, k1, nI q, d1, e1, x1)).2.2.2.1) := congr (congrArg (tm_tw) rfl) ew6_1
      have ew7_1 : A1 = ((tm_ts G q (R1, C1, A1, k1, nI q, d1, e1, x1)).2.2.1) := by first | rfl | (simp [tm_ts, hv, f13, ee0, ee5, ee6, ee7, ee8, ee9, ee10, ee11, ee12, ee13, f7, f9, f4, hab]; done)
      have ew7 : tm_jn 120 A0 A1 = tm_jn 120 A0 ((tm_ts G q (R1, C1, A1, k1, nI q, d1, e1, x1)).2.2.1) := congr (congrArg (tm_jn 120) rfl) ew7_1
      have hP : va_P D cls [(m0, .inr (5, [.int th, .int (nI n), .ref oA, .ref aA, .ref bB, .ref cC, .int tl, .int (nI k), .ref gA, .ref zA, .ref bA, .ref sR, .ref sD, .ref rA, .ref eC, .ref eA, .ref pA, .ref dA, .ref kA, .ref acA, .int nx])), (oA, .inl (cI, 24, .inl Po)), (aA, .inl (cI, 24, .inl Pa)), (bB, .inl (cI, 24, .inl Pb)), (cC, .inl (cI, 24, .inl Pc)), (gA, .inl (cI, 1600, .inl G)), (zA, .inl (cZ, 400, .inl O)), (bA, .inl (cI, 25, .inl B)), (sR, .inl (cI, 8, .inl sr)), (sD, .inl (cI, 32, .inl sd)), (rA, .inl (cI, 16, .inl (tm_jn 8 R0 ((tm_ts G q (R1, C1, A1, k1, nI q, d1, e1, x1)).1)))), (eC, .inl (cI, 128, .inl (tm_jn 64 C0 ((tm_ts G q (R1, C1, A1, k1, nI q, d1, e1, x1)).2.1)))), (eA, .inl (cI, 2, .inl (tm_tw e0 ((tm_ts G q (R1, C1, A1, k1, nI q, d1, e1, x1)).2.2.2.2.2.2.1)))), (pA, .inl (cI, 2, .inl (tm_tw h0 ((tm_ts G q (R1, C1, A1, k1, nI q, d1, e1, x1)).2.2.2.2.1)))), (dA, .inl (cI, 2, .inl (tm_tw d0 ((tm_ts G q (R1, C1, A1, k1, nI q, d1, e1, x1)).2.2.2.2.2.1)))), (kA, .inl (cI, 2, .inl (tm_tw (nI k0) (nI (tm_ts G q (R1, C1, A1, k1, nI q, d1, e1, x1)).2.2.2.1)))), (acA, .inl (cI, 240, .inl (tm_jn 120 A0 ((tm_ts G q (R1, C1, A1, k1, nI q, d1, e1, x1)).2.2.1))))] H := by rw [← ew1, ← ew2, ← ew3, ← ew4, ← ew5, ← ew6, ← ew7]; exact hP
      have hD : va_D A [(m0, .inr (5, [.int th, .int (nI n), .ref oA, .ref aA, .ref bB, .ref cC, .int tl, .int (nI k), .ref gA, .ref zA, .ref bA, .ref sR, .ref sD, .ref rA, .ref eC, .ref eA, .ref pA, .ref dA, .ref kA, .ref acA, .int nx])), (oA, .inl (cI, 24, .inl Po)), (aA, .inl (cI, 24, .inl Pa)), (bB, .inl (cI, 24, .inl Pb)), (cC, .inl (cI, 24, .inl Pc)), (gA, .inl (cI, 1600, .inl G)), (zA, .inl (cZ, 400, .inl O)), (bA, .inl (cI, 25, .inl B)), (sR, .inl (cI, 8, .inl sr)), (sD, .inl (cI, 32, .inl sd)), (rA, .inl (cI, 16, .inl (tm_jn 8 R0 ((tm_ts G q (R1, C1, A1, k1, nI q, d1, e1, x1)).1)))), (eC, .inl (cI, 128, .inl (tm_jn 64 C0 ((tm_ts G q (R1, C1, A1, k1, nI q, d1, e1, x1)).2.1)))), (eA, .inl (cI, 2, .inl (tm_tw e0 ((tm_ts G q (R1, C1, A1, k1, nI q, d1, e1, x1)).2.2.2.2.2.2.1)))), (pA, .inl (cI, 2, .inl (tm_tw h0 ((tm_ts G q (R1, C1, A1, k1, nI q, d1, e1, x1)).2.2.2.2.1)))), (dA, .inl (cI, 2, .inl (tm_tw d0 ((tm_ts G q (R1, C1, A1, k1, nI q, d1, e1, x1)).2.2.2.2.2.1)))), (kA, .inl (cI, 2, .inl (tm_tw (nI k0) (nI (tm_ts G q (R1, C1, A1, k1, nI q, d1, e1, x1)).2.2.2.1)))), (acA, .inl (cI, 240, .inl (tm_jn 120 A0 ((tm_ts G q (R1, C1, A1, k1, nI q, d1, e1, x1)).2.2.1))))] := by rw [← ew1, ← ew2, ← ew3, ← ew4, ← ew5, ← ew6, ← ew7]; exact hD
      exact W.vret hx hb hr (fun t9 ht9 hW9 => ⟨⟨(), rfl, trivial, by rw [ht9]; exact hP, hD⟩, hS.F ht9⟩) hS.2.2 d_Mo_target_323
    · refine lv_iload_n hx hb d_Mo_target_118 rfl (lv_at hl 5 rfl) ?_
      refine lv_bipush (v := 10) hx hb d_Mo_target_119 (by decide) ?_
      refine lv_icmp_ne (tgt := 131) hx hb d_Mo_target_121 rfl (fun _ => ?_) (fun hz9 => absurd hz9 (ee10))
      refine lv_iload_n hx hb d_Mo_target_131 rfl (lv_at hl 5 rfl) ?_
      refine lv_bipush (v := 11) hx hb d_Mo_target_132 (by decide) ?_
      refine lv_icmp_eq (tgt := 156) hx hb d_Mo_target_134 rfl (fun hz9 => absurd hz9 (ee11)) (fun _ => ?_)
      refine lv_iload_n hx hb d_Mo_target_137 rfl (lv_at hl 5 rfl) ?_
      refine lv_bipush (v := 12) hx hb d_Mo_target_138 (by decide) ?_
      refine lv_icmp_ne (tgt := 160) hx hb d_Mo_target_140 rfl (fun _ => ?_) (fun hz9 => absurd hz9 (ee12))
      refine lv_iconst (v := 0) hx hb d_Mo_target_160 (by decide) ?_
      refine lv_istore hx hb d_Mo_target_161 hl (by decide) rfl (fun ls hl => ?_)
      have hl : lv_has ls 9 [(8, .int 0), (7, .int (R1 b)), (6, .int (R1 a)), (5, .int (G (4 * q + 3))), (4, .int (nI b)), (3, .int (nI a)), (2, .int (nI v)), (1, .int (nI q)), (0, .ref m0)] := hl
      refine lv_aload_n hx hb d_Mo_target_163 rfl (lv_at hl 8 rfl) ?_
      refine va_get (D := D) (ci := 5) (v := .ref pA) (C := R_Mo) (T := F_Mo) (N := 21) hx hb hg f_Mo hown hK.1 hP 0 rfl rfl 16 (by decide) (hg _ q579) (fun _ h9 => h9) rfl d_Mo_target_164 ?_
      refine lv_iconst (v := 1) hx hb d_Mo_target_167 (by decide) ?_
      refine lv_iload hx hb d_Mo_target_168 (lv_at hl 0 rfl) ?_
      refine lv_if_eq (tgt := 178) hx hb d_Mo_target_170 rfl (fun _ => ?_) (fun hz9 => absurd (by decide) hz9)
      refine lv_iload_n hx hb d_Mo_target_178 rfl (lv_at hl 6 rfl) ?_
      refine lv_bipush (v := 13) hx hb d_Mo_target_179 (by decide) ?_
      refine lv_icmp_ne (tgt := 189) hx hb d_Mo_target_181 rfl (fun _ => ?_) (fun hz9 => absurd hz9 (ee13))
      refine lv_iload_n hx hb d_Mo_target_189 rfl (lv_at hl 7 rfl) ?_
      refine lv_iconst (v := 1) hx hb d_Mo_target_190 (by decide) ?_
      refine lv_iadd hx hb d_Mo_target_191 ?_
      have eq9 : ((nI q) + 1 : Int32) = nI (q + 1) := nI_add q 1
      refine W.eq (g2 := F0 m 192 ls [.int (nI (q + 1)), .int 1, .ref pA]) (by rw [eq9]) ?_
      refine xa_st hx hb hK hP hD hS 13 0 rfl rfl (kx := 1) (rfl) (by decide) (by decide) d_Mo_target_192 (fun H locs hP hD hS => ?_)
      have hP : va_P D cls [(m0, .inr (5, [.int th, .int (nI n), .ref oA, .ref aA, .ref bB, .ref cC, .int tl, .int (nI k), .ref gA, .ref zA, .ref bA, .ref sR, .ref sD, .ref rA, .ref eC, .ref eA, .ref pA, .ref dA, .ref kA, .ref acA, .int nx])), (oA, .inl (cI, 24, .inl Po)), (aA, .inl (cI, 24, .inl Pa)), (bB, .inl (cI, 24, .inl Pb)), (cC, .inl (cI, 24, .inl Pc)), (gA, .inl (cI, 1600, .inl G)), (zA, .inl (cZ, 400, .inl O)), (bA, .inl (cI, 25, .inl B)), (sR, .inl (cI, 8, .inl sr)), (sD, .inl (cI, 32, .inl sd)), (rA, .inl (cI, 16, .inl (tm_jn 8 R0 R1))), (eC, .inl (cI, 128, .inl (tm_jn 64 C0 C1))), (eA, .inl (cI, 2, .inl (tm_tw e0 e1))), (pA, .inl (cI, 2, .inl (upd (tm_tw h0 (nI q)) 1 (nI (q + 1))))), (dA, .inl (cI, 2, .inl (tm_tw d0 (d1 + 1)))), (kA, .inl (cI, 2, .inl (tm_tw (nI k0) (nI k1)))), (acA, .inl (cI, 240, .inl (tm_jn 120 A0 A1)))] H := hP
      have hD : va_D A [(m0, .inr (5, [.int th, .int (nI n), .ref oA, .ref aA, .ref bB, .ref cC, .int tl, .int (nI k), .ref gA, .ref zA, .ref bA, .ref sR, .ref sD, .ref rA, .ref eC, .ref eA, .ref pA, .ref dA, .ref kA, .ref acA, .int nx])), (oA, .inl (cI, 24, .inl Po)), (aA, .inl (cI, 24, .inl Pa)), (bB, .inl (cI, 24, .inl Pb)), (cC, .inl (cI, 24, .inl Pc)), (gA, .inl (cI, 1600, .inl G)), (zA, .inl (cZ, 400, .inl O)), (bA, .inl (cI, 25, .inl B)), (sR, .inl (cI, 8, .inl sr)), (sD, .inl (cI, 32, .inl sd)), (rA, .inl (cI, 16, .inl (tm_jn 8 R0 R1))), (eC, .inl (cI, 128, .inl (tm_jn 64 C0 C1))), (eA, .inl (cI, 2, .inl (tm_tw e0 e1))), (pA, .inl (cI, 2, .inl (upd (tm_tw h0 (nI q)) 1 (nI (q + 1))))), (dA, .inl (cI, 2, .inl (tm_tw d0 (d1 + 1)))), (kA, .inl (cI, 2, .inl (tm_tw (nI k0) (nI k1)))), (acA, .inl (cI, 240, .inl (tm_jn 120 A0 A1)))] := hD
      have hD := xa_D (e2 := .inl (cI, 2, .inl (tm_tw h0 (nI (q + 1))))) hD 13 rfl
      have hP := xa_P (g := tm_tw h0 (nI (q + 1))) hP 13 rfl (tm_tw_c)
      have hP : va_P D cls [(m0, .inr (5, [.int th, .int (nI n), .ref oA, .ref aA, .ref bB, .ref cC, .int tl, .int (nI k), .ref gA, .ref zA, .ref bA, .ref sR, .ref sD, .ref rA, .ref eC, .ref eA, .ref pA, .ref dA, .ref kA, .ref acA, .int nx])), (oA, .inl (cI, 24, .inl Po)), (aA, .inl (cI, 24, .inl Pa)), (bB, .inl (cI, 24, .inl Pb)), (cC, .inl (cI, 24, .inl Pc)), (gA, .inl (cI, 1600, .inl G)), (zA, .inl (cZ, 400, .inl O)), (bA, .inl (cI, 25, .inl B)), (sR, .inl (cI, 8, .inl sr)), (sD, .inl (cI, 32, .inl sd)), (rA, .inl (cI, 16, .inl (tm_jn 8 R0 R1))), (eC, .inl (cI, 128, .inl (tm_jn 64 C0 C1))), (eA, .inl (cI, 2, .inl (tm_tw e0 e1))), (pA, .inl (cI, 2, .inl (tm_tw h0 (nI (q + 1))))), (dA, .inl (cI, 2, .inl (tm_tw d0 (d1 + 1)))), (kA, .inl (cI, 2, .inl (tm_tw (nI k0) (nI k1)))), (acA, .inl (cI, 240, .inl (tm_jn 120 A0 A1)))] H := hP
      have hD : va_D A [(m0, .inr (5, [.int th, .int (nI n), .ref oA, .ref aA, .ref bB, .ref cC, .int tl, .int (nI k), .ref gA, .ref zA, .ref bA, .ref sR, .ref sD, .ref rA, .ref eC, .ref eA, .ref pA, .ref dA, .ref kA, .ref acA, .int nx])), (oA, .inl (cI, 24, .inl Po)), (aA, .inl (cI, 24, .inl Pa)), (bB, .inl (cI, 24, .inl Pb)), (cC, .inl (cI, 24, .inl Pc)), (gA, .inl (cI, 1600, .inl G)), (zA, .inl (cZ, 400, .inl O)), (bA, .inl (cI, 25, .inl B)), (sR, .inl (cI, 8, .inl sr)), (sD, .inl (cI, 32, .inl sd)), (rA, .inl (cI, 16, .inl (tm_jn 8 R0 R1))), (eC, .inl (cI, 128, .inl (tm_jn 64 C0 C1))), (eA, .inl (cI, 2, .inl (tm_tw e0 e1))), (pA, .inl (cI, 2, .inl (tm_tw h0 (nI (q + 1))))), (dA, .inl (cI, 2, .inl (tm_tw d0 (d1 + 1)))), (kA, .inl (cI, 2, .inl (tm_tw (nI k0) (nI k1)))), (acA, .inl (cI, 240, .inl (tm_jn 120 A0 A1)))] := hD
      refine lv_iload_n hx hb d_Mo_target_193 rfl (lv_at hl 6 rfl) ?_
      refine lv_iconst (v := 5) hx hb d_Mo_target_194 (by decide) ?_
      refine lv_icmp_ge (tgt := 226) hx hb d_Mo_target_195 rfl (fun _ => ?_) (fun hz9 => absurd (nI_le (a := 5) (b := v) (by omega) (by omega)) hz9)
      refine lv_iload_n hx hb d_Mo_target_226 rfl (lv_at hl 6 rfl) ?_
      refine lv_iconst (v := 5) hx hb d_Mo_target_227 (by decide) ?_
      refine lv_icmp_ne (tgt := 251) hx hb d_Mo_target_228 rfl (fun _ => ?_) (fun hz9 => absurd hz9 (ee5))
      refine lv_iload_n hx hb d_Mo_target_251 rfl (lv_at hl 6 rfl) ?_
      refine lv_bipush (v := 6) hx hb d_Mo_target_252 (by decide) ?_
      refine lv_icmp_ne (tgt := 278) hx hb d_Mo_target_254 rfl (fun _ => ?_) (fun hz9 => absurd hz9 (ee6))
      refine lv_iload_n hx hb d_Mo_target_278 rfl (lv_at hl 6 rfl) ?_
      refine lv_bipush (v := 7) hx hb d_Mo_target_279 (by decide) ?_
      refine lv_icmp_eq (tgt := 290) hx hb d_Mo_target_281 rfl (fun hz9 => absurd hz9 (ee7)) (fun _ => ?_)
      refine lv_iload_n hx hb d_Mo_target_284 rfl (lv_at hl 6 rfl) ?_
      refine lv_bipush (v := 8) hx hb d_Mo_target_285 (by decide) ?_
      refine lv_icmp_ne (tgt := 315) hx hb d_Mo_target_287 rfl (fun _ => ?_) (fun hz9 => absurd hz9 (ee8))
      refine lv_aload_n hx hb d_Mo_target_315 rfl (lv_at hl 8 rfl) ?_
      refine va_get (D := D) (ci := 5) (v := .ref rA) (C := R_Mo) (T := F_Mo) (N := 21) hx hb hg f_Mo hown hK.1 hP 0 rfl rfl 13 (by decide) (hg _ q576) (fun _ h9 => h9) rfl d_Mo_target_316 ?_
      refine lv_bipush (v := 8) hx hb d_Mo_target_319 (by decide) ?_
      refine lv_iconst (v := 0) hx hb d_Mo_target_321 (by decide) ?_
      refine xa_st hx hb hK hP hD hS 10 0 rfl rfl (kx := 8) (rfl) (by decide) (by decide) d_Mo_target_322 (fun H locs hP hD hS => ?_)
      have hP : va_P D cls [(m0, .inr (5, [.int th, .int (nI n), .ref oA, .ref aA, .ref bB, .ref cC, .int tl, .int (nI k), .ref gA, .ref zA, .ref bA, .ref sR, .ref sD, .ref rA, .ref eC, .ref eA, .ref pA, .ref dA, .ref kA, .ref acA, .int nx])), (oA, .inl (cI, 24, .inl Po)), (aA, .inl (cI, 24, .inl Pa)), (bB, .inl (cI, 24, .inl Pb)), (cC, .inl (cI, 24, .inl Pc)), (gA, .inl (cI, 1600, .inl G)), (zA, .inl (cZ, 400, .inl O)), (bA, .inl (cI, 25, .inl B)), (sR, .inl (cI, 8, .inl sr)), (sD, .inl (cI, 32, .inl sd)), (rA, .inl (cI, 16, .inl (upd (tm_jn 8 R0 R1) 8 0))), (eC, .inl (cI, 128, .inl (tm_jn 64 C0 C1))), (eA, .inl (cI, 2, .inl (tm_tw e0 e1))), (pA, .inl (cI, 2, .inl (tm_tw h0 (nI (q + 1))))), (dA, .inl (cI, 2, .inl (tm_tw d0 (d1 + 1)))), (kA, .inl (cI, 2, .inl (tm_tw (nI k0) (nI k1)))), (acA, .inl (cI, 240, .inl (tm_jn 120 A0 A1)))] H := hP
      have hD : va_D A [(m0, .inr (5, [.int th, .int (nI n), .ref oA, .ref aA, .ref bB, .ref cC, .int tl, .int (nI k), .ref gA, .ref zA, .ref bA, .ref sR, .ref sD, .ref rA, .ref eC, .ref eA, .ref pA, .ref dA, .ref kA, .ref acA, .int nx])), (oA, .inl (cI, 24, .inl Po)), (aA, .inl (cI, 24, .inl Pa)), (bB, .inl (cI, 24, .inl Pb)), (cC, .inl (cI, 24, .inl Pc)), (gA, .inl (cI, 1600, .inl G)), (zA, .inl (cZ, 400, .inl O)), (bA, .inl (cI, 25, .inl B)), (sR, .inl (cI, 8, .inl sr)), (sD, .inl (cI, 32, .inl sd)), (rA, .inl (cI, 16, .inl (upd (tm_jn 8 R0 R1) 8 0))), (eC, .inl (cI, 128, .inl (tm_jn 64 C0 C1))), (eA, .inl (cI, 2, .inl (tm_tw e0 e1))), (pA, .inl (cI, 2, .inl (tm_tw h0 (nI (q + 1))))), (dA, .inl (cI, 2, .inl (tm_tw d0 (d1 + 1)))), (kA, .inl (cI, 2, .inl (tm_tw (nI k0) (nI k1)))), (acA, .inl (cI, 240, .inl (tm_jn 120 A0 A1)))] := hD
      rw [show 8 = 8 + 0 by omega, tm_jn_uh] at hP hD
      have hP : va_P D cls [(m0, .inr (5, [.int th, .int (nI n), .ref oA, .ref aA, .ref bB, .ref cC, .int tl, .int (nI k), .ref gA, .ref zA, .ref bA, .ref sR, .ref sD, .ref rA, .ref eC, .ref eA, .ref pA, .ref dA, .ref kA, .ref acA, .int nx])), (oA, .inl (cI, 24, .inl Po)), (aA, .inl (cI, 24, .inl Pa)), (bB, .inl (cI, 24, .inl Pb)), (cC, .inl (cI, 24, .inl Pc)), (gA, .inl (cI, 1600, .inl G)), (zA, .inl (cZ, 400, .inl O)), (bA, .inl (cI, 25, .inl B)), (sR, .inl (cI, 8, .inl sr)), (sD, .inl (cI, 32, .inl sd)), (rA, .inl (cI, 16, .inl (tm_jn 8 R0 (upd R1 0 0)))), (eC, .inl (cI, 128, .inl (tm_jn 64 C0 C1))), (eA, .inl (cI, 2, .inl (tm_tw e0 e1))), (pA, .inl (cI, 2, .inl (tm_tw h0 (nI (q + 1))))), (dA, .inl (cI, 2, .inl (tm_tw d0 (d1 + 1)))), (kA, .inl (cI, 2, .inl (tm_tw (nI k0) (nI k1)))), (acA, .inl (cI, 240, .inl (tm_jn 120 A0 A1)))] H := hP
      have hD : va_D A [(m0, .inr (5, [.int th, .int (nI n), .ref oA, .ref aA, .ref bB, .ref cC, .int tl, .int (nI k), .ref gA, .ref zA, .ref bA, .ref sR, .ref sD, .ref rA, .ref eC, .ref eA, .ref pA, .ref dA, .ref kA, .ref acA, .int nx])), (oA, .inl (cI, 24, .inl Po)), (aA, .inl (cI, 24, .inl Pa)), (bB, .inl (cI, 24, .inl Pb)), (cC, .inl (cI, 24, .inl Pc)), (gA, .inl (cI, 1600, .inl G)), (zA, .inl (cZ, 400, .inl O)), (bA, .inl (cI, 25, .inl B)), (sR, .inl (cI, 8, .inl sr)), (sD, .inl (cI, 32, .inl sd)), (rA, .inl (cI, 16, .inl (tm_jn 8 R0 (upd R1 0 0)))), (eC, .inl (cI, 128, .inl (tm_jn 64 C0 C1))), (eA, .inl (cI, 2, .inl (tm_tw e0 e1))), (pA, .inl (cI, 2, .inl (tm_tw h0 (nI (q + 1))))), (dA, .inl (cI, 2, .inl (tm_tw d0 (d1 + 1)))), (kA, .inl (cI, 2, .inl (tm_tw (nI k0) (nI k1)))), (acA, .inl (cI, 240, .inl (tm_jn 120 A0 A1)))] := hD
      have ew1_1 : (upd R1 0 0) = ((tm_ts G q (R1, C1, A1, k1, nI q, d1, e1, x1)).1) := by rw [tm_upd0 hR0]; simp [tm_ts, hv, f13, ee0, ee5, ee6, ee7, ee8, ee9, ee10, ee11, ee12, ee13, f7, f9, f4]
      have ew1 : tm_jn 8 R0 (upd R1 0 0) = tm_jn 8 R0 ((tm_ts G q (R1, C1, A1, k1, nI q, d1, e1, x1)).1) := congr (congrArg (tm_jn 8) rfl) ew1_1
      have ew2_1 : C1 = ((tm_ts G q (R1, C1, A1, k1, nI q, d1, e1, x1)).2.1) := by first | rfl | (simp [tm_ts, hv, f13, ee0, ee5, ee6, ee7, ee8, ee9, ee10, ee11, ee12, ee13, f7, f9, f4, hab]; done)
      have ew2 : tm_jn 64 C0 C1 = tm_jn 64 C0 ((tm_ts G q (R1, C1, A1, k1, nI q, d1, e1, x1)).2.1) := congr (congrArg (tm_jn 64) rfl) ew2_1
      have ew3_1 : e1 = ((tm_ts G q (R1, C1, A1, k1, nI q, d1, e1, x1)).2.2.2.2.2.2.1) := by first | rfl | (simp [tm_ts, hv, f13, ee0, ee5, ee6, ee7, ee8, ee9, ee10, ee11, ee12, ee13, f7, f9, f4, hab]; done)
      have ew3 : tm_tw e0 e1 = tm_tw e0 ((tm_ts G q (R1, C1, A1, k1, nI q, d1, e1, x1)).2.2.2.2.2.2.1) := congr (congrArg (tm_tw) rfl) ew3_1
      have ew4_1 : (nI (q + 1)) = ((tm_ts G q (R1, C1, A1, k1, nI q, d1, e1, x1)).2.2.2.2.1) := by simp [tm_ts, tm_tb, hv, ha, hbb, hc_a, hc_b, f13, ee0, ee5, ee6, ee7, ee8, ee9, ee10, ee11, ee12, ee13, f7, f9, f4, hab]
      have ew4 : tm_tw h0 (nI (q + 1)) = tm_tw h0 ((tm_ts G q (R1, C1, A1, k1, nI q, d1, e1, x1)).2.2.2.2.1) := congr (congrArg (tm_tw) rfl) ew4_1
      have ew5_1 : (d1 + 1) = ((tm_ts G q (R1, C1, A1, k1, nI q, d1, e1, x1)).2.2.2.2.2.1) := by first | rfl | (simp [tm_ts, hv, f13, ee0, ee5, ee6, ee7, ee8, ee9, ee10, ee11, ee12, ee13, f7, f9, f4, hab]; done)
      have ew5 : tm_tw d0 (d1 + 1) = tm_tw d0 ((tm_ts G q (R1, C1, A1, k1, nI q, d1, e1, x1)).2.2.2.2.2.1) := congr (congrArg (tm_tw) rfl) ew5_1
      have ew6_1 : (nI k1) = (nI (tm_ts G q (R1, C1, A1, k1, nI q, d1, e1, x1)).2.2.2.1) := congrArg nI (by first | (simp [tm_ts, hv, f13, ee0, ee5, ee6, ee7, ee8, ee9, ee10, ee11, ee12, ee13, f7, f9, f4, hab]; done) | (simp [tm_ts, hv, f13, ee0, ee5, ee6, ee7, ee8, ee9, ee10, ee11, ee12, ee13, f7, f9, f4, hab]; omega) | omega)
      have ew6 : tm_tw (nI k0) (nI k1) = tm_tw (nI k0) (nI (tm_ts G q (R1, C1, A1, k1, nI q, d1, e1, x1)).2.2.2.1) := congr (congrArg (tm_tw) rfl) ew6_1
      have ew7_1 : A1 = ((tm_ts G q (R1, C1, A1, k1, nI q, d1, e1, x1)).2.2.1) := by first | rfl | (simp [tm_ts, hv, f13, ee0, ee5, ee6, ee7, ee8, ee9, ee10, ee11, ee12, ee13, f7, f9, f4, hab]; done)
      have ew7 : tm_jn 120 A0 A1 = tm_jn 120 A0 ((tm_ts G q (R1, C1, A1, k1, nI q, d1, e1, x1)).2.2.1) := congr (congrArg (tm_jn 120) rfl) ew7_1
      have hP : va_P D cls [(m0, .inr (5, [.int th, .int (nI n), .ref oA, .ref aA, .ref bB, .ref cC, .int tl, .int (nI k), .ref gA, .ref zA, .ref bA, .ref sR, .ref sD, .ref rA, .ref eC, .ref eA, .ref pA, .ref dA, .ref kA, .ref acA, .int nx])), (oA, .inl (cI, 24, .inl Po)), (aA, .inl (cI, 24, .inl Pa)), (bB, .inl (cI, 24, .inl Pb)), (cC, .inl (cI, 24, .inl Pc)), (gA, .inl (cI, 1600, .inl G)), (zA, .inl (cZ, 400, .inl O)), (bA, .inl (cI, 25, .inl B)), (sR, .inl (cI, 8, .inl sr)), (sD, .inl (cI, 32, .inl sd)), (rA, .inl (cI, 16, .inl (tm_jn 8 R0 ((tm_ts G q (R1, C1, A1, k1, nI q, d1, e1, x1)).1)))), (eC, .inl (cI, 128, .inl (tm_jn 64 C0 ((tm_ts G q (R1, C1, A1, k1, nI q, d1, e1, x1)).2.1)))), (eA, .inl (cI, 2, .inl (tm_tw e0 ((tm_ts G q (R1, C1, A1, k1, nI q, d1, e1, x1)).2.2.2.2.2.2.1)))), (pA, .inl (cI, 2, .inl (tm_tw h0 ((tm_ts G q (R1, C1, A1, k1, nI q, d1, e1, x1)).2.2.2.2.1)))), (dA, .inl (cI, 2, .inl (tm_tw d0 ((tm_ts G q (R1, C1, A1, k1, nI q, d1, e1, x1)).2.2.2.2.2.1)))), (kA, .inl (cI, 2, .inl (tm_tw (nI k0) (nI (tm_ts G q (R1, C1, A1, k1, nI q, d1, e1, x1)).2.2.2.1)))), (acA, .inl (cI, 240, .inl (tm_jn 120 A0 ((tm_ts G q (R1, C1, A1, k1, nI q, d1, e1, x1)).2.2.1))))] H := by rw [← ew1, ← ew2, ← ew3, ← ew4, ← ew5, ← ew6, ← ew7]; exact hP
      have hD : va_D A [(m0, .inr (5, [.int th, .int (nI n), .ref oA, .ref aA, .ref bB, .ref cC, .int tl, .int (nI k), .ref gA, .ref zA, .ref bA, .ref sR, .ref sD, .ref rA, .ref eC, .ref eA, .ref pA, .ref dA, .ref kA, .ref acA, .int nx])), (oA, .inl (cI, 24, .inl Po)), (aA, .inl (cI, 24, .inl Pa)), (bB, .inl (cI, 24, .inl Pb)), (cC, .inl (cI, 24, .inl Pc)), (gA, .inl (cI, 1600, .inl G)), (zA, .inl (cZ, 400, .inl O)), (bA, .inl (cI, 25, .inl B)), (sR, .inl (cI, 8, .inl sr)), (sD, .inl (cI, 32, .inl sd)), (rA, .inl (cI, 16, .inl (tm_jn 8 R0 ((tm_ts G q (R1, C1, A1, k1, nI q, d1, e1, x1)).1)))), (eC, .inl (cI, 128, .inl (tm_jn 64 C0 ((tm_ts G q (R1, C1, A1, k1, nI q, d1, e1, x1)).2.1)))), (eA, .inl (cI, 2, .inl (tm_tw e0 ((tm_ts G q (R1, C1, A1, k1, nI q, d1, e1, x1)).2.2.2.2.2.2.1)))), (pA, .inl (cI, 2, .inl (tm_tw h0 ((tm_ts G q (R1, C1, A1, k1, nI q, d1, e1, x1)).2.2.2.2.1)))), (dA, .inl (cI, 2, .inl (tm_tw d0 ((tm_ts G q (R1, C1, A1, k1, nI q, d1, e1, x1)).2.2.2.2.2.1)))), (kA, .inl (cI, 2, .inl (tm_tw (nI k0) (nI (tm_ts G q (R1, C1, A1, k1, nI q, d1, e1, x1)).2.2.2.1)))), (acA, .inl (cI, 240, .inl (tm_jn 120 A0 ((tm_ts G q (R1, C1, A1, k1, nI q, d1, e1, x1)).2.2.1))))] := by rw [← ew1, ← ew2, ← ew3, ← ew4, ← ew5, ← ew6, ← ew7]; exact hD
      exact W.vret hx hb hr (fun t9 ht9 hW9 => ⟨⟨(), rfl, trivial, by rw [ht9]; exact hP, hD⟩, hS.F ht9⟩) hS.2.2 d_Mo_target_323
  · have f13 : ¬ 13 < nI v := nI_nlt (a := 13) (b := v) (by omega) (by decide)
    have ee0 : ¬ nI v = 0 := xn_ne (w := 0) (by omega) (by decide) (by omega)
    have ee5 : ¬ nI v = 5 := xn_ne (w := 5) (by omega) (by decide) (by omega)
    have ee6 : ¬ nI v = 6 := xn_ne (w := 6) (by omega) (by decide) (by omega)
    have ee7 : ¬ nI v = 7 := xn_ne (w := 7) (by omega) (by decide) (by omega)
    have ee8 : ¬ nI v = 8 := xn_ne (w := 8) (by omega) (by decide) (by omega)
    have ee9 : ¬ nI v = 9 := xn_ne (w := 9) (by omega) (by decide) (by omega)
    have ee10 : nI v = 10 := by rw [hcase]; rfl
    have ee11 : ¬ nI v = 11 := xn_ne (w := 11) (by omega) (by decide) (by omega)
    have ee12 : ¬ nI v = 12 := xn_ne (w := 12) (by omega) (by decide) (by omega)
    have ee13 : ¬ nI v = 13 := xn_ne (w := 13) (by omega) (by decide) (by omega)
    have f7 : ¬ nI v < 7 := nI_nlt (a := v) (b := 7) (by omega) (by omega)
    have f9 : ¬ nI v < 9 := nI_nlt (a := v) (b := 9) (by omega) (by omega)
    have f4 : 4 < nI v := nI_lt (a := 4) (b := v) (by omega) (by omega)
    refine lv_aload_n hx hb d_Mo_target_0 rfl (lv_at hl 0 rfl) ?_
    refine va_get (D := D) (ci := 5) (v := .ref pA) (C := R_Mo) (T := F_Mo) (N := 21) hx hb hg f_Mo hown hK.1 hP 0 rfl rfl 16 (by decide) (hg _ q579) (fun _ h9 => h9) rfl d_Mo_target_1 ?_
    refine lv_iconst (v := 1) hx hb d_Mo_target_4 (by decide) ?_
    refine xa_ld hx hb hK hP 13 0 rfl rfl (kx := 1) (rfl) (by decide) (by decide) d_Mo_target_5 ?_
    have eq9 : ((tm_tw h0 (nI q)) 1 : Int32) = nI q := rfl
    refine W.eq (g2 := F0 m 6 ls [.int (nI q)]) (by rw [eq9]) ?_
    refine lv_istore_n hx hb d_Mo_target_6 rfl hl (by decide) rfl (fun ls hl => ?_)
    have hl : lv_has ls 9 [(1, .int (nI q)), (0, .ref m0)] := hl
    refine lv_aload_n hx hb d_Mo_target_7 rfl (lv_at hl 1 rfl) ?_
    refine va_get (D := D) (ci := 5) (v := .ref gA) (C := R_Mo) (T := F_Mo) (N := 21) hx hb hg f_Mo hown hK.1 hP 0 rfl rfl 8 (by decide) (hg _ q571) (fun _ h9 => h9) rfl d_Mo_target_8 ?_
    refine lv_iconst (v := 4) hx hb d_Mo_target_11 (by decide) ?_
    refine lv_iload_n hx hb d_Mo_target_12 rfl (lv_at hl 0 rfl) ?_
    refine lv_imul hx hb d_Mo_target_13 ?_
    have eq9 : (4 * (nI q) : Int32) = nI (4 * q) := pk_mul 4 q
    refine W.eq (g2 := F0 m 14 ls [.int (nI (4 * q)), .ref gA]) (by rw [eq9]) ?_
    refine xa_ld hx hb hK hP 5 0 rfl rfl (kx := 4 * q) (rfl) (by omega) (by decide) d_Mo_target_14 ?_
    have eq9 : (G (4 * q) : Int32) = nI v := hv
    refine W.eq (g2 := F0 m 15 ls [.int (nI v)]) (by rw [eq9]) ?_
    refine lv_istore_n hx hb d_Mo_target_15 rfl hl (by decide) rfl (fun ls hl => ?_)
    have hl : lv_has ls 9 [(2, .int (nI v)), (1, .int (nI q)), (0, .ref m0)] := hl
    refine lv_aload_n hx hb d_Mo_target_16 rfl (lv_at hl 2 rfl) ?_
    refine va_get (D := D) (ci := 5) (v := .ref gA) (C := R_Mo) (T := F_Mo) (N := 21) hx hb hg f_Mo hown hK.1 hP 0 rfl rfl 8 (by decide) (hg _ q571) (fun _ h9 => h9) rfl d_Mo_target_17 ?_
    refine lv_iconst (v := 4) hx hb d_Mo_target_20 (by decide) ?_
    refine lv_iload_n hx hb d_Mo_target_21 rfl (lv_at hl 1 rfl) ?_
    refine lv_imul hx hb d_Mo_target_22 ?_
    have eq9 : (4 * (nI q) : Int32) = nI (4 * q) := pk_mul 4 q
    refine W.eq (g2 := F0 m 23 ls [.int (nI (4 * q)), .ref gA]) (by rw [eq9]) ?_
    refine lv_iconst (v := 1) hx hb d_Mo_target_23 (by decide) ?_
    refine lv_iadd hx hb d_Mo_target_24 ?_
    have eq9 : ((nI (4 * q)) + 1 : Int32) = nI (4 * q + 1) := nI_add (4 * q) 1
    refine W.eq (g2 := F0 m 25 ls [.int (nI (4 * q + 1)), .ref gA]) (by rw [eq9]) ?_
    refine xa_ld hx hb hK hP 5 0 rfl rfl (kx := 4 * q + 1) (rfl) (by omega) (by decide) d_Mo_target_25 ?_
    have eq9 : (G (4 * q + 1) : Int32) = nI a := ha
    refine W.eq (g2 := F0 m 26 ls [.int (nI a)]) (by rw [eq9]) ?_
    refine lv_istore_n hx hb d_Mo_target_26 rfl hl (by decide) rfl (fun ls hl => ?_)
    have hl : lv_has ls 9 [(3, .int (nI a)), (2, .int (nI v)), (1, .int (nI q)), (0, .ref m0)] := hl
    refine lv_aload_n hx hb d_Mo_target_27 rfl (lv_at hl 3 rfl) ?_
    refine va_get (D := D) (ci := 5) (v := .ref gA) (C := R_Mo) (T := F_Mo) (N := 21) hx hb hg f_Mo hown hK.1 hP 0 rfl rfl 8 (by decide) (hg _ q571) (fun _ h9 => h9) rfl d_Mo_target_28 ?_
    refine lv_iconst (v := 4) hx hb d_Mo_target_31 (by decide) ?_
    refine lv_iload_n hx hb d_Mo_target_32 rfl (lv_at hl 2 rfl) ?_
    refine lv_imul hx hb d_Mo_target_33 ?_
    have eq9 : (4 * (nI q) : Int32) = nI (4 * q) := pk_mul 4 q
    refine W.eq (g2 := F0 m 34 ls [.int (nI (4 * q)), .ref gA]) (by rw [eq9]) ?_
    refine lv_iconst (v := 2) hx hb d_Mo_target_34 (by decide) ?_
    refine lv_iadd hx hb d_Mo_target_35 ?_
    have eq9 : ((nI (4 * q)) + 2 : Int32) = nI (4 * q + 2) := nI_add (4 * q) 2
    refine W.eq (g2 := F0 m 36 ls [.int (nI (4 * q + 2)), .ref gA]) (by rw [eq9]) ?_
    refine xa_ld hx hb hK hP 5 0 rfl rfl (kx := 4 * q + 2) (rfl) (by omega) (by decide) d_Mo_target_36 ?_
    have eq9 : (G (4 * q + 2) : Int32) = nI b := hbb
    refine W.eq (g2 := F0 m 37 ls [.int (nI b)]) (by rw [eq9]) ?_
    refine lv_istore hx hb d_Mo_target_37 hl (by decide) rfl (fun ls hl => ?_)
    have hl : lv_has ls 9 [(4, .int (nI b)), (3, .int (nI a)), (2, .int (nI v)), (1, .int (nI q)), (0, .ref m0)] := hl
    refine lv_aload_n hx hb d_Mo_target_39 rfl (lv_at hl 4 rfl) ?_
    refine va_get (D := D) (ci := 5) (v := .ref gA) (C := R_Mo) (T := F_Mo) (N := 21) hx hb hg f_Mo hown hK.1 hP 0 rfl rfl 8 (by decide) (hg _ q571) (fun _ h9 => h9) rfl d_Mo_target_40 ?_
    refine lv_iconst (v := 4) hx hb d_Mo_target_43 (by decide) ?_
    refine lv_iload_n hx hb d_Mo_target_44 rfl (lv_at hl 3 rfl) ?_
    refine lv_imul hx hb d_Mo_target_45 ?_
    have eq9 : (4 * (nI q) : Int32) = nI (4 * q) := pk_mul 4 q
    refine W.eq (g2 := F0 m 46 ls [.int (nI (4 * q)), .ref gA]) (by rw [eq9]) ?_
    refine lv_iconst (v := 3) hx hb d_Mo_target_46 (by decide) ?_
    refine lv_iadd hx hb d_Mo_target_47 ?_
    have eq9 : ((nI (4 * q)) + 3 : Int32) = nI (4 * q + 3) := nI_add (4 * q) 3
    refine W.eq (g2 := F0 m 48 ls [.int (nI (4 * q + 3)), .ref gA]) (by rw [eq9]) ?_
    refine xa_ld hx hb hK hP 5 0 rfl rfl (kx := 4 * q + 3) (rfl) (by omega) (by decide) d_Mo_target_48 ?_
    refine lv_istore hx hb d_Mo_target_49 hl (by decide) rfl (fun ls hl => ?_)
    have hl : lv_has ls 9 [(5, .int (G (4 * q + 3))), (4, .int (nI b)), (3, .int (nI a)), (2, .int (nI v)), (1, .int (nI q)), (0, .ref m0)] := hl
    refine lv_aload_n hx hb d_Mo_target_51 rfl (lv_at hl 5 rfl) ?_
    refine va_get (D := D) (ci := 5) (v := .ref rA) (C := R_Mo) (T := F_Mo) (N := 21) hx hb hg f_Mo hown hK.1 hP 0 rfl rfl 13 (by decide) (hg _ q576) (fun _ h9 => h9) rfl d_Mo_target_52 ?_
    refine lv_bipush (v := 8) hx hb d_Mo_target_55 (by decide) ?_
    refine lv_iload_n hx hb d_Mo_target_57 rfl (lv_at hl 2 rfl) ?_
    refine lv_iadd hx hb d_Mo_target_58 ?_
    have eq9 : (8 + (nI a) : Int32) = nI (8 + a) := nI_add 8 a
    refine W.eq (g2 := F0 m 59 ls [.int (nI (8 + a)), .ref rA]) (by rw [eq9]) ?_
    refine xa_ld hx hb hK hP 10 0 rfl rfl (kx := 8 + a) (rfl) (by omega) (by decide) d_Mo_target_59 ?_
    have eq9 : ((tm_jn 8 R0 R1) (8 + a) : Int32) = R1 a := (congrArg (tm_jn 8 R0 R1) (show 8 + a = 8 + a by omega)).trans tm_jn_hi
    refine W.eq (g2 := F0 m 60 ls [.int (R1 a)]) (by rw [eq9]) ?_
    refine lv_istore hx hb d_Mo_target_60 hl (by decide) rfl (fun ls hl => ?_)
    have hl : lv_has ls 9 [(6, .int (R1 a)), (5, .int (G (4 * q + 3))), (4, .int (nI b)), (3, .int (nI a)), (2, .int (nI v)), (1, .int (nI q)), (0, .ref m0)] := hl
    refine lv_aload_n hx hb d_Mo_target_62 rfl (lv_at hl 6 rfl) ?_
    refine va_get (D := D) (ci := 5) (v := .ref rA) (C := R_Mo) (T := F_Mo) (N := 21) hx hb hg f_Mo hown hK.1 hP 0 rfl rfl 13 (by decide) (hg _ q576) (fun _ h9 => h9) rfl d_Mo_target_63 ?_
    refine lv_bipush (v := 8) hx hb d_Mo_target_66 (by decide) ?_
    refine lv_iload hx hb d_Mo_target_68 (lv_at hl 2 rfl) ?_
    refine lv_iadd hx hb d_Mo_target_70 ?_
    have eq9 : (8 + (nI b) : Int32) = nI (8 + b) := nI_add 8 b
    refine W.eq (g2 := F0 m 71 ls [.int (nI (8 + b)), .ref rA]) (by rw [eq9]) ?_
    refine xa_ld hx hb hK hP 10 0 rfl rfl (kx := 8 + b) (rfl) (by omega) (by decide) d_Mo_target_71 ?_
    have eq9 : ((tm_jn 8 R0 R1) (8 + b) : Int32) = R1 b := (congrArg (tm_jn 8 R0 R1) (show 8 + b = 8 + b by omega)).trans tm_jn_hi
    refine W.eq (g2 := F0 m 72 ls [.int (R1 b)]) (by rw [eq9]) ?_
    refine lv_istore hx hb d_Mo_target_72 hl (by decide) rfl (fun ls hl => ?_)
    have hl : lv_has ls 9 [(7, .int (R1 b)), (6, .int (R1 a)), (5, .int (G (4 * q + 3))), (4, .int (nI b)), (3, .int (nI a)), (2, .int (nI v)), (1, .int (nI q)), (0, .ref m0)] := hl
    refine lv_aload_n hx hb d_Mo_target_74 rfl (lv_at hl 7 rfl) ?_
    refine va_get (D := D) (ci := 5) (v := .ref dA) (C := R_Mo) (T := F_Mo) (N := 21) hx hb hg f_Mo hown hK.1 hP 0 rfl rfl 17 (by decide) (hg _ q580) (fun _ h9 => h9) rfl d_Mo_target_75 ?_
    refine lv_iconst (v := 1) hx hb d_Mo_target_78 (by decide) ?_
    refine lv_dup2_11 hx hb d_Mo_target_79 rfl rfl ?_
    refine xa_ld hx hb hK hP 14 0 rfl rfl (kx := 1) (rfl) (by decide) (by decide) d_Mo_target_80 ?_
    have eq9 : ((tm_tw d0 d1) 1 : Int32) = d1 := rfl
    refine W.eq (g2 := F0 m 81 ls [.int d1, .int 1, .ref dA]) (by rw [eq9]) ?_
    refine lv_iconst (v := 1) hx hb d_Mo_target_81 (by decide) ?_
    refine lv_iadd hx hb d_Mo_target_82 ?_
    refine xa_st hx hb hK hP hD hS 14 0 rfl rfl (kx := 1) (rfl) (by decide) (by decide) d_Mo_target_83 (fun H locs hP hD hS => ?_)
    have hP : va_P D cls [(m0, .inr (5, [.int th, .int (nI n), .ref oA, .ref aA, .ref bB, .ref cC, .int tl, .int (nI k), .ref gA, .ref zA, .ref bA, .ref sR, .ref sD, .ref rA, .ref eC, .ref eA, .ref pA, .ref dA, .ref kA, .ref acA, .int nx])), (oA, .inl (cI, 24, .inl Po)), (aA, .inl (cI, 24, .inl Pa)), (bB, .inl (cI, 24, .inl Pb)), (cC, .inl (cI, 24, .inl Pc)), (gA, .inl (cI, 1600, .inl G)), (zA, .inl (cZ, 400, .inl O)), (bA, .inl (cI, 25, .inl B)), (sR, .inl (cI, 8, .inl sr)), (sD, .inl (cI, 32, .inl sd)), (rA, .inl (cI, 16, .inl (tm_jn 8 R0 R1))), (eC, .inl (cI, 128, .inl (tm_jn 64 C0 C1))), (eA, .inl (cI, 2, .inl (tm_tw e0 e1))), (pA, .inl (cI, 2, .inl (tm_tw h0 (nI q)))), (dA, .inl (cI, 2, .inl (upd (tm_tw d0 d1) 1 (d1 + 1)))), (kA, .inl (cI, 2, .inl (tm_tw (nI k0) (nI k1)))), (acA, .inl (cI, 240, .inl (tm_jn 120 A0 A1)))] H := hP
    have hD : va_D A [(m0, .inr (5, [.int th, .int (nI n), .ref oA, .ref aA, .ref bB, .ref cC, .int tl, .int (nI k), .ref gA, .ref zA, .ref bA, .ref sR, .ref sD, .ref rA, .ref eC, .ref eA, .ref pA, .ref dA, .ref kA, .ref acA, .int nx])), (oA, .inl (cI, 24, .inl Po)), (aA, .inl (cI, 24, .inl Pa)), (bB, .inl (cI, 24, .inl Pb)), (cC, .inl (cI, 24, .inl Pc)), (gA, .inl (cI, 1600, .inl G)), (zA, .inl (cZ, 400, .inl O)), (bA, .inl (cI, 25, .inl B)), (sR, .inl (cI, 8, .inl sr)), (sD, .inl (cI, 32, .inl sd)), (rA, .inl (cI, 16, .inl (tm_jn 8 R0 R1))), (eC, .inl (cI, 128, .inl (tm_jn 64 C0 C1))), (eA, .inl (cI, 2, .inl (tm_tw e0 e1))), (pA, .inl (cI, 2, .inl (tm_tw h0 (nI q)))), (dA, .inl (cI, 2, .inl (upd (tm_tw d0 d1) 1 (d1 + 1)))), (kA, .inl (cI, 2, .inl (tm_tw (nI k0) (nI k1)))), (acA, .inl (cI, 240, .inl (tm_jn 120 A0 A1)))] := hD
    have hD := xa_D (e2 := .inl (cI, 2, .inl (tm_tw d0 (d1 + 1)))) hD 14 rfl
    have hP := xa_P (g := tm_tw d0 (d1 + 1)) hP 14 rfl (tm_tw_c)
    have hP : va_P D cls [(m0, .inr (5, [.int th, .int (nI n), .ref oA, .ref aA, .ref bB, .ref cC, .int tl, .int (nI k), .ref gA, .ref zA, .ref bA, .ref sR, .ref sD, .ref rA, .ref eC, .ref eA, .ref pA, .ref dA, .ref kA, .ref acA, .int nx])), (oA, .inl (cI, 24, .inl Po)), (aA, .inl (cI, 24, .inl Pa)), (bB, .inl (cI, 24, .inl Pb)), (cC, .inl (cI, 24, .inl Pc)), (gA, .inl (cI, 1600, .inl G)), (zA, .inl (cZ, 400, .inl O)), (bA, .inl (cI, 25, .inl B)), (sR, .inl (cI, 8, .inl sr)), (sD, .inl (cI, 32, .inl sd)), (rA, .inl (cI, 16, .inl (tm_jn 8 R0 R1))), (eC, .inl (cI, 128, .inl (tm_jn 64 C0 C1))), (eA, .inl (cI, 2, .inl (tm_tw e0 e1))), (pA, .inl (cI, 2, .inl (tm_tw h0 (nI q)))), (dA, .inl (cI, 2, .inl (tm_tw d0 (d1 + 1)))), (kA, .inl (cI, 2, .inl (tm_tw (nI k0) (nI k1)))), (acA, .inl (cI, 240, .inl (tm_jn 120 A0 A1)))] H := hP
    have hD : va_D A [(m0, .inr (5, [.int th, .int (nI n), .ref oA, .ref aA, .ref bB, .ref cC, .int tl, .int (nI k), .ref gA, .ref zA, .ref bA, .ref sR, .ref sD, .ref rA, .ref eC, .ref eA, .ref pA, .ref dA, .ref kA, .ref acA, .int nx])), (oA, .inl (cI, 24, .inl Po)), (aA, .inl (cI, 24, .inl Pa)), (bB, .inl (cI, 24, .inl Pb)), (cC, .inl (cI, 24, .inl Pc)), (gA, .inl (cI, 1600, .inl G)), (zA, .inl (cZ, 400, .inl O)), (bA, .inl (cI, 25, .inl B)), (sR, .inl (cI, 8, .inl sr)), (sD, .inl (cI, 32, .inl sd)), (rA, .inl (cI, 16, .inl (tm_jn 8 R0 R1))), (eC, .inl (cI, 128, .inl (tm_jn 64 C0 C1))), (eA, .inl (cI, 2, .inl (tm_tw e0 e1))), (pA, .inl (cI, 2, .inl (tm_tw h0 (nI q)))), (dA, .inl (cI, 2, .inl (tm_tw d0 (d1 + 1)))), (kA, .inl (cI, 2, .inl (tm_tw (nI k0) (nI k1)))), (acA, .inl (cI, 240, .inl (tm_jn 120 A0 A1)))] := hD
    refine lv_iload_n hx hb d_Mo_target_84 rfl (lv_at hl 5 rfl) ?_
    refine lv_if_ne (tgt := 105) hx hb d_Mo_target_85 rfl (fun _ => ?_) (fun hz9 => absurd hz9 (ee0))
    refine lv_iload_n hx hb d_Mo_target_105 rfl (lv_at hl 5 rfl) ?_
    refine lv_bipush (v := 9) hx hb d_Mo_target_106 (by decide) ?_
    refine lv_icmp_ne (tgt := 118) hx hb d_Mo_target_108 rfl (fun _ => ?_) (fun hz9 => absurd hz9 (ee9))
    refine lv_iload_n hx hb d_Mo_target_118 rfl (lv_at hl 5 rfl) ?_
    refine lv_bipush (v := 10) hx hb d_Mo_target_119 (by decide) ?_
    refine lv_icmp_ne (tgt := 131) hx hb d_Mo_target_121 rfl (fun hz9 => absurd (ee10) hz9) (fun _ => ?_)
    refine lv_iload hx hb d_Mo_target_124 (lv_at hl 1 rfl) ?_
    refine lv_iload hx hb d_Mo_target_126 (lv_at hl 0 rfl) ?_
    refine lv_icmp_ne (tgt := 156) hx hb d_Mo_target_128 rfl (fun hab => ?_) (fun hab => ?_)
    · refine lv_iconst (v := 1) hx hb d_Mo_target_156 (by decide) ?_
      refine lv_goto (tgt := 161) hx hb d_Mo_target_157 rfl ?_
      refine lv_istore hx hb d_Mo_target_161 hl (by decide) rfl (fun ls hl => ?_)
      have hl : lv_has ls 9 [(8, .int 1), (7, .int (R1 b)), (6, .int (R1 a)), (5, .int (G (4 * q + 3))), (4, .int (nI b)), (3, .int (nI a)), (2, .int (nI v)), (1, .int (nI q)), (0, .ref m0)] := hl
      refine lv_aload_n hx hb d_Mo_target_163 rfl (lv_at hl 8 rfl) ?_
      refine va_get (D := D) (ci := 5) (v := .ref pA) (C := R_Mo) (T := F_Mo) (N := 21) hx hb hg f_Mo hown hK.1 hP 0 rfl rfl 16 (by decide) (hg _ q579) (fun _ h9 => h9) rfl d_Mo_target_164 ?_
      refine lv_iconst (v := 1) hx hb d_Mo_target_167 (by decide) ?_
      refine lv_iload hx hb d_Mo_target_168 (lv_at hl 0 rfl) ?_
      refine lv_if_eq (tgt := 178) hx hb d_Mo_target_170 rfl (fun hz9 => absurd hz9 (by decide)) (fun _ => ?_)
      refine lv_iload hx hb d_Mo_target_173 (lv_at hl 3 rfl) ?_
      refine lv_goto (tgt := 192) hx hb d_Mo_target_175 rfl ?_
      refine xa_st hx hb hK hP hD hS 13 0 rfl rfl (kx := 1) (rfl) (by decide) (by decide) d_Mo_target_192 (fun H locs hP hD hS => ?_)
      have hP : va_P D cls [(m0, .inr (5, [.int th, .int (nI n), .ref oA, .ref aA, .ref bB, .ref cC, .int tl, .int (nI k), .ref gA, .ref zA, .ref bA, .ref sR, .ref sD, .ref rA, .ref eC, .ref eA, .ref pA, .ref dA, .ref kA, .ref acA, .int nx])), (oA, .inl (cI, 24, .inl Po)), (aA, .inl (cI, 24, .inl Pa)), (bB, .inl (cI, 24, .inl Pb)), (cC, .inl (cI, 24, .inl Pc)), (gA, .inl (cI, 1600, .inl G)), (zA, .inl (cZ, 400, .inl O)), (bA, .inl (cI, 25, .inl B)), (sR, .inl (cI, 8, .inl sr)), (sD, .inl (cI, 32, .inl sd)), (rA, .inl (cI, 16, .inl (tm_jn 8 R0 R1))), (eC, .inl (cI, 128, .inl (tm_jn 64 C0 C1))), (eA, .inl (cI, 2, .inl (tm_tw e0 e1))), (pA, .inl (cI, 2, .inl (upd (tm_tw h0 (nI q)) 1 (G (4 * q + 3))))), (dA, .inl (cI, 2, .inl (tm_tw d0 (d1 + 1)))), (kA, .inl (cI, 2, .inl (tm_tw (nI k0) (nI k1)))), (acA, .inl (cI, 240, .inl (tm_jn 120 A0 A1)))] H := hP
      have hD : va_D A [(m0, .inr (5, [.int th, .int (nI n), .ref oA, .ref aA, .ref bB, .ref cC, .int tl, .int (nI k), .ref gA, .ref zA, .ref bA, .ref sR, .ref sD, .ref rA, .ref eC, .ref eA, .ref pA, .ref dA, .ref kA, .ref acA, .int nx])), (oA, .inl (cI, 24, .inl Po)), (aA, .inl (cI, 24, .inl Pa)), (bB, .inl (cI, 24, .inl Pb)), (cC, .inl (cI, 24, .inl Pc)), (gA, .inl (cI, 1600, .inl G)), (zA, .inl (cZ, 400, .inl O)), (bA, .inl (cI, 25, .inl B)), (sR, .inl (cI, 8, .inl sr)), (sD, .inl (cI, 32, .inl sd)), (rA, .inl (cI, 16, .inl (tm_jn 8 R0 R1))), (eC, .inl (cI, 128, .inl (tm_jn 64 C0 C1))), (eA, .inl (cI, 2, .inl (tm_tw e0 e1))), (pA, .inl (cI, 2, .inl (upd (tm_tw h0 (nI q)) 1 (G (4 * q + 3))))), (dA, .inl (cI, 2, .inl (tm_tw d0 (d1 + 1)))), (kA, .inl (cI, 2, .inl (tm_tw (nI k0) (nI k1)))), (acA, .inl (cI, 240, .inl (tm_jn 120 A0 A1)))] := hD
      have hD := xa_D (e2 := .inl (cI, 2, .inl (tm_tw h0 (G (4 * q + 3))))) hD 13 rfl
      have hP := xa_P (g := tm_tw h0 (G (4 * q + 3))) hP 13 rfl (tm_tw_c)
      have hP : va_P D cls [(m0, .inr (5, [.int th, .int (nI n), .ref oA, .ref aA, .ref bB, .ref cC, .int tl, .int (nI k), .ref gA, .ref zA, .ref bA, .ref sR, .ref sD, .ref rA, .ref eC, .ref eA, .ref pA, .ref dA, .ref kA, .ref acA, .int nx])), (oA, .inl (cI, 24, .inl Po)), (aA, .inl (cI, 24, .inl Pa)), (bB, .inl (cI, 24, .inl Pb)), (cC, .inl (cI, 24, .inl Pc)), (gA, .inl (cI, 1600, .inl G)), (zA, .inl (cZ, 400, .inl O)), (bA, .inl (cI, 25, .inl B)), (sR, .inl (cI, 8, .inl sr)), (sD, .inl (cI, 32, .inl sd)), (rA, .inl (cI, 16, .inl (tm_jn 8 R0 R1))), (eC, .inl (cI, 128, .inl (tm_jn 64 C0 C1))), (eA, .inl (cI, 2, .inl (tm_tw e0 e1))), (pA, .inl (cI, 2, .inl (tm_tw h0 (G (4 * q + 3))))), (dA, .inl (cI, 2, .inl (tm_tw d0 (d1 + 1)))), (kA, .inl (cI, 2, .inl (tm_tw (nI k0) (nI k1)))), (acA, .inl (cI, 240, .inl (tm_jn 120 A0 A1)))] H := hP
      have hD : va_D A [(m0, .inr (5, [.int th, .int (nI n), .ref oA, .ref aA, .ref bB, .ref cC, .int tl, .int (nI k), .ref gA, .ref zA, .ref bA, .ref sR, .ref sD, .ref rA, .ref eC, .ref eA, .ref pA, .ref dA, .ref kA, .ref acA, .int nx])), (oA, .inl (cI, 24, .inl Po)), (aA, .inl (cI, 24, .inl Pa)), (bB, .inl (cI, 24, .inl Pb)), (cC, .inl (cI, 24, .inl Pc)), (gA, .inl (cI, 1600, .inl G)), (zA, .inl (cZ, 400, .inl O)), (bA, .inl (cI, 25, .inl B)), (sR, .inl (cI, 8, .inl sr)), (sD, .inl (cI, 32, .inl sd)), (rA, .inl (cI, 16, .inl (tm_jn 8 R0 R1))), (eC, .inl (cI, 128, .inl (tm_jn 64 C0 C1))), (eA, .inl (cI, 2, .inl (tm_tw e0 e1))), (pA, .inl (cI, 2, .inl (tm_tw h0 (G (4 * q + 3))))), (dA, .inl (cI, 2, .inl (tm_tw d0 (d1 + 1)))), (kA, .inl (cI, 2, .inl (tm_tw (nI k0) (nI k1)))), (acA, .inl (cI, 240, .inl (tm_jn 120 A0 A1)))] := hD
      refine lv_iload_n hx hb d_Mo_target_193 rfl (lv_at hl 6 rfl) ?_
      refine lv_iconst (v := 5) hx hb d_Mo_target_194 (by decide) ?_
      refine lv_icmp_ge (tgt := 226) hx hb d_Mo_target_195 rfl (fun _ => ?_) (fun hz9 => absurd (nI_le (a := 5) (b := v) (by omega) (by omega)) hz9)
      refine lv_iload_n hx hb d_Mo_target_226 rfl (lv_at hl 6 rfl) ?_
      refine lv_iconst (v := 5) hx hb d_Mo_target_227 (by decide) ?_
      refine lv_icmp_ne (tgt := 251) hx hb d_Mo_target_228 rfl (fun _ => ?_) (fun hz9 => absurd hz9 (ee5))
      refine lv_iload_n hx hb d_Mo_target_251 rfl (lv_at hl 6 rfl) ?_
      refine lv_bipush (v := 6) hx hb d_Mo_target_252 (by decide) ?_
      refine lv_icmp_ne (tgt := 278) hx hb d_Mo_target_254 rfl (fun _ => ?_) (fun hz9 => absurd hz9 (ee6))
      refine lv_iload_n hx hb d_Mo_target_278 rfl (lv_at hl 6 rfl) ?_
      refine lv_bipush (v := 7) hx hb d_Mo_target_279 (by decide) ?_
      refine lv_icmp_eq (tgt := 290) hx hb d_Mo_target_281 rfl (fun hz9 => absurd hz9 (ee7)) (fun _ => ?_)
      refine lv_iload_n hx hb d_Mo_target_284 rfl (lv_at hl 6 rfl) ?_
      refine lv_bipush (v := 8) hx hb d_Mo_target_285 (by decide) ?_
      refine lv_icmp_ne (tgt := 315) hx hb d_Mo_target_287 rfl (fun _ => ?_) (fun hz9 => absurd hz9 (ee8))
      refine lv_aload_n hx hb d_Mo_target_315 rfl (lv_at hl 8 rfl) ?_
      refine va_get (D := D) (ci := 5) (v := .ref rA) (C := R_Mo) (T := F_Mo) (N := 21) hx hb hg f_Mo hown hK.1 hP 0 rfl rfl 13 (by decide) (hg _ q576) (fun _ h9 => h9) rfl d_Mo_target_316 ?_
      refine lv_bipush (v := 8) hx hb d_Mo_target_319 (by decide) ?_
      refine lv_iconst (v := 0) hx hb d_Mo_target_321 (by decide) ?_
      refine xa_st hx hb hK hP hD hS 10 0 rfl rfl (kx := 8) (rfl) (by decide) (by decide) d_Mo_target_322 (fun H locs hP hD hS => ?_)
      have hP : va_P D cls [(m0, .inr (5, [.int th, .int (nI n), .ref oA, .ref aA, .ref bB, .ref cC, .int tl, .int (nI k), .ref gA, .ref zA, .ref bA, .ref sR, .ref sD, .ref rA, .ref eC, .ref eA, .ref pA, .ref dA, .ref kA, .ref acA, .int nx])), (oA, .inl (cI, 24, .inl Po)), (aA, .inl (cI, 24, .inl Pa)), (bB, .inl (cI, 24, .inl Pb)), (cC, .inl (cI, 24, .inl Pc)), (gA, .inl (cI, 1600, .inl G)), (zA, .inl (cZ, 400, .inl O)), (bA, .inl (cI, 25, .inl B)), (sR, .inl (cI, 8, .inl sr)), (sD, .inl (cI, 32, .inl sd)), (rA, .inl (cI, 16, .inl (upd (tm_jn 8 R0 R1) 8 0))), (eC, .inl (cI, 128, .inl (tm_jn 64 C0 C1))), (eA, .inl (cI, 2, .inl (tm_tw e0 e1))), (pA, .inl (cI, 2, .inl (tm_tw h0 (G (4 * q + 3))))), (dA, .inl (cI, 2, .inl (tm_tw d0 (d1 + 1)))), (kA, .inl (cI, 2, .inl (tm_tw (nI k0) (nI k1)))), (acA, .inl (cI, 240, .inl (tm_jn 120 A0 A1)))] H := hP
      have hD : va_D A [(m0, .inr (5, [.int th, .int (nI n), .ref oA, .ref aA, .ref bB, .ref cC, .int tl, .int (nI k), .ref gA, .ref zA, .ref bA, .ref sR, .ref sD, .ref rA, .ref eC, .ref eA, .ref pA, .ref dA, .ref kA, .ref acA, .int nx])), (oA, .inl (cI, 24, .inl Po)), (aA, .inl (cI, 24, .inl Pa)), (bB, .inl (cI, 24, .inl Pb)), (cC, .inl (cI, 24, .inl Pc)), (gA, .inl (cI, 1600, .inl G)), (zA, .inl (cZ, 400, .inl O)), (bA, .inl (cI, 25, .inl B)), (sR, .inl (cI, 8, .inl sr)), (sD, .inl (cI, 32, .inl sd)), (rA, .inl (cI, 16, .inl (upd (tm_jn 8 R0 R1) 8 0))), (eC, .inl (cI, 128, .inl (tm_jn 64 C0 C1))), (eA, .inl (cI, 2, .inl (tm_tw e0 e1))), (pA, .inl (cI, 2, .inl (tm_tw h0 (G (4 * q + 3))))), (dA, .inl (cI, 2, .inl (tm_tw d0 (d1 + 1)))), (kA, .inl (cI, 2, .inl (tm_tw (nI k0) (nI k1)))), (acA, .inl (cI, 240, .inl (tm_jn 120 A0 A1)))] := hD
      rw [show 8 = 8 + 0 by omega, tm_jn_uh] at hP hD
      have hP : va_P D cls [(m0, .inr (5, [.int th, .int (nI n), .ref oA, .ref aA, .ref bB, .ref cC, .int tl, .int (nI k), .ref gA, .ref zA, .ref bA, .ref sR, .ref sD, .ref rA, .ref eC, .ref eA, .ref pA, .ref dA, .ref kA, .ref acA, .int nx])), (oA, .inl (cI, 24, .inl Po)), (aA, .inl (cI, 24, .inl Pa)), (bB, .inl (cI, 24, .inl Pb)), (cC, .inl (cI, 24, .inl Pc)), (gA, .inl (cI, 1600, .inl G)), (zA, .inl (cZ, 400, .inl O)), (bA, .inl (cI, 25, .inl B)), (sR, .inl (cI, 8, .inl sr)), (sD, .inl (cI, 32, .inl sd)), (rA, .inl (cI, 16, .inl (tm_jn 8 R0 (upd R1 0 0)))), (eC, .inl (cI, 128, .inl (tm_jn 64 C0 C1))), (eA, .inl (cI, 2, .inl (tm_tw e0 e1))), (pA, .inl (cI, 2, .inl (tm_tw h0 (G (4 * q + 3))))), (dA, .inl (cI, 2, .inl (tm_tw d0 (d1 + 1)))), (kA, .inl (cI, 2, .inl (tm_tw (nI k0) (nI k1)))), (acA, .inl (cI, 240, .inl (tm_jn 120 A0 A1)))] H := hP
      have hD : va_D A [(m0, .inr (5, [.int th, .int (nI n), .ref oA, .ref aA, .ref bB, .ref cC, .int tl, .int (nI k), .ref gA, .ref zA, .ref bA, .ref sR, .ref sD, .ref rA, .ref eC, .ref eA, .ref pA, .ref dA, .ref kA, .ref acA, .int nx])), (oA, .inl (cI, 24, .inl Po)), (aA, .inl (cI, 24, .inl Pa)), (bB, .inl (cI, 24, .inl Pb)), (cC, .inl (cI, 24, .inl Pc)), (gA, .inl (cI, 1600, .inl G)), (zA, .inl (cZ, 400, .inl O)), (bA, .inl (cI, 25, .inl B)), (sR, .inl (cI, 8, .inl sr)), (sD, .inl (cI, 32, .inl sd)), (rA, .inl (cI, 16, .inl (tm_jn 8 R0 (upd R1 0 0)))), (eC, .inl (cI, 128, .inl (tm_jn 64 C0 C1))), (eA, .inl (cI, 2, .inl (tm_tw e0 e1))), (pA, .inl (cI, 2, .inl (tm_tw h0 (G (4 * q + 3))))), (dA, .inl (cI, 2, .inl (tm_tw d0 (d1 + 1)))), (kA, .inl (cI, 2, .inl (tm_tw (nI k0) (nI k1)))), (acA, .inl (cI, 240, .inl (tm_jn 120 A0 A1)))] := hD
      have ew1_1 : (upd R1 0 0) = ((tm_ts G q (R1, C1, A1, k1, nI q, d1, e1, x1)).1) := by rw [tm_upd0 hR0]; simp [tm_ts, hv, f13, ee0, ee5, ee6, ee7, ee8, ee9, ee10, ee11, ee12, ee13, f7, f9, f4]
      have ew1 : tm_jn 8 R0 (upd R1 0 0) = tm_jn 8 R0 ((tm_ts G q (R1, C1, A1, k1, nI q, d1, e1, x1)).1) := congr (congrArg (tm_jn 8) rfl) ew1_1
      have ew2_1 : C1 = ((tm_ts G q (R1, C1, A1, k1, nI q, d1, e1, x1)).2.1) := by first | rfl | (simp [tm_ts, hv, f13, ee0, ee5, ee6, ee7, ee8, ee9, ee10, ee11, ee12, ee13, f7, f9, f4, hab]; done)
      have ew2 : tm_jn 64 C0 C1 = tm_jn 64 C0 ((tm_ts G q (R1, C1, A1, k1, nI q, d1, e1, x1)).2.1) := congr (congrArg (tm_jn 64) rfl) ew2_1
      have ew3_1 : e1 = ((tm_ts G q (R1, C1, A1, k1, nI q, d1, e1, x1)).2.2.2.2.2.2.1) := by first | rfl | (simp [tm_ts, hv, f13, ee0, ee5, ee6, ee7, ee8, ee9, ee10, ee11, ee12, ee13, f7, f9, f4, hab]; done)
      have ew3 : tm_tw e0 e1 = tm_tw e0 ((tm_ts G q (R1, C1, A1, k1, nI q, d1, e1, x1)).2.2.2.2.2.2.1) := congr (congrArg (tm_tw) rfl) ew3_1
      have ew4_1 : (G (4 * q + 3)) = ((tm_ts G q (R1, C1, A1, k1, nI q, d1, e1, x1)).2.2.2.2.1) := by simp [tm_ts, tm_tb, hv, ha, hbb, hc_a, hc_b, f13, ee0, ee5, ee6, ee7, ee8, ee9, ee10, ee11, ee12, ee13, f7, f9, f4, hab]
      have ew4 : tm_tw h0 (G (4 * q + 3)) = tm_tw h0 ((tm_ts G q (R1, C1, A1, k1, nI q, d1, e1, x1)).2.2.2.2.1) := congr (congrArg (tm_tw) rfl) ew4_1
      have ew5_1 : (d1 + 1) = ((tm_ts G q (R1, C1, A1, k1, nI q, d1, e1, x1)).2.2.2.2.2.1) := by first | rfl | (simp [tm_ts, hv, f13, ee0, ee5, ee6, ee7, ee8, ee9, ee10, ee11, ee12, ee13, f7, f9, f4, hab]; done)
      have ew5 : tm_tw d0 (d1 + 1) = tm_tw d0 ((tm_ts G q (R1, C1, A1, k1, nI q, d1, e1, x1)).2.2.2.2.2.1) := congr (congrArg (tm_tw) rfl) ew5_1
      have ew6_1 : (nI k1) = (nI (tm_ts G q (R1, C1, A1, k1, nI q, d1, e1, x1)).2.2.2.1) := congrArg nI (by first | (simp [tm_ts, hv, f13, ee0, ee5, ee6, ee7, ee8, ee9, ee10, ee11, ee12, ee13, f7, f9, f4, hab]; done) | (simp [tm_ts, hv, f13, ee0, ee5, ee6, ee7, ee8, ee9, ee10, ee11, ee12, ee13, f7, f9, f4, hab]; omega) | omega)
      have ew6 : tm_tw (nI k0) (nI k1) = tm_tw (nI k0) (nI (tm_ts G q (R1, C1, A1, k1, nI q, d1, e1, x1)).2.2.2.1) := congr (congrArg (tm_tw) rfl) ew6_1
      have ew7_1 : A1 = ((tm_ts G q (R1, C1, A1, k1, nI q, d1, e1, x1)).2.2.1) := by first | rfl | (simp [tm_ts, hv, f13, ee0, ee5, ee6, ee7, ee8, ee9, ee10, ee11, ee12, ee13, f7, f9, f4, hab]; done)
      have ew7 : tm_jn 120 A0 A1 = tm_jn 120 A0 ((tm_ts G q (R1, C1, A1, k1, nI q, d1, e1, x1)).2.2.1) := congr (congrArg (tm_jn 120) rfl) ew7_1
      have hP : va_P D cls [(m0, .inr (5, [.int th, .int (nI n), .ref oA, .ref aA, .ref bB, .ref cC, .int tl, .int (nI k), .ref gA, .ref zA, .ref bA, .ref sR, .ref sD, .ref rA, .ref eC, .ref eA, .ref pA, .ref dA, .ref kA, .ref acA, .int nx])), (oA, .inl (cI, 24, .inl Po)), (aA, .inl (cI, 24, .inl Pa)), (bB, .inl (cI, 24, .inl Pb)), (cC, .inl (cI, 24, .inl Pc)), (gA, .inl (cI, 1600, .inl G)), (zA, .inl (cZ, 400, .inl O)), (bA, .inl (cI, 25, .inl B)), (sR, .inl (cI, 8, .inl sr)), (sD, .inl (cI, 32, .inl sd)), (rA, .inl (cI, 16, .inl (tm_jn 8 R0 ((tm_ts G q (R1, C1, A1, k1, nI q, d1, e1, x1)).1)))), (eC, .inl (cI, 128, .inl (tm_jn 64 C0 ((tm_ts G q (R1, C1, A1, k1, nI q, d1, e1, x1)).2.1)))), (eA, .inl (cI, 2, .inl (tm_tw e0 ((tm_ts G q (R1, C1, A1, k1, nI q, d1, e1, x1)).2.2.2.2.2.2.1)))), (pA, .inl (cI, 2, .inl (tm_tw h0 ((tm_ts G q (R1, C1, A1, k1, nI q, d1, e1, x1)).2.2.2.2.1)))), (dA, .inl (cI, 2, .inl (tm_tw d0 ((tm_ts G q (R1, C1, A1, k1, nI q, d1, e1, x1)).2.2.2.2.2.1)))), (kA, .inl (cI, 2, .inl (tm_tw (nI k0) (nI (tm_ts G q (R1, C1, A1, k1, nI q, d1, e1, x1)).2.2.2.1)))), (acA, .inl (cI, 240, .inl (tm_jn 120 A0 ((tm_ts G q (R1, C1, A1, k1, nI q, d1, e1, x1)).2.2.1))))] H := by rw [← ew1, ← ew2, ← ew3, ← ew4, ← ew5, ← ew6, ← ew7]; exact hP
      have hD : va_D A [(m0, .inr (5, [.int th, .int (nI n), .ref oA, .ref aA, .ref bB, .ref cC, .int tl, .int (nI k), .ref gA, .ref zA, .ref bA, .ref sR, .ref sD, .ref rA, .ref eC, .ref eA, .ref pA, .ref dA, .ref kA, .ref acA, .int nx])), (oA, .inl (cI, 24, .inl Po)), (aA, .inl (cI, 24, .inl Pa)), (bB, .inl (cI, 24, .inl Pb)), (cC, .inl (cI, 24, .inl Pc)), (gA, .inl (cI, 1600, .inl G)), (zA, .inl (cZ, 400, .inl O)), (bA, .inl (cI, 25, .inl B)), (sR, .inl (cI, 8, .inl sr)), (sD, .inl (cI, 32, .inl sd)), (rA, .inl (cI, 16, .inl (tm_jn 8 R0 ((tm_ts G q (R1, C1, A1, k1, nI q, d1, e1, x1)).1)))), (eC, .inl (cI, 128, .inl (tm_jn 64 C0 ((tm_ts G q (R1, C1, A1, k1, nI q, d1, e1, x1)).2.1)))), (eA, .inl (cI, 2, .inl (tm_tw e0 ((tm_ts G q (R1, C1, A1, k1, nI q, d1, e1, x1)).2.2.2.2.2.2.1)))), (pA, .inl (cI, 2, .inl (tm_tw h0 ((tm_ts G q (R1, C1, A1, k1, nI q, d1, e1, x1)).2.2.2.2.1)))), (dA, .inl (cI, 2, .inl (tm_tw d0 ((tm_ts G q (R1, C1, A1, k1, nI q, d1, e1, x1)).2.2.2.2.2.1)))), (kA, .inl (cI, 2, .inl (tm_tw (nI k0) (nI (tm_ts G q (R1, C1, A1, k1, nI q, d1, e1, x1)).2.2.2.1)))), (acA, .inl (cI, 240, .inl (tm_jn 120 A0 ((tm_ts G q (R1, C1, A1, k1, nI q, d1, e1, x1)).2.2.1))))] := by rw [← ew1, ← ew2, ← ew3, ← ew4, ← ew5, ← ew6, ← ew7]; exact hD
      exact W.vret hx hb hr (fun t9 ht9 hW9 => ⟨⟨(), rfl, trivial, by rw [ht9]; exact hP, hD⟩, hS.F ht9⟩) hS.2.2 d_Mo_target_323
    · refine lv_iload_n hx hb d_Mo_target_131 rfl (lv_at hl 5 rfl) ?_
      refine lv_bipush (v := 11) hx hb d_Mo_target_132 (by decide) ?_
      refine lv_icmp_eq (tgt := 156) hx hb d_Mo_target_134 rfl (fun hz9 => absurd hz9 (ee11)) (fun _ => ?_)
      refine lv_iload_n hx hb d_Mo_target_137 rfl (lv_at hl 5 rfl) ?_
      refine lv_bipush (v := 12) hx hb d_Mo_target_138 (by decide) ?_
      refine lv_icmp_ne (tgt := 160) hx hb d_Mo_target_140 rfl (fun _ => ?_) (fun hz9 => absurd hz9 (ee12))
      refine lv_iconst (v := 0) hx hb d_Mo_target_160 (by decide) ?_
      refine lv_istore hx hb d_Mo_target_161 hl (by decide) rfl (fun ls hl => ?_)
      have hl : lv_has ls 9 [(8, .int 0), (7, .int (R1 b)), (6, .int (R1 a)), (5, .int (G (4 * q + 3))), (4, .int (nI b)), (3, .int (nI a)), (2, .int (nI v)), (1, .int (nI q)), (0, .ref m0)] := hl
      refine lv_aload_n hx hb d_Mo_target_163 rfl (lv_at hl 8 rfl) ?_
      refine va_get (D := D) (ci := 5) (v := .ref pA) (C := R_Mo) (T := F_Mo) (N := 21) hx hb hg f_Mo hown hK.1 hP 0 rfl rfl 16 (by decide) (hg _ q579) (fun _ h9 => h9) rfl d_Mo_target_164 ?_
      refine lv_iconst (v := 1) hx hb d_Mo_target_167 (by decide) ?_
      refine lv_iload hx hb d_Mo_target_168 (lv_at hl 0 rfl) ?_
      refine lv_if_eq (tgt := 178) hx hb d_Mo_target_170 rfl (fun _ => ?_) (fun hz9 => absurd (by decide) hz9)
      refine lv_iload_n hx hb d_Mo_target_178 rfl (lv_at hl 6 rfl) ?_
      refine lv_bipush (v := 13) hx hb d_Mo_target_179 (by decide) ?_
      refine lv_icmp_ne (tgt := 189) hx hb d_Mo_target_181 rfl (fun _ => ?_) (fun hz9 => absurd hz9 (ee13))
      refine lv_iload_n hx hb d_Mo_target_189 rfl (lv_at hl 7 rfl) ?_
      refine lv_iconst (v := 1) hx hb d_Mo_target_190 (by decide) ?_
      refine lv_iadd hx hb d_Mo_target_191 ?_
      have eq9 : ((nI q) + 1 : Int32) = nI (q + 1) := nI_add q 1
      refine W.eq (g2 := F0 m 192 ls [.int (nI (q + 1)), .int 1, .ref pA]) (by rw [eq9]) ?_
      refine xa_st hx hb hK hP hD hS 13 0 rfl rfl (kx := 1) (rfl) (by decide) (by decide) d_Mo_target_192 (fun H locs hP hD hS => ?_)
      have hP : va_P D cls [(m0, .inr (5, [.int th, .int (nI n), .ref oA, .ref aA, .ref bB, .ref cC, .int tl, .int (nI k), .ref gA, .ref zA, .ref bA, .ref sR, .ref sD, .ref rA, .ref eC, .ref eA, .ref pA, .ref dA, .ref kA, .ref acA, .int nx])), (oA, .inl (cI, 24, .inl Po)), (aA, .inl (cI, 24, .inl Pa)), (bB, .inl (cI, 24, .inl Pb)), (cC, .inl (cI, 24, .inl Pc)), (gA, .inl (cI, 1600, .inl G)), (zA, .inl (cZ, 400, .inl O)), (bA, .inl (cI, 25, .inl B)), (sR, .inl (cI, 8, .inl sr)), (sD, .inl (cI, 32, .inl sd)), (rA, .inl (cI, 16, .inl (tm_jn 8 R0 R1))), (eC, .inl (cI, 128, .inl (tm_jn 64 C0 C1))), (eA, .inl (cI, 2, .inl (tm_tw e0 e1))), (pA, .inl (cI, 2, .inl (upd (tm_tw h0 (nI q)) 1 (nI (q + 1))))), (dA, .inl (cI, 2, .inl (tm_tw d0 (d1 + 1)))), (kA, .inl (cI, 2, .inl (tm_tw (nI k0) (nI k1)))), (acA, .inl (cI, 240, .inl (tm_jn 120 A0 A1)))] H := hP
      have hD : va_D A [(m0, .inr (5, [.int th, .int (nI n), .ref oA, .ref aA, .ref bB, .ref cC, .int tl, .int (nI k), .ref gA, .ref zA, .ref bA, .ref sR, .ref sD, .ref rA, .ref eC, .ref eA, .ref pA, .ref dA, .ref kA, .ref acA, .int nx])), (oA, .inl (cI, 24, .inl Po)), (aA, .inl (cI, 24, .inl Pa)), (bB, .inl (cI, 24, .inl Pb)), (cC, .inl (cI, 24, .inl Pc)), (gA, .inl (cI, 1600, .inl G)), (zA, .inl (cZ, 400, .inl O)), (bA, .inl (cI, 25, .inl B)), (sR, .inl (cI, 8, .inl sr)), (sD, .inl (cI, 32, .inl sd)), (rA, .inl (cI, 16, .inl (tm_jn 8 R0 R1))), (eC, .inl (cI, 128, .inl (tm_jn 64 C0 C1))), (eA, .inl (cI, 2, .inl (tm_tw e0 e1))), (pA, .inl (cI, 2, .inl (upd (tm_tw h0 (nI q)) 1 (nI (q + 1))))), (dA, .inl (cI, 2, .inl (tm_tw d0 (d1 + 1)))), (kA, .inl (cI, 2, .inl (tm_tw (nI k0) (nI k1)))), (acA, .inl (cI, 240, .inl (tm_jn 120 A0 A1)))] := hD
      have hD := xa_D (e2 := .inl (cI, 2, .inl (tm_tw h0 (nI (q + 1))))) hD 13 rfl
      have hP := xa_P (g := tm_tw h0 (nI (q + 1))) hP 13 rfl (tm_tw_c)
      have hP : va_P D cls [(m0, .inr (5, [.int th, .int (nI n), .ref oA, .ref aA, .ref bB, .ref cC, .int tl, .int (nI k), .ref gA, .ref zA, .ref bA, .ref sR, .ref sD, .ref rA, .ref eC, .ref eA, .ref pA, .ref dA, .ref kA, .ref acA, .int nx])), (oA, .inl (cI, 24, .inl Po)), (aA, .inl (cI, 24, .inl Pa)), (bB, .inl (cI, 24, .inl Pb)), (cC, .inl (cI, 24, .inl Pc)), (gA, .inl (cI, 1600, .inl G)), (zA, .inl (cZ, 400, .inl O)), (bA, .inl (cI, 25, .inl B)), (sR, .inl (cI, 8, .inl sr)), (sD, .inl (cI, 32, .inl sd)), (rA, .inl (cI, 16, .inl (tm_jn 8 R0 R1))), (eC, .inl (cI, 128, .inl (tm_jn 64 C0 C1))), (eA, .inl (cI, 2, .inl (tm_tw e0 e1))), (pA, .inl (cI, 2, .inl (tm_tw h0 (nI (q + 1))))), (dA, .inl (cI, 2, .inl (tm_tw d0 (d1 + 1)))), (kA, .inl (cI, 2, .inl (tm_tw (nI k0) (nI k1)))), (acA, .inl (cI, 240, .inl (tm_jn 120 A0 A1)))] H := hP
      have hD : va_D A [(m0, .inr (5, [.int th, .int (nI n), .ref oA, .ref aA, .ref bB, .ref cC, .int tl, .int (nI k), .ref gA, .ref zA, .ref bA, .ref sR, .ref sD, .ref rA, .ref eC, .ref eA, .ref pA, .ref dA, .ref kA, .ref acA, .int nx])), (oA, .inl (cI, 24, .inl Po)), (aA, .inl (cI, 24, .inl Pa)), (bB, .inl (cI, 24, .inl Pb)), (cC, .inl (cI, 24, .inl Pc)), (gA, .inl (cI, 1600, .inl G)), (zA, .inl (cZ, 400, .inl O)), (bA, .inl (cI, 25, .inl B)), (sR, .inl (cI, 8, .inl sr)), (sD, .inl (cI, 32, .inl sd)), (rA, .inl (cI, 16, .inl (tm_jn 8 R0 R1))), (eC, .inl (cI, 128, .inl (tm_jn 64 C0 C1))), (eA, .inl (cI, 2, .inl (tm_tw e0 e1))), (pA, .inl (cI, 2, .inl (tm_tw h0 (nI (q + 1))))), (dA, .inl (cI, 2, .inl (tm_tw d0 (d1 + 1)))), (kA, .inl (cI, 2, .inl (tm_tw (nI k0) (nI k1)))), (acA, .inl (cI, 240, .inl (tm_jn 120 A0 A1)))] := hD
      refine lv_iload_n hx hb d_Mo_target_193 rfl (lv_at hl 6 rfl) ?_
      refine lv_iconst (v := 5) hx hb d_Mo_target_194 (by decide) ?_
      refine lv_icmp_ge (tgt := 226) hx hb d_Mo_target_195 rfl (fun _ => ?_) (fun hz9 => absurd (nI_le (a := 5) (b := v) (by omega) (by omega)) hz9)
      refine lv_iload_n hx hb d_Mo_target_226 rfl (lv_at hl 6 rfl) ?_
      refine lv_iconst (v := 5) hx hb d_Mo_target_227 (by decide) ?_
      refine lv_icmp_ne (tgt := 251) hx hb d_Mo_target_228 rfl (fun _ => ?_) (fun hz9 => absurd hz9 (ee5))
      refine lv_iload_n hx hb d_Mo_target_251 rfl (lv_at hl 6 rfl) ?_
      refine lv_bipush (v := 6) hx hb d_Mo_target_252 (by decide) ?_
      refine lv_icmp_ne (tgt := 278) hx hb d_Mo_target_254 rfl (fun _ => ?_) (fun hz9 => absurd hz9 (ee6))
      refine lv_iload_n hx hb d_Mo_target_278 rfl (lv_at hl 6 rfl) ?_
      refine lv_bipush (v := 7) hx hb d_Mo_target_279 (by decide) ?_
      refine lv_icmp_eq (tgt := 290) hx hb d_Mo_target_281 rfl (fun hz9 => absurd hz9 (ee7)) (fun _ => ?_)
      refine lv_iload_n hx hb d_Mo_target_284 rfl (lv_at hl 6 rfl) ?_
      refine lv_bipush (v := 8) hx hb d_Mo_target_285 (by decide) ?_
      refine lv_icmp_ne (tgt := 315) hx hb d_Mo_target_287 rfl (fun _ => ?_) (fun hz9 => absurd hz9 (ee8))
      refine lv_aload_n hx hb d_Mo_target_315 rfl (lv_at hl 8 rfl) ?_
      refine va_get (D := D) (ci := 5) (v := .ref rA) (C := R_Mo) (T := F_Mo) (N := 21) hx hb hg f_Mo hown hK.1 hP 0 rfl rfl 13 (by decide) (hg _ q576) (fun _ h9 => h9) rfl d_Mo_target_316 ?_
      refine lv_bipush (v := 8) hx hb d_Mo_target_319 (by decide) ?_
      refine lv_iconst (v := 0) hx hb d_Mo_target_321 (by decide) ?_
      refine xa_st hx hb hK hP hD hS 10 0 rfl rfl (kx := 8) (rfl) (by decide) (by decide) d_Mo_target_322 (fun H locs hP hD hS => ?_)
      have hP : va_P D cls [(m0, .inr (5, [.int th, .int (nI n), .ref oA, .ref aA, .ref bB, .ref cC, .int tl, .int (nI k), .ref gA, .ref zA, .ref bA, .ref sR, .ref sD, .ref rA, .ref eC, .ref eA, .ref pA, .ref dA, .ref kA, .ref acA, .int nx])), (oA, .inl (cI, 24, .inl Po)), (aA, .inl (cI, 24, .inl Pa)), (bB, .inl (cI, 24, .inl Pb)), (cC, .inl (cI, 24, .inl Pc)), (gA, .inl (cI, 1600, .inl G)), (zA, .inl (cZ, 400, .inl O)), (bA, .inl (cI, 25, .inl B)), (sR, .inl (cI, 8, .inl sr)), (sD, .inl (cI, 32, .inl sd)), (rA, .inl (cI, 16, .inl (upd (tm_jn 8 R0 R1) 8 0))), (eC, .inl (cI, 128, .inl (tm_jn 64 C0 C1))), (eA, .inl (cI, 2, .inl (tm_tw e0 e1))), (pA, .inl (cI, 2, .inl (tm_tw h0 (nI (q + 1))))), (dA, .inl (cI, 2, .inl (tm_tw d0 (d1 + 1)))), (kA, .inl (cI, 2, .inl (tm_tw (nI k0) (nI k1)))), (acA, .inl (cI, 240, .inl (tm_jn 120 A0 A1)))] H := hP
      have hD : va_D A [(m0, .inr (5, [.int th, .int (nI n), .ref oA, .ref aA, .ref bB, .ref cC, .int tl, .int (nI k), .ref gA, .ref zA, .ref bA, .ref sR, .ref sD, .ref rA, .ref eC, .ref eA, .ref pA, .ref dA, .ref kA, .ref acA, .int nx])), (oA, .inl (cI, 24, .inl Po)), (aA, .inl (cI, 24, .inl Pa)), (bB, .inl (cI, 24, .inl Pb)), (cC, .inl (cI, 24, .inl Pc)), (gA, .inl (cI, 1600, .inl G)), (zA, .inl (cZ, 400, .inl O)), (bA, .inl (cI, 25, .inl B)), (sR, .inl (cI, 8, .inl sr)), (sD, .inl (cI, 32, .inl sd)), (rA, .inl (cI, 16, .inl (upd (tm_jn 8 R0 R1) 8 0))), (eC, .inl (cI, 128, .inl (tm_jn 64 C0 C1))), (eA, .inl (cI, 2, .inl (tm_tw e0 e1))), (pA, .inl (cI, 2, .inl (tm_tw h0 (nI (q + 1))))), (dA, .inl (cI, 2, .inl (tm_tw d0 (d1 + 1)))), (kA, .inl (cI, 2, .inl (tm_tw (nI k0) (nI k1)))), (acA, .inl (cI, 240, .inl (tm_jn 120 A0 A1)))] := hD
      rw [show 8 = 8 + 0 by omega, tm_jn_uh] at hP hD
      have hP : va_P D cls [(m0, .inr (5, [.int th, .int (nI n), .ref oA, .ref aA, .ref bB, .ref cC, .int tl, .int (nI k), .ref gA, .ref zA, .ref bA, .ref sR, .ref sD, .ref rA, .ref eC, .ref eA, .ref pA, .ref dA, .ref kA, .ref acA, .int nx])), (oA, .inl (cI, 24, .inl Po)), (aA, .inl (cI, 24, .inl Pa)), (bB, .inl (cI, 24, .inl Pb)), (cC, .inl (cI, 24, .inl Pc)), (gA, .inl (cI, 1600, .inl G)), (zA, .inl (cZ, 400, .inl O)), (bA, .inl (cI, 25, .inl B)), (sR, .inl (cI, 8, .inl sr)), (sD, .inl (cI, 32, .inl sd)), (rA, .inl (cI, 16, .inl (tm_jn 8 R0 (upd R1 0 0)))), (eC, .inl (cI, 128, .inl (tm_jn 64 C0 C1))), (eA, .inl (cI, 2, .inl (tm_tw e0 e1))), (pA, .inl (cI, 2, .inl (tm_tw h0 (nI (q + 1))))), (dA, .inl (cI, 2, .inl (tm_tw d0 (d1 + 1)))), (kA, .inl (cI, 2, .inl (tm_tw (nI k0) (nI k1)))), (acA, .inl (cI, 240, .inl (tm_jn 120 A0 A1)))] H := hP
      have hD : va_D A [(m0, .inr (5, [.int th, .int (nI n), .ref oA, .ref aA, .ref bB, .ref cC, .int tl, .int (nI k), .ref gA, .ref zA, .ref bA, .ref sR, .ref sD, .ref rA, .ref eC, .ref eA, .ref pA, .ref dA, .ref kA, .ref acA, .int nx])), (oA, .inl (cI, 24, .inl Po)), (aA, .inl (cI, 24, .inl Pa)), (bB, .inl (cI, 24, .inl Pb)), (cC, .inl (cI, 24, .inl Pc)), (gA, .inl (cI, 1600, .inl G)), (zA, .inl (cZ, 400, .inl O)), (bA, .inl (cI, 25, .inl B)), (sR, .inl (cI, 8, .inl sr)), (sD, .inl (cI, 32, .inl sd)), (rA, .inl (cI, 16, .inl (tm_jn 8 R0 (upd R1 0 0)))), (eC, .inl (cI, 128, .inl (tm_jn 64 C0 C1))), (eA, .inl (cI, 2, .inl (tm_tw e0 e1))), (pA, .inl (cI, 2, .inl (tm_tw h0 (nI (q + 1))))), (dA, .inl (cI, 2, .inl (tm_tw d0 (d1 + 1)))), (kA, .inl (cI, 2, .inl (tm_tw (nI k0) (nI k1)))), (acA, .inl (cI, 240, .inl (tm_jn 120 A0 A1)))] := hD
      have ew1_1 : (upd R1 0 0) = ((tm_ts G q (R1, C1, A1, k1, nI q, d1, e1, x1)).1) := by rw [tm_upd0 hR0]; simp [tm_ts, hv, f13, ee0, ee5, ee6, ee7, ee8, ee9, ee10, ee11, ee12, ee13, f7, f9, f4]
      have ew1 : tm_jn 8 R0 (upd R1 0 0) = tm_jn 8 R0 ((tm_ts G q (R1, C1, A1, k1, nI q, d1, e1, x1)).1) := congr (congrArg (tm_jn 8) rfl) ew1_1
      have ew2_1 : C1 = ((tm_ts G q (R1, C1, A1, k1, nI q, d1, e1, x1)).2.1) := by first | rfl | (simp [tm_ts, hv, f13, ee0, ee5, ee6, ee7, ee8, ee9, ee10, ee11, ee12, ee13, f7, f9, f4, hab]; done)
      have ew2 : tm_jn 64 C0 C1 = tm_jn 64 C0 ((tm_ts G q (R1, C1, A1, k1, nI q, d1, e1, x1)).2.1) := congr (congrArg (tm_jn 64) rfl) ew2_1
      have ew3_1 : e1 = ((tm_ts G q (R1, C1, A1, k1, nI q, d1, e1, x1)).2.2.2.2.2.2.1) := by first | rfl | (simp [tm_ts, hv, f13, ee0, ee5, ee6, ee7, ee8, ee9, ee10, ee11, ee12, ee13, f7, f9, f4, hab]; done)
      have ew3 : tm_tw e0 e1 = tm_tw e0 ((tm_ts G q (R1, C1, A1, k1, nI q, d1, e1, x1)).2.2.2.2.2.2.1) := congr (congrArg (tm_tw) rfl) ew3_1
      have ew4_1 : (nI (q + 1)) = ((tm_ts G q (R1, C1, A1, k1, nI q, d1, e1, x1)).2.2.2.2.1) := by simp [tm_ts, tm_tb, hv, ha, hbb, hc_a, hc_b, f13, ee0, ee5, ee6, ee7, ee8, ee9, ee10, ee11, ee12, ee13, f7, f9, f4, hab]
      have ew4 : tm_tw h0 (nI (q + 1)) = tm_tw h0 ((tm_ts G q (R1, C1, A1, k1, nI q, d1, e1, x1)).2.2.2.2.1) := congr (congrArg (tm_tw) rfl) ew4_1
      have ew5_1 : (d1 + 1) = ((tm_ts G q (R1, C1, A1, k1, nI q, d1, e1, x1)).2.2.2.2.2.1) := by first | rfl | (simp [tm_ts, hv, f13, ee0, ee5, ee6, ee7, ee8, ee9, ee10, ee11, ee12, ee13, f7, f9, f4, hab]; done)
      have ew5 : tm_tw d0 (d1 + 1) = tm_tw d0 ((tm_ts G q (R1, C1, A1, k1, nI q, d1, e1, x1)).2.2.2.2.2.1) := congr (congrArg (tm_tw) rfl) ew5_1
      have ew6_1 : (nI k1) = (nI (tm_ts G q (R1, C1, A1, k1, nI q, d1, e1, x1)).2.2.2.1) := congrArg nI (by first | (simp [tm_ts, hv, f13, ee0, ee5, ee6, ee7, ee8, ee9, ee10, ee11, ee12, ee13, f7, f9, f4, hab]; done) | (simp [tm_ts, hv, f13, ee0, ee5, ee6, ee7, ee8, ee9, ee10, ee11, ee12, ee13, f7, f9, f4, hab]; omega) | omega)
      have ew6 : tm_tw (nI k0) (nI k1) = tm_tw (nI k0) (nI (tm_ts G q (R1, C1, A1, k1, nI q, d1, e1, x1)).2.2.2.1) := congr (congrArg (tm_tw) rfl) ew6_1
      have ew7_1 : A1 = ((tm_ts G q (R1, C1, A1, k1, nI q, d1, e1, x1)).2.2.1) := by first | rfl | (simp [tm_ts, hv, f13, ee0, ee5, ee6, ee7, ee8, ee9, ee10, ee11, ee12, ee13, f7, f9, f4, hab]; done)
      have ew7 : tm_jn 120 A0 A1 = tm_jn 120 A0 ((tm_ts G q (R1, C1, A1, k1, nI q, d1, e1, x1)).2.2.1) := congr (congrArg (tm_jn 120) rfl) ew7_1
      have hP : va_P D cls [(m0, .inr (5, [.int th, .int (nI n), .ref oA, .ref aA, .ref bB, .ref cC, .int tl, .int (nI k), .ref gA, .ref zA, .ref bA, .ref sR, .ref sD, .ref rA, .ref eC, .ref eA, .ref pA, .ref dA, .ref kA, .ref acA, .int nx])), (oA, .inl (cI, 24, .inl Po)), (aA, .inl (cI, 24, .inl Pa)), (bB, .inl (cI, 24, .inl Pb)), (cC, .inl (cI, 24, .inl Pc)), (gA, .inl (cI, 1600, .inl G)), (zA, .inl (cZ, 400, .inl O)), (bA, .inl (cI, 25, .inl B)), (sR, .inl (cI, 8, .inl sr)), (sD, .inl (cI, 32, .inl sd)), (rA, .inl (cI, 16, .inl (tm_jn 8 R0 ((tm_ts G q (R1, C1, A1, k1, nI q, d1, e1, x1)).1)))), (eC, .inl (cI, 128, .inl (tm_jn 64 C0 ((tm_ts G q (R1, C1, A1, k1, nI q, d1, e1, x1)).2.1)))), (eA, .inl (cI, 2, .inl (tm_tw e0 ((tm_ts G q (R1, C1, A1, k1, nI q, d1, e1, x1)).2.2.2.2.2.2.1)))), (pA, .inl (cI, 2, .inl (tm_tw h0 ((tm_ts G q (R1, C1, A1, k1, nI q, d1, e1, x1)).2.2.2.2.1)))), (dA, .inl (cI, 2, .inl (tm_tw d0 ((tm_ts G q (R1, C1, A1, k1, nI q, d1, e1, x1)).2.2.2.2.2.1)))), (kA, .inl (cI, 2, .inl (tm_tw (nI k0) (nI (tm_ts G q (R1, C1, A1, k1, nI q, d1, e1, x1)).2.2.2.1)))), (acA, .inl (cI, 240, .inl (tm_jn 120 A0 ((tm_ts G q (R1, C1, A1, k1, nI q, d1, e1, x1)).2.2.1))))] H := by rw [← ew1, ← ew2, ← ew3, ← ew4, ← ew5, ← ew6, ← ew7]; exact hP
      have hD : va_D A [(m0, .inr (5, [.int th, .int (nI n), .ref oA, .ref aA, .ref bB, .ref cC, .int tl, .int (nI k), .ref gA, .ref zA, .ref bA, .ref sR, .ref sD, .ref rA, .ref eC, .ref eA, .ref pA, .ref dA, .ref kA, .ref acA, .int nx])), (oA, .inl (cI, 24, .inl Po)), (aA, .inl (cI, 24, .inl Pa)), (bB, .inl (cI, 24, .inl Pb)), (cC, .inl (cI, 24, .inl Pc)), (gA, .inl (cI, 1600, .inl G)), (zA, .inl (cZ, 400, .inl O)), (bA, .inl (cI, 25, .inl B)), (sR, .inl (cI, 8, .inl sr)), (sD, .inl (cI, 32, .inl sd)), (rA, .inl (cI, 16, .inl (tm_jn 8 R0 ((tm_ts G q (R1, C1, A1, k1, nI q, d1, e1, x1)).1)))), (eC, .inl (cI, 128, .inl (tm_jn 64 C0 ((tm_ts G q (R1, C1, A1, k1, nI q, d1, e1, x1)).2.1)))), (eA, .inl (cI, 2, .inl (tm_tw e0 ((tm_ts G q (R1, C1, A1, k1, nI q, d1, e1, x1)).2.2.2.2.2.2.1)))), (pA, .inl (cI, 2, .inl (tm_tw h0 ((tm_ts G q (R1, C1, A1, k1, nI q, d1, e1, x1)).2.2.2.2.1)))), (dA, .inl (cI, 2, .inl (tm_tw d0 ((tm_ts G q (R1, C1, A1, k1, nI q, d1, e1, x1)).2.2.2.2.2.1)))), (kA, .inl (cI, 2, .inl (tm_tw (nI k0) (nI (tm_ts G q (R1, C1, A1, k1, nI q, d1, e1, x1)).2.2.2.1)))), (acA, .inl (cI, 240, .inl (tm_jn 120 A0 ((tm_ts G q (R1, C1, A1, k1, nI q, d1, e1, x1)).2.2.1))))] := by rw [← ew1, ← ew2, ← ew3, ← ew4, ← ew5, ← ew6, ← ew7]; exact hD
      exact W.vret hx hb hr (fun t9 ht9 hW9 => ⟨⟨(), rfl, trivial, by rw [ht9]; exact hP, hD⟩, hS.F ht9⟩) hS.2.2 d_Mo_target_323
  · have f13 : ¬ 13 < nI v := nI_nlt (a := 13) (b := v) (by omega) (by decide)
    have ee0 : ¬ nI v = 0 := xn_ne (w := 0) (by omega) (by decide) (by omega)
    have ee5 : ¬ nI v = 5 := xn_ne (w := 5) (by omega) (by decide) (by omega)
    have ee6 : ¬ nI v = 6 := xn_ne (w := 6) (by omega) (by decide) (by omega)
    have ee7 : ¬ nI v = 7 := xn_ne (w := 7) (by omega) (by decide) (by omega)
    have ee8 : ¬ nI v = 8 := xn_ne (w := 8) (by omega) (by decide) (by omega)
    have ee9 : ¬ nI v = 9 := xn_ne (w := 9) (by omega) (by decide) (by omega)
    have ee10 : ¬ nI v = 10 := xn_ne (w := 10) (by omega) (by decide) (by omega)
    have ee11 : nI v = 11 := by rw [hcase]; rfl
    have ee12 : ¬ nI v = 12 := xn_ne (w := 12) (by omega) (by decide) (by omega)
    have ee13 : ¬ nI v = 13 := xn_ne (w := 13) (by omega) (by decide) (by omega)
    have f7 : ¬ nI v < 7 := nI_nlt (a := v) (b := 7) (by omega) (by omega)
    have f9 : ¬ nI v < 9 := nI_nlt (a := v) (b := 9) (by omega) (by omega)
    have f4 : 4 < nI v := nI_lt (a := 4) (b := v) (by omega) (by omega)
    refine lv_aload_n hx hb d_Mo_target_0 rfl (lv_at hl 0 rfl) ?_
    refine va_get (D := D) (ci := 5) (v := .ref pA) (C := R_Mo) (T := F_Mo) (N := 21) hx hb hg f_Mo hown hK.1 hP 0 rfl rfl 16 (by decide) (hg _ q579) (fun _ h9 => h9) rfl d_Mo_target_1 ?_
    refine lv_iconst (v := 1) hx hb d_Mo_target_4 (by decide) ?_
    refine xa_ld hx hb hK hP 13 0 rfl rfl (kx := 1) (rfl) (by decide) (by decide) d_Mo_target_5 ?_
    have eq9 : ((tm_tw h0 (nI q)) 1 : Int32) = nI q := rfl
    refine W.eq (g2 := F0 m 6 ls [.int (nI q)]) (by rw [eq9]) ?_
    refine lv_istore_n hx hb d_Mo_target_6 rfl hl (by decide) rfl (fun ls hl => ?_)
    have hl : lv_has ls 9 [(1, .int (nI q)), (0, .ref m0)] := hl
    refine lv_aload_n hx hb d_Mo_target_7 rfl (lv_at hl 1 rfl) ?_
    refine va_get (D := D) (ci := 5) (v := .ref gA) (C := R_Mo) (T := F_Mo) (N := 21) hx hb hg f_Mo hown hK.1 hP 0 rfl rfl 8 (by decide) (hg _ q571) (fun _ h9 => h9) rfl d_Mo_target_8 ?_
    refine lv_iconst (v := 4) hx hb d_Mo_target_11 (by decide) ?_
    refine lv_iload_n hx hb d_Mo_target_12 rfl (lv_at hl 0 rfl) ?_
    refine lv_imul hx hb d_Mo_target_13 ?_
    have eq9 : (4 * (nI q) : Int32) = nI (4 * q) := pk_mul 4 q
    refine W.eq (g2 := F0 m 14 ls [.int (nI (4 * q)), .ref gA]) (by rw [eq9]) ?_
    refine xa_ld hx hb hK hP 5 0 rfl rfl (kx := 4 * q) (rfl) (by omega) (by decide) d_Mo_target_14 ?_
    have eq9 : (G (4 * q) : Int32) = nI v := hv
    refine W.eq (g2 := F0 m 15 ls [.int (nI v)]) (by rw [eq9]) ?_
    refine lv_istore_n hx hb d_Mo_target_15 rfl hl (by decide) rfl (fun ls hl => ?_)
    have hl : lv_has ls 9 [(2, .int (nI v)), (1, .int (nI q)), (0, .ref m0)] := hl
    refine lv_aload_n hx hb d_Mo_target_16 rfl (lv_at hl 2 rfl) ?_
    refine va_get (D := D) (ci := 5) (v := .ref gA) (C := R_Mo) (T := F_Mo) (N := 21) hx hb hg f_Mo hown hK.1 hP 0 rfl rfl 8 (by decide) (hg _ q571) (fun _ h9 => h9) rfl d_Mo_target_17 ?_
    refine lv_iconst (v := 4) hx hb d_Mo_target_20 (by decide) ?_
    refine lv_iload_n hx hb d_Mo_target_21 rfl (lv_at hl 1 rfl) ?_
    refine lv_imul hx hb d_Mo_target_22 ?_
    have eq9 : (4 * (nI q) : Int32) = nI (4 * q) := pk_mul 4 q
    refine W.eq (g2 := F0 m 23 ls [.int (nI (4 * q)), .ref gA]) (by rw [eq9]) ?_
    refine lv_iconst (v := 1) hx hb d_Mo_target_23 (by decide) ?_
    refine lv_iadd hx hb d_Mo_target_24 ?_
    have eq9 : ((nI (4 * q)) + 1 : Int32) = nI (4 * q + 1) := nI_add (4 * q) 1
    refine W.eq (g2 := F0 m 25 ls [.int (nI (4 * q + 1)), .ref gA]) (by rw [eq9]) ?_
    refine xa_ld hx hb hK hP 5 0 rfl rfl (kx := 4 * q + 1) (rfl) (by omega) (by decide) d_Mo_target_25 ?_
    have eq9 : (G (4 * q + 1) : Int32) = nI a := ha
    refine W.eq (g2 := F0 m 26 ls [.int (nI a)]) (by rw [eq9]) ?_
    refine lv_istore_n hx hb d_Mo_target_26 rfl hl (by decide) rfl (fun ls hl => ?_)
    have hl : lv_has ls 9 [(3, .int (nI a)), (2, .int (nI v)), (1, .int (nI q)), (0, .ref m0)] := hl
    refine lv_aload_n hx hb d_Mo_target_27 rfl (lv_at hl 3 rfl) ?_
    refine va_get (D := D) (ci := 5) (v := .ref gA) (C := R_Mo) (T := F_Mo) (N := 21) hx hb hg f_Mo hown hK.1 hP 0 rfl rfl 8 (by decide) (hg _ q571) (fun _ h9 => h9) rfl d_Mo_target_28 ?_
    refine lv_iconst (v := 4) hx hb d_Mo_target_31 (by decide) ?_
    refine lv_iload_n hx hb d_Mo_target_32 rfl (lv_at hl 2 rfl) ?_
    refine lv_imul hx hb d_Mo_target_33 ?_
    have eq9 : (4 * (nI q) : Int32) = nI (4 * q) := pk_mul 4 q
    refine W.eq (g2 := F0 m 34 ls [.int (nI (4 * q)), .ref gA]) (by rw [eq9]) ?_
    refine lv_iconst (v := 2) hx hb d_Mo_target_34 (by decide) ?_
    refine lv_iadd hx hb d_Mo_target_35 ?_
    have eq9 : ((nI (4 * q)) + 2 : Int32) = nI (4 * q + 2) := nI_add (4 * q) 2
    refine W.eq (g2 := F0 m 36 ls [.int (nI (4 * q + 2)), .ref gA]) (by rw [eq9]) ?_
    refine xa_ld hx hb hK hP 5 0 rfl rfl (kx := 4 * q + 2) (rfl) (by omega) (by decide) d_Mo_target_36 ?_
    have eq9 : (G (4 * q + 2) : Int32) = nI b := hbb
    refine W.eq (g2 := F0 m 37 ls [.int (nI b)]) (by rw [eq9]) ?_
    refine lv_istore hx hb d_Mo_target_37 hl (by decide) rfl (fun ls hl => ?_)
    have hl : lv_has ls 9 [(4, .int (nI b)), (3, .int (nI a)), (2, .int (nI v)), (1, .int (nI q)), (0, .ref m0)] := hl
    refine lv_aload_n hx hb d_Mo_target_39 rfl (lv_at hl 4 rfl) ?_
    refine va_get (D := D) (ci := 5) (v := .ref gA) (C := R_Mo) (T := F_Mo) (N := 21) hx hb hg f_Mo hown hK.1 hP 0 rfl rfl 8 (by decide) (hg _ q571) (fun _ h9 => h9) rfl d_Mo_target_40 ?_
    refine lv_iconst (v := 4) hx hb d_Mo_target_43 (by decide) ?_
    refine lv_iload_n hx hb d_Mo_target_44 rfl (lv_at hl 3 rfl) ?_
    refine lv_imul hx hb d_Mo_target_45 ?_
    have eq9 : (4 * (nI q) : Int32) = nI (4 * q) := pk_mul 4 q
    refine W.eq (g2 := F0 m 46 ls [.int (nI (4 * q)), .ref gA]) (by rw [eq9]) ?_
    refine lv_iconst (v := 3) hx hb d_Mo_target_46 (by decide) ?_
    refine lv_iadd hx hb d_Mo_target_47 ?_
    have eq9 : ((nI (4 * q)) + 3 : Int32) = nI (4 * q + 3) := nI_add (4 * q) 3
    refine W.eq (g2 := F0 m 48 ls [.int (nI (4 * q + 3)), .ref gA]) (by rw [eq9]) ?_
    refine xa_ld hx hb hK hP 5 0 rfl rfl (kx := 4 * q + 3) (rfl) (by omega) (by decide) d_Mo_target_48 ?_
    refine lv_istore hx hb d_Mo_target_49 hl (by decide) rfl (fun ls hl => ?_)
    have hl : lv_has ls 9 [(5, .int (G (4 * q + 3))), (4, .int (nI b)), (3, .int (nI a)), (2, .int (nI v)), (1, .int (nI q)), (0, .ref m0)] := hl
    refine lv_aload_n hx hb d_Mo_target_51 rfl (lv_at hl 5 rfl) ?_
    refine va_get (D := D) (ci := 5) (v := .ref rA) (C := R_Mo) (T := F_Mo) (N := 21) hx hb hg f_Mo hown hK.1 hP 0 rfl rfl 13 (by decide) (hg _ q576) (fun _ h9 => h9) rfl d_Mo_target_52 ?_
    refine lv_bipush (v := 8) hx hb d_Mo_target_55 (by decide) ?_
    refine lv_iload_n hx hb d_Mo_target_57 rfl (lv_at hl 2 rfl) ?_
    refine lv_iadd hx hb d_Mo_target_58 ?_
    have eq9 : (8 + (nI a) : Int32) = nI (8 + a) := nI_add 8 a
    refine W.eq (g2 := F0 m 59 ls [.int (nI (8 + a)), .ref rA]) (by rw [eq9]) ?_
    refine xa_ld hx hb hK hP 10 0 rfl rfl (kx := 8 + a) (rfl) (by omega) (by decide) d_Mo_target_59 ?_
    have eq9 : ((tm_jn 8 R0 R1) (8 + a) : Int32) = R1 a := (congrArg (tm_jn 8 R0 R1) (show 8 + a = 8 + a by omega)).trans tm_jn_hi
    refine W.eq (g2 := F0 m 60 ls [.int (R1 a)]) (by rw [eq9]) ?_
    refine lv_istore hx hb d_Mo_target_60 hl (by decide) rfl (fun ls hl => ?_)
    have hl : lv_has ls 9 [(6, .int (R1 a)), (5, .int (G (4 * q + 3))), (4, .int (nI b)), (3, .int (nI a)), (2, .int (nI v)), (1, .int (nI q)), (0, .ref m0)] := hl
    refine lv_aload_n hx hb d_Mo_target_62 rfl (lv_at hl 6 rfl) ?_
    refine va_get (D := D) (ci := 5) (v := .ref rA) (C := R_Mo) (T := F_Mo) (N := 21) hx hb hg f_Mo hown hK.1 hP 0 rfl rfl 13 (by decide) (hg _ q576) (fun _ h9 => h9) rfl d_Mo_target_63 ?_
    refine lv_bipush (v := 8) hx hb d_Mo_target_66 (by decide) ?_
    refine lv_iload hx hb d_Mo_target_68 (lv_at hl 2 rfl) ?_
    refine lv_iadd hx hb d_Mo_target_70 ?_
    have eq9 : (8 + (nI b) : Int32) = nI (8 + b) := nI_add 8 b
    refine W.eq (g2 := F0 m 71 ls [.int (nI (8 + b)), .ref rA]) (by rw [eq9]) ?_
    refine xa_ld hx hb hK hP 10 0 rfl rfl (kx := 8 + b) (rfl) (by omega) (by decide) d_Mo_target_71 ?_
    have eq9 : ((tm_jn 8 R0 R1) (8 + b) : Int32) = R1 b := (congrArg (tm_jn 8 R0 R1) (show 8 + b = 8 + b by omega)).trans tm_jn_hi
    refine W.eq (g2 := F0 m 72 ls [.int (R1 b)]) (by rw [eq9]) ?_
    refine lv_istore hx hb d_Mo_target_72 hl (by decide) rfl (fun ls hl => ?_)
    have hl : lv_has ls 9 [(7, .int (R1 b)), (6, .int (R1 a)), (5, .int (G (4 * q + 3))), (4, .int (nI b)), (3, .int (nI a)), (2, .int (nI v)), (1, .int (nI q)), (0, .ref m0)] := hl
    refine lv_aload_n hx hb d_Mo_target_74 rfl (lv_at hl 7 rfl) ?_
    refine va_get (D := D) (ci := 5) (v := .ref dA) (C := R_Mo) (T := F_Mo) (N := 21) hx hb hg f_Mo hown hK.1 hP 0 rfl rfl 17 (by decide) (hg _ q580) (fun _ h9 => h9) rfl d_Mo_target_75 ?_
    refine lv_iconst (v := 1) hx hb d_Mo_target_78 (by decide) ?_
    refine lv_dup2_11 hx hb d_Mo_target_79 rfl rfl ?_
    refine xa_ld hx hb hK hP 14 0 rfl rfl (kx := 1) (rfl) (by decide) (by decide) d_Mo_target_80 ?_
    have eq9 : ((tm_tw d0 d1) 1 : Int32) = d1 := rfl
    refine W.eq (g2 := F0 m 81 ls [.int d1, .int 1, .ref dA]) (by rw [eq9]) ?_
    refine lv_iconst (v := 1) hx hb d_Mo_target_81 (by decide) ?_
    refine lv_iadd hx hb d_Mo_target_82 ?_
    refine xa_st hx hb hK hP hD hS 14 0 rfl rfl (kx := 1) (rfl) (by decide) (by decide) d_Mo_target_83 (fun H locs hP hD hS => ?_)
    have hP : va_P D cls [(m0, .inr (5, [.int th, .int (nI n), .ref oA, .ref aA, .ref bB, .ref cC, .int tl, .int (nI k), .ref gA, .ref zA, .ref bA, .ref sR, .ref sD, .ref rA, .ref eC, .ref eA, .ref pA, .ref dA, .ref kA, .ref acA, .int nx])), (oA, .inl (cI, 24, .inl Po)), (aA, .inl (cI, 24, .inl Pa)), (bB, .inl (cI, 24, .inl Pb)), (cC, .inl (cI, 24, .inl Pc)), (gA, .inl (cI, 1600, .inl G)), (zA, .inl (cZ, 400, .inl O)), (bA, .inl (cI, 25, .inl B)), (sR, .inl (cI, 8, .inl sr)), (sD, .inl (cI, 32, .inl sd)), (rA, .inl (cI, 16, .inl (tm_jn 8 R0 R1))), (eC, .inl (cI, 128, .inl (tm_jn 64 C0 C1))), (eA, .inl (cI, 2, .inl (tm_tw e0 e1))), (pA, .inl (cI, 2, .inl (tm_tw h0 (nI q)))), (dA, .inl (cI, 2, .inl (upd (tm_tw d0 d1) 1 (d1 + 1)))), (kA, .inl (cI, 2, .inl (tm_tw (nI k0) (nI k1)))), (acA, .inl (cI, 240, .inl (tm_jn 120 A0 A1)))] H := hP
    have hD : va_D A [(m0, .inr (5, [.int th, .int (nI n), .ref oA, .ref aA, .ref bB, .ref cC, .int tl, .int (nI k), .ref gA, .ref zA, .ref bA, .ref sR, .ref sD, .ref rA, .ref eC, .ref eA, .ref pA, .ref dA, .ref kA, .ref acA, .int nx])), (oA, .inl (cI, 24, .inl Po)), (aA, .inl (cI, 24, .inl Pa)), (bB, .inl (cI, 24, .inl Pb)), (cC, .inl (cI, 24, .inl Pc)), (gA, .inl (cI, 1600, .inl G)), (zA, .inl (cZ, 400, .inl O)), (bA, .inl (cI, 25, .inl B)), (sR, .inl (cI, 8, .inl sr)), (sD, .inl (cI, 32, .inl sd)), (rA, .inl (cI, 16, .inl (tm_jn 8 R0 R1))), (eC, .inl (cI, 128, .inl (tm_jn 64 C0 C1))), (eA, .inl (cI, 2, .inl (tm_tw e0 e1))), (pA, .inl (cI, 2, .inl (tm_tw h0 (nI q)))), (dA, .inl (cI, 2, .inl (upd (tm_tw d0 d1) 1 (d1 + 1)))), (kA, .inl (cI, 2, .inl (tm_tw (nI k0) (nI k1)))), (acA, .inl (cI, 240, .inl (tm_jn 120 A0 A1)))] := hD
    have hD := xa_D (e2 := .inl (cI, 2, .inl (tm_tw d0 (d1 + 1)))) hD 14 rfl
    have hP := xa_P (g := tm_tw d0 (d1 + 1)) hP 14 rfl (tm_tw_c)
    have hP : va_P D cls [(m0, .inr (5, [.int th, .int (nI n), .ref oA, .ref aA, .ref bB, .ref cC, .int tl, .int (nI k), .ref gA, .ref zA, .ref bA, .ref sR, .ref sD, .ref rA, .ref eC, .ref eA, .ref pA, .ref dA, .ref kA, .ref acA, .int nx])), (oA, .inl (cI, 24, .inl Po)), (aA, .inl (cI, 24, .inl Pa)), (bB, .inl (cI, 24, .inl Pb)), (cC, .inl (cI, 24, .inl Pc)), (gA, .inl (cI, 1600, .inl G)), (zA, .inl (cZ, 400, .inl O)), (bA, .inl (cI, 25, .inl B)), (sR, .inl (cI, 8, .inl sr)), (sD, .inl (cI, 32, .inl sd)), (rA, .inl (cI, 16, .inl (tm_jn 8 R0 R1))), (eC, .inl (cI, 128, .inl (tm_jn 64 C0 C1))), (eA, .inl (cI, 2, .inl (tm_tw e0 e1))), (pA, .inl (cI, 2, .inl (tm_tw h0 (nI q)))), (dA, .inl (cI, 2, .inl (tm_tw d0 (d1 + 1)))), (kA, .inl (cI, 2, .inl (tm_tw (nI k0) (nI k1)))), (acA, .inl (cI, 240, .inl (tm_jn 120 A0 A1)))] H := hP
    have hD : va_D A [(m0, .inr (5, [.int th, .int (nI n), .ref oA, .ref aA, .ref bB, .ref cC, .int tl, .int (nI k), .ref gA, .ref zA, .ref bA, .ref sR, .ref sD, .ref rA, .ref eC, .ref eA, .ref pA, .ref dA, .ref kA, .ref acA, .int nx])), (oA, .inl (cI, 24, .inl Po)), (aA, .inl (cI, 24, .inl Pa)), (bB, .inl (cI, 24, .inl Pb)), (cC, .inl (cI, 24, .inl Pc)), (gA, .inl (cI, 1600, .inl G)), (zA, .inl (cZ, 400, .inl O)), (bA, .inl (cI, 25, .inl B)), (sR, .inl (cI, 8, .inl sr)), (sD, .inl (cI, 32, .inl sd)), (rA, .inl (cI, 16, .inl (tm_jn 8 R0 R1))), (eC, .inl (cI, 128, .inl (tm_jn 64 C0 C1))), (eA, .inl (cI, 2, .inl (tm_tw e0 e1))), (pA, .inl (cI, 2, .inl (tm_tw h0 (nI q)))), (dA, .inl (cI, 2, .inl (tm_tw d0 (d1 + 1)))), (kA, .inl (cI, 2, .inl (tm_tw (nI k0) (nI k1)))), (acA, .inl (cI, 240, .inl (tm_jn 120 A0 A1)))] := hD
    refine lv_iload_n hx hb d_Mo_target_84 rfl (lv_at hl 5 rfl) ?_
    refine lv_if_ne (tgt := 105) hx hb d_Mo_target_85 rfl (fun _ => ?_) (fun hz9 => absurd hz9 (ee0))
    refine lv_iload_n hx hb d_Mo_target_105 rfl (lv_at hl 5 rfl) ?_
    refine lv_bipush (v := 9) hx hb d_Mo_target_106 (by decide) ?_
    refine lv_icmp_ne (tgt := 118) hx hb d_Mo_target_108 rfl (fun _ => ?_) (fun hz9 => absurd hz9 (ee9))
    refine lv_iload_n hx hb d_Mo_target_118 rfl (lv_at hl 5 rfl) ?_
    refine lv_bipush (v := 10) hx hb d_Mo_target_119 (by decide) ?_
    refine lv_icmp_ne (tgt := 131) hx hb d_Mo_target_121 rfl (fun _ => ?_) (fun hz9 => absurd hz9 (ee10))
    refine lv_iload_n hx hb d_Mo_target_131 rfl (lv_at hl 5 rfl) ?_
    refine lv_bipush (v := 11) hx hb d_Mo_target_132 (by decide) ?_
    refine lv_icmp_eq (tgt := 156) hx hb d_Mo_target_134 rfl (fun _ => ?_) (fun hz9 => absurd (ee11) hz9)
    refine lv_iconst (v := 1) hx hb d_Mo_target_156 (by decide) ?_
    refine lv_goto (tgt := 161) hx hb d_Mo_target_157 rfl ?_
    refine lv_istore hx hb d_Mo_target_161 hl (by decide) rfl (fun ls hl => ?_)
    have hl : lv_has ls 9 [(8, .int 1), (7, .int (R1 b)), (6, .int (R1 a)), (5, .int (G (4 * q + 3))), (4, .int (nI b)), (3, .int (nI a)), (2, .int (nI v)), (1, .int (nI q)), (0, .ref m0)] := hl
    refine lv_aload_n hx hb d_Mo_target_163 rfl (lv_at hl 8 rfl) ?_
    refine va_get (D := D) (ci := 5) (v := .ref pA) (C := R_Mo) (T := F_Mo) (N := 21) hx hb hg f_Mo hown hK.1 hP 0 rfl rfl 16 (by decide) (hg _ q579) (fun _ h9 => h9) rfl d_Mo_target_164 ?_
    refine lv_iconst (v := 1) hx hb d_Mo_target_167 (by decide) ?_
    refine lv_iload hx hb d_Mo_target_168 (lv_at hl 0 rfl) ?_
    refine lv_if_eq (tgt := 178) hx hb d_Mo_target_170 rfl (fun hz9 => absurd hz9 (by decide)) (fun _ => ?_)
    refine lv_iload hx hb d_Mo_target_173 (lv_at hl 3 rfl) ?_
    refine lv_goto (tgt := 192) hx hb d_Mo_target_175 rfl ?_
    refine xa_st hx hb hK hP hD hS 13 0 rfl rfl (kx := 1) (rfl) (by decide) (by decide) d_Mo_target_192 (fun H locs hP hD hS => ?_)
    have hP : va_P D cls [(m0, .inr (5, [.int th, .int (nI n), .ref oA, .ref aA, .ref bB, .ref cC, .int tl, .int (nI k), .ref gA, .ref zA, .ref bA, .ref sR, .ref sD, .ref rA, .ref eC, .ref eA, .ref pA, .ref dA, .ref kA, .ref acA, .int nx])), (oA, .inl (cI, 24, .inl Po)), (aA, .inl (cI, 24, .inl Pa)), (bB, .inl (cI, 24, .inl Pb)), (cC, .inl (cI, 24, .inl Pc)), (gA, .inl (cI, 1600, .inl G)), (zA, .inl (cZ, 400, .inl O)), (bA, .inl (cI, 25, .inl B)), (sR, .inl (cI, 8, .inl sr)), (sD, .inl (cI, 32, .inl sd)), (rA, .inl (cI, 16, .inl (tm_jn 8 R0 R1))), (eC, .inl (cI, 128, .inl (tm_jn 64 C0 C1))), (eA, .inl (cI, 2, .inl (tm_tw e0 e1))), (pA, .inl (cI, 2, .inl (upd (tm_tw h0 (nI q)) 1 (G (4 * q + 3))))), (dA, .inl (cI, 2, .inl (tm_tw d0 (d1 + 1)))), (kA, .inl (cI, 2, .inl (tm_tw (nI k0) (nI k1)))), (acA, .inl (cI, 240, .inl (tm_jn 120 A0 A1)))] H := hP
    have hD : va_D A [(m0, .inr (5, [.int th, .int (nI n), .ref oA, .ref aA, .ref bB, .ref cC, .int tl, .int (nI k), .ref gA, .ref zA, .ref bA, .ref sR, .ref sD, .ref rA, .ref eC, .ref eA, .ref pA, .ref dA, .ref kA, .ref acA, .int nx])), (oA, .inl (cI, 24, .inl Po)), (aA, .inl (cI, 24, .inl Pa)), (bB, .inl (cI, 24, .inl Pb)), (cC, .inl (cI, 24, .inl Pc)), (gA, .inl (cI, 1600, .inl G)), (zA, .inl (cZ, 400, .inl O)), (bA, .inl (cI, 25, .inl B)), (sR, .inl (cI, 8, .inl sr)), (sD, .inl (cI, 32, .inl sd)), (rA, .inl (cI, 16, .inl (tm_jn 8 R0 R1))), (eC, .inl (cI, 128, .inl (tm_jn 64 C0 C1))), (eA, .inl (cI, 2, .inl (tm_tw e0 e1))), (pA, .inl (cI, 2, .inl (upd (tm_tw h0 (nI q)) 1 (G (4 * q + 3))))), (dA, .inl (cI, 2, .inl (tm_tw d0 (d1 + 1)))), (kA, .inl (cI, 2, .inl (tm_tw (nI k0) (nI k1)))), (acA, .inl (cI, 240, .inl (tm_jn 120 A0 A1)))] := hD
    have hD := xa_D (e2 := .inl (cI, 2, .inl (tm_tw h0 (G (4 * q + 3))))) hD 13 rfl
    have hP := xa_P (g := tm_tw h0 (G (4 * q + 3))) hP 13 rfl (tm_tw_c)
    have hP : va_P D cls [(m0, .inr (5, [.int th, .int (nI n), .ref oA, .ref aA, .ref bB, .ref cC, .int tl, .int (nI k), .ref gA, .ref zA, .ref bA, .ref sR, .ref sD, .ref rA, .ref eC, .ref eA, .ref pA, .ref dA, .ref kA, .ref acA, .int nx])), (oA, .inl (cI, 24, .inl Po)), (aA, .inl (cI, 24, .inl Pa)), (bB, .inl (cI, 24, .inl Pb)), (cC, .inl (cI, 24, .inl Pc)), (gA, .inl (cI, 1600, .inl G)), (zA, .inl (cZ, 400, .inl O)), (bA, .inl (cI, 25, .inl B)), (sR, .inl (cI, 8, .inl sr)), (sD, .inl (cI, 32, .inl sd)), (rA, .inl (cI, 16, .inl (tm_jn 8 R0 R1))), (eC, .inl (cI, 128, .inl (tm_jn 64 C0 C1))), (eA, .inl (cI, 2, .inl (tm_tw e0 e1))), (pA, .inl (cI, 2, .inl (tm_tw h0 (G (4 * q + 3))))), (dA, .inl (cI, 2, .inl (tm_tw d0 (d1 + 1)))), (kA, .inl (cI, 2, .inl (tm_tw (nI k0) (nI k1)))), (acA, .inl (cI, 240, .inl (tm_jn 120 A0 A1)))] H := hP
    have hD : va_D A [(m0, .inr (5, [.int th, .int (nI n), .ref oA, .ref aA, .ref bB, .ref cC, .int tl, .int (nI k), .ref gA, .ref zA, .ref bA, .ref sR, .ref sD, .ref rA, .ref eC, .ref eA, .ref pA, .ref dA, .ref kA, .ref acA, .int nx])), (oA, .inl (cI, 24, .inl Po)), (aA, .inl (cI, 24, .inl Pa)), (bB, .inl (cI, 24, .inl Pb)), (cC, .inl (cI, 24, .inl Pc)), (gA, .inl (cI, 1600, .inl G)), (zA, .inl (cZ, 400, .inl O)), (bA, .inl (cI, 25, .inl B)), (sR, .inl (cI, 8, .inl sr)), (sD, .inl (cI, 32, .inl sd)), (rA, .inl (cI, 16, .inl (tm_jn 8 R0 R1))), (eC, .inl (cI, 128, .inl (tm_jn 64 C0 C1))), (eA, .inl (cI, 2, .inl (tm_tw e0 e1))), (pA, .inl (cI, 2, .inl (tm_tw h0 (G (4 * q + 3))))), (dA, .inl (cI, 2, .inl (tm_tw d0 (d1 + 1)))), (kA, .inl (cI, 2, .inl (tm_tw (nI k0) (nI k1)))), (acA, .inl (cI, 240, .inl (tm_jn 120 A0 A1)))] := hD
    refine lv_iload_n hx hb d_Mo_target_193 rfl (lv_at hl 6 rfl) ?_
    refine lv_iconst (v := 5) hx hb d_Mo_target_194 (by decide) ?_
    refine lv_icmp_ge (tgt := 226) hx hb d_Mo_target_195 rfl (fun _ => ?_) (fun hz9 => absurd (nI_le (a := 5) (b := v) (by omega) (by omega)) hz9)
    refine lv_iload_n hx hb d_Mo_target_226 rfl (lv_at hl 6 rfl) ?_
    refine lv_iconst (v := 5) hx hb d_Mo_target_227 (by decide) ?_
    refine lv_icmp_ne (tgt := 251) hx hb d_Mo_target_228 rfl (fun _ => ?_) (fun hz9 => absurd hz9 (ee5))
    refine lv_iload_n hx hb d_Mo_target_251 rfl (lv_at hl 6 rfl) ?_
    refine lv_bipush (v := 6) hx hb d_Mo_target_252 (by decide) ?_
    refine lv_icmp_ne (tgt := 278) hx hb d_Mo_target_254 rfl (fun _ => ?_) (fun hz9 => absurd hz9 (ee6))
    refine lv_iload_n hx hb d_Mo_target_278 rfl (lv_at hl 6 rfl) ?_
    refine lv_bipush (v := 7) hx hb d_Mo_target_279 (by decide) ?_
    refine lv_icmp_eq (tgt := 290) hx hb d_Mo_target_281 rfl (fun hz9 => absurd hz9 (ee7)) (fun _ => ?_)
    refine lv_iload_n hx hb d_Mo_target_284 rfl (lv_at hl 6 rfl) ?_
    refine lv_bipush (v := 8) hx hb d_Mo_target_285 (by decide) ?_
    refine lv_icmp_ne (tgt := 315) hx hb d_Mo_target_287 rfl (fun _ => ?_) (fun hz9 => absurd hz9 (ee8))
    refine lv_aload_n hx hb d_Mo_target_315 rfl (lv_at hl 8 rfl) ?_
    refine va_get (D := D) (ci := 5) (v := .ref rA) (C := R_Mo) (T := F_Mo) (N := 21) hx hb hg f_Mo hown hK.1 hP 0 rfl rfl 13 (by decide) (hg _ q576) (fun _ h9 => h9) rfl d_Mo_target_316 ?_
    refine lv_bipush (v := 8) hx hb d_Mo_target_319 (by decide) ?_
    refine lv_iconst (v := 0) hx hb d_Mo_target_321 (by decide) ?_
    refine xa_st hx hb hK hP hD hS 10 0 rfl rfl (kx := 8) (rfl) (by decide) (by decide) d_Mo_target_322 (fun H locs hP hD hS => ?_)
    have hP : va_P D cls [(m0, .inr (5, [.int th, .int (nI n), .ref oA, .ref aA, .ref bB, .ref cC, .int tl, .int (nI k), .ref gA, .ref zA, .ref bA, .ref sR, .ref sD, .ref rA, .ref eC, .ref eA, .ref pA, .ref dA, .ref kA, .ref acA, .int nx])), (oA, .inl (cI, 24, .inl Po)), (aA, .inl (cI, 24, .inl Pa)), (bB, .inl (cI, 24, .inl Pb)), (cC, .inl (cI, 24, .inl Pc)), (gA, .inl (cI, 1600, .inl G)), (zA, .inl (cZ, 400, .inl O)), (bA, .inl (cI, 25, .inl B)), (sR, .inl (cI, 8, .inl sr)), (sD, .inl (cI, 32, .inl sd)), (rA, .inl (cI, 16, .inl (upd (tm_jn 8 R0 R1) 8 0))), (eC, .inl (cI, 128, .inl (tm_jn 64 C0 C1))), (eA, .inl (cI, 2, .inl (tm_tw e0 e1))), (pA, .inl (cI, 2, .inl (tm_tw h0 (G (4 * q + 3))))), (dA, .inl (cI, 2, .inl (tm_tw d0 (d1 + 1)))), (kA, .inl (cI, 2, .inl (tm_tw (nI k0) (nI k1)))), (acA, .inl (cI, 240, .inl (tm_jn 120 A0 A1)))] H := hP
    have hD : va_D A [(m0, .inr (5, [.int th, .int (nI n), .ref oA, .ref aA, .ref bB, .ref cC, .int tl, .int (nI k), .ref gA, .ref zA, .ref bA, .ref sR, .ref sD, .ref rA, .ref eC, .ref eA, .ref pA, .ref dA, .ref kA, .ref acA, .int nx])), (oA, .inl (cI, 24, .inl Po)), (aA, .inl (cI, 24, .inl Pa)), (bB, .inl (cI, 24, .inl Pb)), (cC, .inl (cI, 24, .inl Pc)), (gA, .inl (cI, 1600, .inl G)), (zA, .inl (cZ, 400, .inl O)), (bA, .inl (cI, 25, .inl B)), (sR, .inl (cI, 8, .inl sr)), (sD, .inl (cI, 32, .inl sd)), (rA, .inl (cI, 16, .inl (upd (tm_jn 8 R0 R1) 8 0))), (eC, .inl (cI, 128, .inl (tm_jn 64 C0 C1))), (eA, .inl (cI, 2, .inl (tm_tw e0 e1))), (pA, .inl (cI, 2, .inl (tm_tw h0 (G (4 * q + 3))))), (dA, .inl (cI, 2, .inl (tm_tw d0 (d1 + 1)))), (kA, .inl (cI, 2, .inl (tm_tw (nI k0) (nI k1)))), (acA, .inl (cI, 240, .inl (tm_jn 120 A0 A1)))] := hD
    rw [show 8 = 8 + 0 by omega, tm_jn_uh] at hP hD
    have hP : va_P D cls [(m0, .inr (5, [.int th, .int (nI n), .ref oA, .ref aA, .ref bB, .ref cC, .int tl, .int (nI k), .ref gA, .ref zA, .ref bA, .ref sR, .ref sD, .ref rA, .ref eC, .ref eA, .ref pA, .ref dA, .ref kA, .ref acA, .int nx])), (oA, .inl (cI, 24, .inl Po)), (aA, .inl (cI, 24, .inl Pa)), (bB, .inl (cI, 24, .inl Pb)), (cC, .inl (cI, 24, .inl Pc)), (gA, .inl (cI, 1600, .inl G)), (zA, .inl (cZ, 400, .inl O)), (bA, .inl (cI, 25, .inl B)), (sR, .inl (cI, 8, .inl sr)), (sD, .inl (cI, 32, .inl sd)), (rA, .inl (cI, 16, .inl (tm_jn 8 R0 (upd R1 0 0)))), (eC, .inl (cI, 128, .inl (tm_jn 64 C0 C1))), (eA, .inl (cI, 2, .inl (tm_tw e0 e1))), (pA, .inl (cI, 2, .inl (tm_tw h0 (G (4 * q + 3))))), (dA, .inl (cI, 2, .inl (tm_tw d0 (d1 + 1)))), (kA, .inl (cI, 2, .inl (tm_tw (nI k0) (nI k1)))), (acA, .inl (cI, 240, .inl (tm_jn 120 A0 A1)))] H := hP
    have hD : va_D A [(m0, .inr (5, [.int th, .int (nI n), .ref oA, .ref aA, .ref bB, .ref cC, .int tl, .int (nI k), .ref gA, .ref zA, .ref bA, .ref sR, .ref sD, .ref rA, .ref eC, .ref eA, .ref pA, .ref dA, .ref kA, .ref acA, .int nx])), (oA, .inl (cI, 24, .inl Po)), (aA, .inl (cI, 24, .inl Pa)), (bB, .inl (cI, 24, .inl Pb)), (cC, .inl (cI, 24, .inl Pc)), (gA, .inl (cI, 1600, .inl G)), (zA, .inl (cZ, 400, .inl O)), (bA, .inl (cI, 25, .inl B)), (sR, .inl (cI, 8, .inl sr)), (sD, .inl (cI, 32, .inl sd)), (rA, .inl (cI, 16, .inl (tm_jn 8 R0 (upd R1 0 0)))), (eC, .inl (cI, 128, .inl (tm_jn 64 C0 C1))), (eA, .inl (cI, 2, .inl (tm_tw e0 e1))), (pA, .inl (cI, 2, .inl (tm_tw h0 (G (4 * q + 3))))), (dA, .inl (cI, 2, .inl (tm_tw d0 (d1 + 1)))), (kA, .inl (cI, 2, .inl (tm_tw (nI k0) (nI k1)))), (acA, .inl (cI, 240, .inl (tm_jn 120 A0 A1)))] := hD
    have ew1_1 : (upd R1 0 0) = ((tm_ts G q (R1, C1, A1, k1, nI q, d1, e1, x1)).1) := by rw [tm_upd0 hR0]; simp [tm_ts, hv, f13, ee0, ee5, ee6, ee7, ee8, ee9, ee10, ee11, ee12, ee13, f7, f9, f4]
    have ew1 : tm_jn 8 R0 (upd R1 0 0) = tm_jn 8 R0 ((tm_ts G q (R1, C1, A1, k1, nI q, d1, e1, x1)).1) := congr (congrArg (tm_jn 8) rfl) ew1_1
    have ew2_1 : C1 = ((tm_ts G q (R1, C1, A1, k1, nI q, d1, e1, x1)).2.1) := by first | rfl | (simp [tm_ts, hv, f13, ee0, ee5, ee6, ee7, ee8, ee9, ee10, ee11, ee12, ee13, f7, f9, f4]; done)
    have ew2 : tm_jn 64 C0 C1 = tm_jn 64 C0 ((tm_ts G q (R1, C1, A1, k1, nI q, d1, e1, x1)).2.1) := congr (congrArg (tm_jn 64) rfl) ew2_1
    have ew3_1 : e1 = ((tm_ts G q (R1, C1, A1, k1, nI q, d1, e1, x1)).2.2.2.2.2.2.1) := by first | rfl | (simp [tm_ts, hv, f13, ee0, ee5, ee6, ee7, ee8, ee9, ee10, ee11, ee12, ee13, f7, f9, f4]; done)
    have ew3 : tm_tw e0 e1 = tm_tw e0 ((tm_ts G q (R1, C1, A1, k1, nI q, d1, e1, x1)).2.2.2.2.2.2.1) := congr (congrArg (tm_tw) rfl) ew3_1
    have ew4_1 : (G (4 * q + 3)) = ((tm_ts G q (R1, C1, A1, k1, nI q, d1, e1, x1)).2.2.2.2.1) := by simp [tm_ts, tm_tb, hv, ha, hbb, hc_a, hc_b, f13, ee0, ee5, ee6, ee7, ee8, ee9, ee10, ee11, ee12, ee13, f7, f9, f4]
    have ew4 : tm_tw h0 (G (4 * q + 3)) = tm_tw h0 ((tm_ts G q (R1, C1, A1, k1, nI q, d1, e1, x1)).2.2.2.2.1) := congr (congrArg (tm_tw) rfl) ew4_1
    have ew5_1 : (d1 + 1) = ((tm_ts G q (R1, C1, A1, k1, nI q, d1, e1, x1)).2.2.2.2.2.1) := by first | rfl | (simp [tm_ts, hv, f13, ee0, ee5, ee6, ee7, ee8, ee9, ee10, ee11, ee12, ee13, f7, f9, f4]; done)
    have ew5 : tm_tw d0 (d1 + 1) = tm_tw d0 ((tm_ts G q (R1, C1, A1, k1, nI q, d1, e1, x1)).2.2.2.2.2.1) := congr (congrArg (tm_tw) rfl) ew5_1
    have ew6_1 : (nI k1) = (nI (tm_ts G q (R1, C1, A1, k1, nI q, d1, e1, x1)).2.2.2.1) := congrArg nI (by first | (simp [tm_ts, hv, f13, ee0, ee5, ee6, ee7, ee8, ee9, ee10, ee11, ee12, ee13, f7, f9, f4]; done) | (simp [tm_ts, hv, f13, ee0, ee5, ee6, ee7, ee8, ee9, ee10, ee11, ee12, ee13, f7, f9, f4]; omega) | omega)
    have ew6 : tm_tw (nI k0) (nI k1) = tm_tw (nI k0) (nI (tm_ts G q (R1, C1, A1, k1, nI q, d1, e1, x1)).2.2.2.1) := congr (congrArg (tm_tw) rfl) ew6_1
    have ew7_1 : A1 = ((tm_ts G q (R1, C1, A1, k1, nI q, d1, e1, x1)).2.2.1) := by first | rfl | (simp [tm_ts, hv, f13, ee0, ee5, ee6, ee7, ee8, ee9, ee10, ee11, ee12, ee13, f7, f9, f4]; done)
    have ew7 : tm_jn 120 A0 A1 = tm_jn 120 A0 ((tm_ts G q (R1, C1, A1, k1, nI q, d1, e1, x1)).2.2.1) := congr (congrArg (tm_jn 120) rfl) ew7_1
    have hP : va_P D cls [(m0, .inr (5, [.int th, .int (nI n), .ref oA, .ref aA, .ref bB, .ref cC, .int tl, .int (nI k), .ref gA, .ref zA, .ref bA, .ref sR, .ref sD, .ref rA, .ref eC, .ref eA, .ref pA, .ref dA, .ref kA, .ref acA, .int nx])), (oA, .inl (cI, 24, .inl Po)), (aA, .inl (cI, 24, .inl Pa)), (bB, .inl (cI, 24, .inl Pb)), (cC, .inl (cI, 24, .inl Pc)), (gA, .inl (cI, 1600, .inl G)), (zA, .inl (cZ, 400, .inl O)), (bA, .inl (cI, 25, .inl B)), (sR, .inl (cI, 8, .inl sr)), (sD, .inl (cI, 32, .inl sd)), (rA, .inl (cI, 16, .inl (tm_jn 8 R0 ((tm_ts G q (R1, C1, A1, k1, nI q, d1, e1, x1)).1)))), (eC, .inl (cI, 128, .inl (tm_jn 64 C0 ((tm_ts G q (R1, C1, A1, k1, nI q, d1, e1, x1)).2.1)))), (eA, .inl (cI, 2, .inl (tm_tw e0 ((tm_ts G q (R1, C1, A1, k1, nI q, d1, e1, x1)).2.2.2.2.2.2.1)))), (pA, .inl (cI, 2, .inl (tm_tw h0 ((tm_ts G q (R1, C1, A1, k1, nI q, d1, e1, x1)).2.2.2.2.1)))), (dA, .inl (cI, 2, .inl (tm_tw d0 ((tm_ts G q (R1, C1, A1, k1, nI q, d1, e1, x1)).2.2.2.2.2.1)))), (kA, .inl (cI, 2, .inl (tm_tw (nI k0) (nI (tm_ts G q (R1, C1, A1, k1, nI q, d1, e1, x1)).2.2.2.1)))), (acA, .inl (cI, 240, .inl (tm_jn 120 A0 ((tm_ts G q (R1, C1, A1, k1, nI q, d1, e1, x1)).2.2.1))))] H := by rw [← ew1, ← ew2, ← ew3, ← ew4, ← ew5, ← ew6, ← ew7]; exact hP
    have hD : va_D A [(m0, .inr (5, [.int th, .int (nI n), .ref oA, .ref aA, .ref bB, .ref cC, .int tl, .int (nI k), .ref gA, .ref zA, .ref bA, .ref sR, .ref sD, .ref rA, .ref eC, .ref eA, .ref pA, .ref dA, .ref kA, .ref acA, .int nx])), (oA, .inl (cI, 24, .inl Po)), (aA, .inl (cI, 24, .inl Pa)), (bB, .inl (cI, 24, .inl Pb)), (cC, .inl (cI, 24, .inl Pc)), (gA, .inl (cI, 1600, .inl G)), (zA, .inl (cZ, 400, .inl O)), (bA, .inl (cI, 25, .inl B)), (sR, .inl (cI, 8, .inl sr)), (sD, .inl (cI, 32, .inl sd)), (rA, .inl (cI, 16, .inl (tm_jn 8 R0 ((tm_ts G q (R1, C1, A1, k1, nI q, d1, e1, x1)).1)))), (eC, .inl (cI, 128, .inl (tm_jn 64 C0 ((tm_ts G q (R1, C1, A1, k1, nI q, d1, e1, x1)).2.1)))), (eA, .inl (cI, 2, .inl (tm_tw e0 ((tm_ts G q (R1, C1, A1, k1, nI q, d1, e1, x1)).2.2.2.2.2.2.1)))), (pA, .inl (cI, 2, .inl (tm_tw h0 ((tm_ts G q (R1, C1, A1, k1, nI q, d1, e1, x1)).2.2.2.2.1)))), (dA, .inl (cI, 2, .inl (tm_tw d0 ((tm_ts G q (R1, C1, A1, k1, nI q, d1, e1, x1)).2.2.2.2.2.1)))), (kA, .inl (cI, 2, .inl (tm_tw (nI k0) (nI (tm_ts G q (R1, C1, A1, k1, nI q, d1, e1, x1)).2.2.2.1)))), (acA, .inl (cI, 240, .inl (tm_jn 120 A0 ((tm_ts G q (R1, C1, A1, k1, nI q, d1, e1, x1)).2.2.1))))] := by rw [← ew1, ← ew2, ← ew3, ← ew4, ← ew5, ← ew6, ← ew7]; exact hD
    exact W.vret hx hb hr (fun t9 ht9 hW9 => ⟨⟨(), rfl, trivial, by rw [ht9]; exact hP, hD⟩, hS.F ht9⟩) hS.2.2 d_Mo_target_323
  · have f13 : ¬ 13 < nI v := nI_nlt (a := 13) (b := v) (by omega) (by decide)
    have ee0 : ¬ nI v = 0 := xn_ne (w := 0) (by omega) (by decide) (by omega)
    have ee5 : ¬ nI v = 5 := xn_ne (w := 5) (by omega) (by decide) (by omega)
    have ee6 : ¬ nI v = 6 := xn_ne (w := 6) (by omega) (by decide) (by omega)
    have ee7 : ¬ nI v = 7 := xn_ne (w := 7) (by omega) (by decide) (by omega)
    have ee8 : ¬ nI v = 8 := xn_ne (w := 8) (by omega) (by decide) (by omega)
    have ee9 : ¬ nI v = 9 := xn_ne (w := 9) (by omega) (by decide) (by omega)
    have ee10 : ¬ nI v = 10 := xn_ne (w := 10) (by omega) (by decide) (by omega)
    have ee11 : ¬ nI v = 11 := xn_ne (w := 11) (by omega) (by decide) (by omega)
    have ee12 : nI v = 12 := by rw [hcase]; rfl
    have ee13 : ¬ nI v = 13 := xn_ne (w := 13) (by omega) (by decide) (by omega)
    have f7 : ¬ nI v < 7 := nI_nlt (a := v) (b := 7) (by omega) (by omega)
    have f9 : ¬ nI v < 9 := nI_nlt (a := v) (b := 9) (by omega) (by omega)
    have f4 : 4 < nI v := nI_lt (a := 4) (b := v) (by omega) (by omega)
    refine lv_aload_n hx hb d_Mo_target_0 rfl (lv_at hl 0 rfl) ?_
    refine va_get (D := D) (ci := 5) (v := .ref pA) (C := R_Mo) (T := F_Mo) (N := 21) hx hb hg f_Mo hown hK.1 hP 0 rfl rfl 16 (by decide) (hg _ q579) (fun _ h9 => h9) rfl d_Mo_target_1 ?_
    refine lv_iconst (v := 1) hx hb d_Mo_target_4 (by decide) ?_
    refine xa_ld hx hb hK hP 13 0 rfl rfl (kx := 1) (rfl) (by decide) (by decide) d_Mo_target_5 ?_
    have eq9 : ((tm_tw h0 (nI q)) 1 : Int32) = nI q := rfl
    refine W.eq (g2 := F0 m 6 ls [.int (nI q)]) (by rw [eq9]) ?_
    refine lv_istore_n hx hb d_Mo_target_6 rfl hl (by decide) rfl (fun ls hl => ?_)
    have hl : lv_has ls 9 [(1, .int (nI q)), (0, .ref m0)] := hl
    refine lv_aload_n hx hb d_Mo_target_7 rfl (lv_at hl 1 rfl) ?_
    refine va_get (D := D) (ci := 5) (v := .ref gA) (C := R_Mo) (T := F_Mo) (N := 21) hx hb hg f_Mo hown hK.1 hP 0 rfl rfl 8 (by decide) (hg _ q571) (fun _ h9 => h9) rfl d_Mo_target_8 ?_
    refine lv_iconst (v := 4) hx hb d_Mo_target_11 (by decide) ?_
    refine lv_iload_n hx hb d_Mo_target_12 rfl (lv_at hl 0 rfl) ?_
    refine lv_imul hx hb d_Mo_target_13 ?_
    have eq9 : (4 * (nI q) : Int32) = nI (4 * q) := pk_mul 4 q
    refine W.eq (g2 := F0 m 14 ls [.int (nI (4 * q)), .ref gA]) (by rw [eq9]) ?_
    refine xa_ld hx hb hK hP 5 0 rfl rfl (kx := 4 * q) (rfl) (by omega) (by decide) d_Mo_target_14 ?_
    have eq9 : (G (4 * q) : Int32) = nI v := hv
    refine W.eq (g2 := F0 m 15 ls [.int (nI v)]) (by rw [eq9]) ?_
    refine lv_istore_n hx hb d_Mo_target_15 rfl hl (by decide) rfl (fun ls hl => ?_)
    have hl : lv_has ls 9 [(2, .int (nI v)), (1, .int (nI q)), (0, .ref m0)] := hl
    refine lv_aload_n hx hb d_Mo_target_16 rfl (lv_at hl 2 rfl) ?_
    refine va_get (D := D) (ci := 5) (v := .ref gA) (C := R_Mo) (T := F_Mo) (N := 21) hx hb hg f_Mo hown hK.1 hP 0 rfl rfl 8 (by decide) (hg _ q571) (fun _ h9 => h9) rfl d_Mo_target_17 ?_
    refine lv_iconst (v := 4) hx hb d_Mo_target_20 (by decide) ?_
    refine lv_iload_n hx hb d_Mo_target_21 rfl (lv_at hl 1 rfl) ?_
    refine lv_imul hx hb d_Mo_target_22 ?_
    have eq9 : (4 * (nI q) : Int32) = nI (4 * q) := pk_mul 4 q
    refine W.eq (g2 := F0 m 23 ls [.int (nI (4 * q)), .ref gA]) (by rw [eq9]) ?_
    refine lv_iconst (v := 1) hx hb d_Mo_target_23 (by decide) ?_
    refine lv_iadd hx hb d_Mo_target_24 ?_
    have eq9 : ((nI (4 * q)) + 1 : Int32) = nI (4 * q + 1) := nI_add (4 * q) 1
    refine W.eq (g2 := F0 m 25 ls [.int (nI (4 * q + 1)), .ref gA]) (by rw [eq9]) ?_
    refine xa_ld hx hb hK hP 5 0 rfl rfl (kx := 4 * q + 1) (rfl) (by omega) (by decide) d_Mo_target_25 ?_
    have eq9 : (G (4 * q + 1) : Int32) = nI a := ha
    refine W.eq (g2 := F0 m 26 ls [.int (nI a)]) (by rw [eq9]) ?_
    refine lv_istore_n hx hb d_Mo_target_26 rfl hl (by decide) rfl (fun ls hl => ?_)
    have hl : lv_has ls 9 [(3, .int (nI a)), (2, .int (nI v)), (1, .int (nI q)), (0, .ref m0)] := hl
    refine lv_aload_n hx hb d_Mo_target_27 rfl (lv_at hl 3 rfl) ?_
    refine va_get (D := D) (ci := 5) (v := .ref gA) (C := R_Mo) (T := F_Mo) (N := 21) hx hb hg f_Mo hown hK.1 hP 0 rfl rfl 8 (by decide) (hg _ q571) (fun _ h9 => h9) rfl d_Mo_target_28 ?_
    refine lv_iconst (v := 4) hx hb d_Mo_target_31 (by decide) ?_
    refine lv_iload_n hx hb d_Mo_target_32 rfl (lv_at hl 2 rfl) ?_
    refine lv_imul hx hb d_Mo_target_33 ?_
    have eq9 : (4 * (nI q) : Int32) = nI (4 * q) := pk_mul 4 q
    refine W.eq (g2 := F0 m 34 ls [.int (nI (4 * q)), .ref gA]) (by rw [eq9]) ?_
    refine lv_iconst (v := 2) hx hb d_Mo_target_34 (by decide) ?_
    refine lv_iadd hx hb d_Mo_target_35 ?_
    have eq9 : ((nI (4 * q)) + 2 : Int32) = nI (4 * q + 2) := nI_add (4 * q) 2
    refine W.eq (g2 := F0 m 36 ls [.int (nI (4 * q + 2)), .ref gA]) (by rw [eq9]) ?_
    refine xa_ld hx hb hK hP 5 0 rfl rfl (kx := 4 * q + 2) (rfl) (by omega) (by decide) d_Mo_target_36 ?_
    have eq9 : (G (4 * q + 2) : Int32) = nI b := hbb
    refine W.eq (g2 := F0 m 37 ls [.int (nI b)]) (by rw [eq9]) ?_
    refine lv_istore hx hb d_Mo_target_37 hl (by decide) rfl (fun ls hl => ?_)
    have hl : lv_has ls 9 [(4, .int (nI b)), (3, .int (nI a)), (2, .int (nI v)), (1, .int (nI q)), (0, .ref m0)] := hl
    refine lv_aload_n hx hb d_Mo_target_39 rfl (lv_at hl 4 rfl) ?_
    refine va_get (D := D) (ci := 5) (v := .ref gA) (C := R_Mo) (T := F_Mo) (N := 21) hx hb hg f_Mo hown hK.1 hP 0 rfl rfl 8 (by decide) (hg _ q571) (fun _ h9 => h9) rfl d_Mo_target_40 ?_
    refine lv_iconst (v := 4) hx hb d_Mo_target_43 (by decide) ?_
    refine lv_iload_n hx hb d_Mo_target_44 rfl (lv_at hl 3 rfl) ?_
    refine lv_imul hx hb d_Mo_target_45 ?_
    have eq9 : (4 * (nI q) : Int32) = nI (4 * q) := pk_mul 4 q
    refine W.eq (g2 := F0 m 46 ls [.int (nI (4 * q)), .ref gA]) (by rw [eq9]) ?_
    refine lv_iconst (v := 3) hx hb d_Mo_target_46 (by decide) ?_
    refine lv_iadd hx hb d_Mo_target_47 ?_
    have eq9 : ((nI (4 * q)) + 3 : Int32) = nI (4 * q + 3) := nI_add (4 * q) 3
    refine W.eq (g2 := F0 m 48 ls [.int (nI (4 * q + 3)), .ref gA]) (by rw [eq9]) ?_
    refine xa_ld hx hb hK hP 5 0 rfl rfl (kx := 4 * q + 3) (rfl) (by omega) (by decide) d_Mo_target_48 ?_
    refine lv_istore hx hb d_Mo_target_49 hl (by decide) rfl (fun ls hl => ?_)
    have hl : lv_has ls 9 [(5, .int (G (4 * q + 3))), (4, .int (nI b)), (3, .int (nI a)), (2, .int (nI v)), (1, .int (nI q)), (0, .ref m0)] := hl
    refine lv_aload_n hx hb d_Mo_target_51 rfl (lv_at hl 5 rfl) ?_
    refine va_get (D := D) (ci := 5) (v := .ref rA) (C := R_Mo) (T := F_Mo) (N := 21) hx hb hg f_Mo hown hK.1 hP 0 rfl rfl 13 (by decide) (hg _ q576) (fun _ h9 => h9) rfl d_Mo_target_52 ?_
    refine lv_bipush (v := 8) hx hb d_Mo_target_55 (by decide) ?_
    refine lv_iload_n hx hb d_Mo_target_57 rfl (lv_at hl 2 rfl) ?_
    refine lv_iadd hx hb d_Mo_target_58 ?_
    have eq9 : (8 + (nI a) : Int32) = nI (8 + a) := nI_add 8 a
    refine W.eq (g2 := F0 m 59 ls [.int (nI (8 + a)), .ref rA]) (by rw [eq9]) ?_
    refine xa_ld hx hb hK hP 10 0 rfl rfl (kx := 8 + a) (rfl) (by omega) (by decide) d_Mo_target_59 ?_
    have eq9 : ((tm_jn 8 R0 R1) (8 + a) : Int32) = R1 a := (congrArg (tm_jn 8 R0 R1) (show 8 + a = 8 + a by omega)).trans tm_jn_hi
    refine W.eq (g2 := F0 m 60 ls [.int (R1 a)]) (by rw [eq9]) ?_
    refine lv_istore hx hb d_Mo_target_60 hl (by decide) rfl (fun ls hl => ?_)
    have hl : lv_has ls 9 [(6, .int (R1 a)), (5, .int (G (4 * q + 3))), (4, .int (nI b)), (3, .int (nI a)), (2, .int (nI v)), (1, .int (nI q)), (0, .ref m0)] := hl
    refine lv_aload_n hx hb d_Mo_target_62 rfl (lv_at hl 6 rfl) ?_
    refine va_get (D := D) (ci := 5) (v := .ref rA) (C := R_Mo) (T := F_Mo) (N := 21) hx hb hg f_Mo hown hK.1 hP 0 rfl rfl 13 (by decide) (hg _ q576) (fun _ h9 => h9) rfl d_Mo_target_63 ?_
    refine lv_bipush (v := 8) hx hb d_Mo_target_66 (by decide) ?_
    refine lv_iload hx hb d_Mo_target_68 (lv_at hl 2 rfl) ?_
    refine lv_iadd hx hb d_Mo_target_70 ?_
    have eq9 : (8 + (nI b) : Int32) = nI (8 + b) := nI_add 8 b
    refine W.eq (g2 := F0 m 71 ls [.int (nI (8 + b)), .ref rA]) (by rw [eq9]) ?_
    refine xa_ld hx hb hK hP 10 0 rfl rfl (kx := 8 + b) (rfl) (by omega) (by decide) d_Mo_target_71 ?_
    have eq9 : ((tm_jn 8 R0 R1) (8 + b) : Int32) = R1 b := (congrArg (tm_jn 8 R0 R1) (show 8 + b = 8 + b by omega)).trans tm_jn_hi
    refine W.eq (g2 := F0 m 72 ls [.int (R1 b)]) (by rw [eq9]) ?_
    refine lv_istore hx hb d_Mo_target_72 hl (by decide) rfl (fun ls hl => ?_)
    have hl : lv_has ls 9 [(7, .int (R1 b)), (6, .int (R1 a)), (5, .int (G (4 * q + 3))), (4, .int (nI b)), (3, .int (nI a)), (2, .int (nI v)), (1, .int (nI q)), (0, .ref m0)] := hl
    refine lv_aload_n hx hb d_Mo_target_74 rfl (lv_at hl 7 rfl) ?_
    refine va_get (D := D) (ci := 5) (v := .ref dA) (C := R_Mo) (T := F_Mo) (N := 21) hx hb hg f_Mo hown hK.1 hP 0 rfl rfl 17 (by decide) (hg _ q580) (fun _ h9 => h9) rfl d_Mo_target_75 ?_
    refine lv_iconst (v := 1) hx hb d_Mo_target_78 (by decide) ?_
    refine lv_dup2_11 hx hb d_Mo_target_79 rfl rfl ?_
    refine xa_ld hx hb hK hP 14 0 rfl rfl (kx := 1) (rfl) (by decide) (by decide) d_Mo_target_80 ?_
    have eq9 : ((tm_tw d0 d1) 1 : Int32) = d1 := rfl
    refine W.eq (g2 := F0 m 81 ls [.int d1, .int 1, .ref dA]) (by rw [eq9]) ?_
    refine lv_iconst (v := 1) hx hb d_Mo_target_81 (by decide) ?_
    refine lv_iadd hx hb d_Mo_target_82 ?_
    refine xa_st hx hb hK hP hD hS 14 0 rfl rfl (kx := 1) (rfl) (by decide) (by decide) d_Mo_target_83 (fun H locs hP hD hS => ?_)
    have hP : va_P D cls [(m0, .inr (5, [.int th, .int (nI n), .ref oA, .ref aA, .ref bB, .ref cC, .int tl, .int (nI k), .ref gA, .ref zA, .ref bA, .ref sR, .ref sD, .ref rA, .ref eC, .ref eA, .ref pA, .ref dA, .ref kA, .ref acA, .int nx])), (oA, .inl (cI, 24, .inl Po)), (aA, .inl (cI, 24, .inl Pa)), (bB, .inl (cI, 24, .inl Pb)), (cC, .inl (cI, 24, .inl Pc)), (gA, .inl (cI, 1600, .inl G)), (zA, .inl (cZ, 400, .inl O)), (bA, .inl (cI, 25, .inl B)), (sR, .inl (cI, 8, .inl sr)), (sD, .inl (cI, 32, .inl sd)), (rA, .inl (cI, 16, .inl (tm_jn 8 R0 R1))), (eC, .inl (cI, 128, .inl (tm_jn 64 C0 C1))), (eA, .inl (cI, 2, .inl (tm_tw e0 e1))), (pA, .inl (cI, 2, .inl (tm_tw h0 (nI q)))), (dA, .inl (cI, 2, .inl (upd (tm_tw d0 d1) 1 (d1 + 1)))), (kA, .inl (cI, 2, .inl (tm_tw (nI k0) (nI k1)))), (acA, .inl (cI, 240, .inl (tm_jn 120 A0 A1)))] H := hP
    have hD : va_D A [(m0, .inr (5, [.int th, .int (nI n), .ref oA, .ref aA, .ref bB, .ref cC, .int tl, .int (nI k), .ref gA, .ref zA, .ref bA, .ref sR, .ref sD, .ref rA, .ref eC, .ref eA, .ref pA, .ref dA, .ref kA, .ref acA, .int nx])), (oA, .inl (cI, 24, .inl Po)), (aA, .inl (cI, 24, .inl Pa)), (bB, .inl (cI, 24, .inl Pb)), (cC, .inl (cI, 24, .inl Pc)), (gA, .inl (cI, 1600, .inl G)), (zA, .inl (cZ, 400, .inl O)), (bA, .inl (cI, 25, .inl B)), (sR, .inl (cI, 8, .inl sr)), (sD, .inl (cI, 32, .inl sd)), (rA, .inl (cI, 16, .inl (tm_jn 8 R0 R1))), (eC, .inl (cI, 128, .inl (tm_jn 64 C0 C1))), (eA, .inl (cI, 2, .inl (tm_tw e0 e1))), (pA, .inl (cI, 2, .inl (tm_tw h0 (nI q)))), (dA, .inl (cI, 2, .inl (upd (tm_tw d0 d1) 1 (d1 + 1)))), (kA, .inl (cI, 2, .inl (tm_tw (nI k0) (nI k1)))), (acA, .inl (cI, 240, .inl (tm_jn 120 A0 A1)))] := hD
    have hD := xa_D (e2 := .inl (cI, 2, .inl (tm_tw d0 (d1 + 1)))) hD 14 rfl
    have hP := xa_P (g := tm_tw d0 (d1 + 1)) hP 14 rfl (tm_tw_c)
    have hP : va_P D cls [(m0, .inr (5, [.int th, .int (nI n), .ref oA, .ref aA, .ref bB, .ref cC, .int tl, .int (nI k), .ref gA, .ref zA, .ref bA, .ref sR, .ref sD, .ref rA, .ref eC, .ref eA, .ref pA, .ref dA, .ref kA, .ref acA, .int nx])), (oA, .inl (cI, 24, .inl Po)), (aA, .inl (cI, 24, .inl Pa)), (bB, .inl (cI, 24, .inl Pb)), (cC, .inl (cI, 24, .inl Pc)), (gA, .inl (cI, 1600, .inl G)), (zA, .inl (cZ, 400, .inl O)), (bA, .inl (cI, 25, .inl B)), (sR, .inl (cI, 8, .inl sr)), (sD, .inl (cI, 32, .inl sd)), (rA, .inl (cI, 16, .inl (tm_jn 8 R0 R1))), (eC, .inl (cI, 128, .inl (tm_jn 64 C0 C1))), (eA, .inl (cI, 2, .inl (tm_tw e0 e1))), (pA, .inl (cI, 2, .inl (tm_tw h0 (nI q)))), (dA, .inl (cI, 2, .inl (tm_tw d0 (d1 + 1)))), (kA, .inl (cI, 2, .inl (tm_tw (nI k0) (nI k1)))), (acA, .inl (cI, 240, .inl (tm_jn 120 A0 A1)))] H := hP
    have hD : va_D A [(m0, .inr (5, [.int th, .int (nI n), .ref oA, .ref aA, .ref bB, .ref cC, .int tl, .int (nI k), .ref gA, .ref zA, .ref bA, .ref sR, .ref sD, .ref rA, .ref eC, .ref eA, .ref pA, .ref dA, .ref kA, .ref acA, .int nx])), (oA, .inl (cI, 24, .inl Po)), (aA, .inl (cI, 24, .inl Pa)), (bB, .inl (cI, 24, .inl Pb)), (cC, .inl (cI, 24, .inl Pc)), (gA, .inl (cI, 1600, .inl G)), (zA, .inl (cZ, 400, .inl O)), (bA, .inl (cI, 25, .inl B)), (sR, .inl (cI, 8, .inl sr)), (sD, .inl (cI, 32, .inl sd)), (rA, .inl (cI, 16, .inl (tm_jn 8 R0 R1))), (eC, .inl (cI, 128, .inl (tm_jn 64 C0 C1))), (eA, .inl (cI, 2, .inl (tm_tw e0 e1))), (pA, .inl (cI, 2, .inl (tm_tw h0 (nI q)))), (dA, .inl (cI, 2, .inl (tm_tw d0 (d1 + 1)))), (kA, .inl (cI, 2, .inl (tm_tw (nI k0) (nI k1)))), (acA, .inl (cI, 240, .inl (tm_jn 120 A0 A1)))] := hD
    refine lv_iload_n hx hb d_Mo_target_84 rfl (lv_at hl 5 rfl) ?_
    refine lv_if_ne (tgt := 105) hx hb d_Mo_target_85 rfl (fun _ => ?_) (fun hz9 => absurd hz9 (ee0))
    refine lv_iload_n hx hb d_Mo_target_105 rfl (lv_at hl 5 rfl) ?_
    refine lv_bipush (v := 9) hx hb d_Mo_target_106 (by decide) ?_
    refine lv_icmp_ne (tgt := 118) hx hb d_Mo_target_108 rfl (fun _ => ?_) (fun hz9 => absurd hz9 (ee9))
    refine lv_iload_n hx hb d_Mo_target_118 rfl (lv_at hl 5 rfl) ?_
    refine lv_bipush (v := 10) hx hb d_Mo_target_119 (by decide) ?_
    refine lv_icmp_ne (tgt := 131) hx hb d_Mo_target_121 rfl (fun _ => ?_) (fun hz9 => absurd hz9 (ee10))
    refine lv_iload_n hx hb d_Mo_target_131 rfl (lv_at hl 5 rfl) ?_
    refine lv_bipush (v := 11) hx hb d_Mo_target_132 (by decide) ?_
    refine lv_icmp_eq (tgt := 156) hx hb d_Mo_target_134 rfl (fun hz9 => absurd hz9 (ee11)) (fun _ => ?_)
    refine lv_iload_n hx hb d_Mo_target_137 rfl (lv_at hl 5 rfl) ?_
    refine lv_bipush (v := 12) hx hb d_Mo_target_138 (by decide) ?_
    refine lv_icmp_ne (tgt := 160) hx hb d_Mo_target_140 rfl (fun hz9 => absurd (ee12) hz9) (fun _ => ?_)
    refine lv_iload hx hb d_Mo_target_143 (lv_at hl 1 rfl) ?_
    refine lv_ldc hx hb hown (hg _ q743) d_Mo_target_145 ?_
    refine lv_iand hx hb d_Mo_target_147 ?_
    refine lv_iload hx hb d_Mo_target_148 (lv_at hl 0 rfl) ?_
    refine lv_ldc hx hb hown (hg _ q743) d_Mo_target_150 ?_
    refine lv_iand hx hb d_Mo_target_152 ?_
    refine lv_icmp_lt (tgt := 160) hx hb d_Mo_target_153 rfl (fun hab => ?_) (fun hab => ?_)
    · refine lv_iconst (v := 0) hx hb d_Mo_target_160 (by decide) ?_
      refine lv_istore hx hb d_Mo_target_161 hl (by decide) rfl (fun ls hl => ?_)
      have hl : lv_has ls 9 [(8, .int 0), (7, .int (R1 b)), (6, .int (R1 a)), (5, .int (G (4 * q + 3))), (4, .int (nI b)), (3, .int (nI a)), (2, .int (nI v)), (1, .int (nI q)), (0, .ref m0)] := hl
      refine lv_aload_n hx hb d_Mo_target_163 rfl (lv_at hl 8 rfl) ?_
      refine va_get (D := D) (ci := 5) (v := .ref pA) (C := R_Mo) (T := F_Mo) (N := 21) hx hb hg f_Mo hown hK.1 hP 0 rfl rfl 16 (by decide) (hg _ q579) (fun _ h9 => h9) rfl d_Mo_target_164 ?_
      refine lv_iconst (v := 1) hx hb d_Mo_target_167 (by decide) ?_
      refine lv_iload hx hb d_Mo_target_168 (lv_at hl 0 rfl) ?_
      refine lv_if_eq (tgt := 178) hx hb d_Mo_target_170 rfl (fun _ => ?_) (fun hz9 => absurd (by decide) hz9)
      refine lv_iload_n hx hb d_Mo_target_178 rfl (lv_at hl 6 rfl) ?_
      refine lv_bipush (v := 13) hx hb d_Mo_target_179 (by decide) ?_
      refine lv_icmp_ne (tgt := 189) hx hb d_Mo_target_181 rfl (fun _ => ?_) (fun hz9 => absurd hz9 (ee13))
      refine lv_iload_n hx hb d_Mo_target_189 rfl (lv_at hl 7 rfl) ?_
      refine lv_iconst (v := 1) hx hb d_Mo_target_190 (by decide) ?_
      refine lv_iadd hx hb d_Mo_target_191 ?_
      have eq9 : ((nI q) + 1 : Int32) = nI (q + 1) := nI_add q 1
      refine W.eq (g2 := F0 m 192 ls [.int (nI (q + 1)), .int 1, .ref pA]) (by rw [eq9]) ?_
      refine xa_st hx hb hK hP hD hS 13 0 rfl rfl (kx := 1) (rfl) (by decide) (by decide) d_Mo_target_192 (fun H locs hP hD hS => ?_)
      have hP : va_P D cls [(m0, .inr (5, [.int th, .int (nI n), .ref oA, .ref aA, .ref bB, .ref cC, .int tl, .int (nI k), .ref gA, .ref zA, .ref bA, .ref sR, .ref sD, .ref rA, .ref eC, .ref eA, .ref pA, .ref dA, .ref kA, .ref acA, .int nx])), (oA, .inl (cI, 24, .inl Po)), (aA, .inl (cI, 24, .inl Pa)), (bB, .inl (cI, 24, .inl Pb)), (cC, .inl (cI, 24, .inl Pc)), (gA, .inl (cI, 1600, .inl G)), (zA, .inl (cZ, 400, .inl O)), (bA, .inl (cI, 25, .inl B)), (sR, .inl (cI, 8, .inl sr)), (sD, .inl (cI, 32, .inl sd)), (rA, .inl (cI, 16, .inl (tm_jn 8 R0 R1))), (eC, .inl (cI, 128, .inl (tm_jn 64 C0 C1))), (eA, .inl (cI, 2, .inl (tm_tw e0 e1))), (pA, .inl (cI, 2, .inl (upd (tm_tw h0 (nI q)) 1 (nI (q + 1))))), (dA, .inl (cI, 2, .inl (tm_tw d0 (d1 + 1)))), (kA, .inl (cI, 2, .inl (tm_tw (nI k0) (nI k1)))), (acA, .inl (cI, 240, .inl (tm_jn 120 A0 A1)))] H := hP
      have hD : va_D A [(m0, .inr (5, [.int th, .int (nI n), .ref oA, .ref aA, .ref bB, .ref cC, .int tl, .int (nI k), .ref gA, .ref zA, .ref bA, .ref sR, .ref sD, .ref rA, .ref eC, .ref eA, .ref pA, .ref dA, .ref kA, .ref acA, .int nx])), (oA, .inl (cI, 24, .inl Po)), (aA, .inl (cI, 24, .inl Pa)), (bB, .inl (cI, 24, .inl Pb)), (cC, .inl (cI, 24, .inl Pc)), (gA, .inl (cI, 1600, .inl G)), (zA, .inl (cZ, 400, .inl O)), (bA, .inl (cI, 25, .inl B)), (sR, .inl (cI, 8, .inl sr)), (sD, .inl (cI, 32, .inl sd)), (rA, .inl (cI, 16, .inl (tm_jn 8 R0 R1))), (eC, .inl (cI, 128, .inl (tm_jn 64 C0 C1))), (eA, .inl (cI, 2, .inl (tm_tw e0 e1))), (pA, .inl (cI, 2, .inl (upd (tm_tw h0 (nI q)) 1 (nI (q + 1))))), (dA, .inl (cI, 2, .inl (tm_tw d0 (d1 + 1)))), (kA, .inl (cI, 2, .inl (tm_tw (nI k0) (nI k1)))), (acA, .inl (cI, 240, .inl (tm_jn 120 A0 A1)))] := hD
      have hD := xa_D (e2 := .inl (cI, 2, .inl (tm_tw h0 (nI (q + 1))))) hD 13 rfl
      have hP := xa_P (g := tm_tw h0 (nI (q + 1))) hP 13 rfl (tm_tw_c)
      have hP : va_P D cls [(m0, .inr (5, [.int th, .int (nI n), .ref oA, .ref aA, .ref bB, .ref cC, .int tl, .int (nI k), .ref gA, .ref zA, .ref bA, .ref sR, .ref sD, .ref rA, .ref eC, .ref eA, .ref pA, .ref dA, .ref kA, .ref acA, .int nx])), (oA, .inl (cI, 24, .inl Po)), (aA, .inl (cI, 24, .inl Pa)), (bB, .inl (cI, 24, .inl Pb)), (cC, .inl (cI, 24, .inl Pc)), (gA, .inl (cI, 1600, .inl G)), (zA, .inl (cZ, 400, .inl O)), (bA, .inl (cI, 25, .inl B)), (sR, .inl (cI, 8, .inl sr)), (sD, .inl (cI, 32, .inl sd)), (rA, .inl (cI, 16, .inl (tm_jn 8 R0 R1))), (eC, .inl (cI, 128, .inl (tm_jn 64 C0 C1))), (eA, .inl (cI, 2, .inl (tm_tw e0 e1))), (pA, .inl (cI, 2, .inl (tm_tw h0 (nI (q + 1))))), (dA, .inl (cI, 2, .inl (tm_tw d0 (d1 + 1)))), (kA, .inl (cI, 2, .inl (tm_tw (nI k0) (nI k1)))), (acA, .inl (cI, 240, .inl (tm_jn 120 A0 A1)))] H := hP
      have hD : va_D A [(m0, .inr (5, [.int th, .int (nI n), .ref oA, .ref aA, .ref bB, .ref cC, .int tl, .int (nI k), .ref gA, .ref zA, .ref bA, .ref sR, .ref sD, .ref rA, .ref eC, .ref eA, .ref pA, .ref dA, .ref kA, .ref acA, .int nx])), (oA, .inl (cI, 24, .inl Po)), (aA, .inl (cI, 24, .inl Pa)), (bB, .inl (cI, 24, .inl Pb)), (cC, .inl (cI, 24, .inl Pc)), (gA, .inl (cI, 1600, .inl G)), (zA, .inl (cZ, 400, .inl O)), (bA, .inl (cI, 25, .inl B)), (sR, .inl (cI, 8, .inl sr)), (sD, .inl (cI, 32, .inl sd)), (rA, .inl (cI, 16, .inl (tm_jn 8 R0 R1))), (eC, .inl (cI, 128, .inl (tm_jn 64 C0 C1))), (eA, .inl (cI, 2, .inl (tm_tw e0 e1))), (pA, .inl (cI, 2, .inl (tm_tw h0 (nI (q + 1))))), (dA, .inl (cI, 2, .inl (tm_tw d0 (d1 + 1)))), (kA, .inl (cI, 2, .inl (tm_tw (nI k0) (nI k1)))), (acA, .inl (cI, 240, .inl (tm_jn 120 A0 A1)))] := hD
      refine lv_iload_n hx hb d_Mo_target_193 rfl (lv_at hl 6 rfl) ?_
      refine lv_iconst (v := 5) hx hb d_Mo_target_194 (by decide) ?_
      refine lv_icmp_ge (tgt := 226) hx hb d_Mo_target_195 rfl (fun _ => ?_) (fun hz9 => absurd (nI_le (a := 5) (b := v) (by omega) (by omega)) hz9)
      refine lv_iload_n hx hb d_Mo_target_226 rfl (lv_at hl 6 rfl) ?_
      refine lv_iconst (v := 5) hx hb d_Mo_target_227 (by decide) ?_
      refine lv_icmp_ne (tgt := 251) hx hb d_Mo_target_228 rfl (fun _ => ?_) (fun hz9 => absurd hz9 (ee5))
      refine lv_iload_n hx hb d_Mo_target_251 rfl (lv_at hl 6 rfl) ?_
      refine lv_bipush (v := 6) hx hb d_Mo_target_252 (by decide) ?_
      refine lv_icmp_ne (tgt := 278) hx hb d_Mo_target_254 rfl (fun _ => ?_) (fun hz9 => absurd hz9 (ee6))
      refine lv_iload_n hx hb d_Mo_target_278 rfl (lv_at hl 6 rfl) ?_
      refine lv_bipush (v := 7) hx hb d_Mo_target_279 (by decide) ?_
      refine lv_icmp_eq (tgt := 290) hx hb d_Mo_target_281 rfl (fun hz9 => absurd hz9 (ee7)) (fun _ => ?_)
      refine lv_iload_n hx hb d_Mo_target_284 rfl (lv_at hl 6 rfl) ?_
      refine lv_bipush (v := 8) hx hb d_Mo_target_285 (by decide) ?_
      refine lv_icmp_ne (tgt := 315) hx hb d_Mo_target_287 rfl (fun _ => ?_) (fun hz9 => absurd hz9 (ee8))
      refine lv_aload_n hx hb d_Mo_target_315 rfl (lv_at hl 8 rfl) ?_
      refine va_get (D := D) (ci := 5) (v := .ref rA) (C := R_Mo) (T := F_Mo) (N := 21) hx hb hg f_Mo hown hK.1 hP 0 rfl rfl 13 (by decide) (hg _ q576) (fun _ h9 => h9) rfl d_Mo_target_316 ?_
      refine lv_bipush (v := 8) hx hb d_Mo_target_319 (by decide) ?_
      refine lv_iconst (v := 0) hx hb d_Mo_target_321 (by decide) ?_
      refine xa_st hx hb hK hP hD hS 10 0 rfl rfl (kx := 8) (rfl) (by decide) (by decide) d_Mo_target_322 (fun H locs hP hD hS => ?_)
      have hP : va_P D cls [(m0, .inr (5, [.int th, .int (nI n), .ref oA, .ref aA, .ref bB, .ref cC, .int tl, .int (nI k), .ref gA, .ref zA, .ref bA, .ref sR, .ref sD, .ref rA, .ref eC, .ref eA, .ref pA, .ref dA, .ref kA, .ref acA, .int nx])), (oA, .inl (cI, 24, .inl Po)), (aA, .inl (cI, 24, .inl Pa)), (bB, .inl (cI, 24, .inl Pb)), (cC, .inl (cI, 24, .inl Pc)), (gA, .inl (cI, 1600, .inl G)), (zA, .inl (cZ, 400, .inl O)), (bA, .inl (cI, 25, .inl B)), (sR, .inl (cI, 8, .inl sr)), (sD, .inl (cI, 32, .inl sd)), (rA, .inl (cI, 16, .inl (upd (tm_jn 8 R0 R1) 8 0))), (eC, .inl (cI, 128, .inl (tm_jn 64 C0 C1))), (eA, .inl (cI, 2, .inl (tm_tw e0 e1))), (pA, .inl (cI, 2, .inl (tm_tw h0 (nI (q + 1))))), (dA, .inl (cI, 2, .inl (tm_tw d0 (d1 + 1)))), (kA, .inl (cI, 2, .inl (tm_tw (nI k0) (nI k1)))), (acA, .inl (cI, 240, .inl (tm_jn 120 A0 A1)))] H := hP
      have hD : va_D A [(m0, .inr (5, [.int th, .int (nI n), .ref oA, .ref aA, .ref bB, .ref cC, .int tl, .int (nI k), .ref gA, .ref zA, .ref bA, .ref sR, .ref sD, .ref rA, .ref eC, .ref eA, .ref pA, .ref dA, .ref kA, .ref acA, .int nx])), (oA, .inl (cI, 24, .inl Po)), (aA, .inl (cI, 24, .inl Pa)), (bB, .inl (cI, 24, .inl Pb)), (cC, .inl (cI, 24, .inl Pc)), (gA, .inl (cI, 1600, .inl G)), (zA, .inl (cZ, 400, .inl O)), (bA, .inl (cI, 25, .inl B)), (sR, .inl (cI, 8, .inl sr)), (sD, .inl (cI, 32, .inl sd)), (rA, .inl (cI, 16, .inl (upd (tm_jn 8 R0 R1) 8 0))), (eC, .inl (cI, 128, .inl (tm_jn 64 C0 C1))), (eA, .inl (cI, 2, .inl (tm_tw e0 e1))), (pA, .inl (cI, 2, .inl (tm_tw h0 (nI (q + 1))))), (dA, .inl (cI, 2, .inl (tm_tw d0 (d1 + 1)))), (kA, .inl (cI, 2, .inl (tm_tw (nI k0) (nI k1)))), (acA, .inl (cI, 240, .inl (tm_jn 120 A0 A1)))] := hD
      rw [show 8 = 8 + 0 by omega, tm_jn_uh] at hP hD
      have hP : va_P D cls [(m0, .inr (5, [.int th, .int (nI n), .ref oA, .ref aA, .ref bB, .ref cC, .int tl, .int (nI k), .ref gA, .ref zA, .ref bA, .ref sR, .ref sD, .ref rA, .ref eC, .ref eA, .ref pA, .ref dA, .ref kA, .ref acA, .int nx])), (oA, .inl (cI, 24, .inl Po)), (aA, .inl (cI, 24, .inl Pa)), (bB, .inl (cI, 24, .inl Pb)), (cC, .inl (cI, 24, .inl Pc)), (gA, .inl (cI, 1600, .inl G)), (zA, .inl (cZ, 400, .inl O)), (bA, .inl (cI, 25, .inl B)), (sR, .inl (cI, 8, .inl sr)), (sD, .inl (cI, 32, .inl sd)), (rA, .inl (cI, 16, .inl (tm_jn 8 R0 (upd R1 0 0)))), (eC, .inl (cI, 128, .inl (tm_jn 64 C0 C1))), (eA, .inl (cI, 2, .inl (tm_tw e0 e1))), (pA, .inl (cI, 2, .inl (tm_tw h0 (nI (q + 1))))), (dA, .inl (cI, 2, .inl (tm_tw d0 (d1 + 1)))), (kA, .inl (cI, 2, .inl (tm_tw (nI k0) (nI k1)))), (acA, .inl (cI, 240, .inl (tm_jn 120 A0 A1)))] H := hP
      have hD : va_D A [(m0, .inr (5, [.int th, .int (nI n), .ref oA, .ref aA, .ref bB, .ref cC, .int tl, .int (nI k), .ref gA, .ref zA, .ref bA, .ref sR, .ref sD, .ref rA, .ref eC, .ref eA, .ref pA, .ref dA, .ref kA, .ref acA, .int nx])), (oA, .inl (cI, 24, .inl Po)), (aA, .inl (cI, 24, .inl Pa)), (bB, .inl (cI, 24, .inl Pb)), (cC, .inl (cI, 24, .inl Pc)), (gA, .inl (cI, 1600, .inl G)), (zA, .inl (cZ, 400, .inl O)), (bA, .inl (cI, 25, .inl B)), (sR, .inl (cI, 8, .inl sr)), (sD, .inl (cI, 32, .inl sd)), (rA, .inl (cI, 16, .inl (tm_jn 8 R0 (upd R1 0 0)))), (eC, .inl (cI, 128, .inl (tm_jn 64 C0 C1))), (eA, .inl (cI, 2, .inl (tm_tw e0 e1))), (pA, .inl (cI, 2, .inl (tm_tw h0 (nI (q + 1))))), (dA, .inl (cI, 2, .inl (tm_tw d0 (d1 + 1)))), (kA, .inl (cI, 2, .inl (tm_tw (nI k0) (nI k1)))), (acA, .inl (cI, 240, .inl (tm_jn 120 A0 A1)))] := hD
      have ew1_1 : (upd R1 0 0) = ((tm_ts G q (R1, C1, A1, k1, nI q, d1, e1, x1)).1) := by rw [tm_upd0 hR0]; simp [tm_ts, hv, f13, ee0, ee5, ee6, ee7, ee8, ee9, ee10, ee11, ee12, ee13, f7, f9, f4]
      have ew1 : tm_jn 8 R0 (upd R1 0 0) = tm_jn 8 R0 ((tm_ts G q (R1, C1, A1, k1, nI q, d1, e1, x1)).1) := congr (congrArg (tm_jn 8) rfl) ew1_1
      have ew2_1 : C1 = ((tm_ts G q (R1, C1, A1, k1, nI q, d1, e1, x1)).2.1) := by first | rfl | (simp [tm_ts, hv, f13, ee0, ee5, ee6, ee7, ee8, ee9, ee10, ee11, ee12, ee13, f7, f9, f4, hab]; done)
      have ew2 : tm_jn 64 C0 C1 = tm_jn 64 C0 ((tm_ts G q (R1, C1, A1, k1, nI q, d1, e1, x1)).2.1) := congr (congrArg (tm_jn 64) rfl) ew2_1
      have ew3_1 : e1 = ((tm_ts G q (R1, C1, A1, k1, nI q, d1, e1, x1)).2.2.2.2.2.2.1) := by first | rfl | (simp [tm_ts, hv, f13, ee0, ee5, ee6, ee7, ee8, ee9, ee10, ee11, ee12, ee13, f7, f9, f4, hab]; done)
      have ew3 : tm_tw e0 e1 = tm_tw e0 ((tm_ts G q (R1, C1, A1, k1, nI q, d1, e1, x1)).2.2.2.2.2.2.1) := congr (congrArg (tm_tw) rfl) ew3_1
      have ew4_1 : (nI (q + 1)) = ((tm_ts G q (R1, C1, A1, k1, nI q, d1, e1, x1)).2.2.2.2.1) := by simp [tm_ts, tm_tb, hv, ha, hbb, hc_a, hc_b, f13, ee0, ee5, ee6, ee7, ee8, ee9, ee10, ee11, ee12, ee13, f7, f9, f4, hab]
      have ew4 : tm_tw h0 (nI (q + 1)) = tm_tw h0 ((tm_ts G q (R1, C1, A1, k1, nI q, d1, e1, x1)).2.2.2.2.1) := congr (congrArg (tm_tw) rfl) ew4_1
      have ew5_1 : (d1 + 1) = ((tm_ts G q (R1, C1, A1, k1, nI q, d1, e1, x1)).2.2.2.2.2.1) := by first | rfl | (simp [tm_ts, hv, f13, ee0, ee5, ee6, ee7, ee8, ee9, ee10, ee11, ee12, ee13, f7, f9, f4, hab]; done)
      have ew5 : tm_tw d0 (d1 + 1) = tm_tw d0 ((tm_ts G q (R1, C1, A1, k1, nI q, d1, e1, x1)).2.2.2.2.2.1) := congr (congrArg (tm_tw) rfl) ew5_1
      have ew6_1 : (nI k1) = (nI (tm_ts G q (R1, C1, A1, k1, nI q, d1, e1, x1)).2.2.2.1) := congrArg nI (by first | (simp [tm_ts, hv, f13, ee0, ee5, ee6, ee7, ee8, ee9, ee10, ee11, ee12, ee13, f7, f9, f4, hab]; done) | (simp [tm_ts, hv, f13, ee0, ee5, ee6, ee7, ee8, ee9, ee10, ee11, ee12, ee13, f7, f9, f4, hab]; omega) | omega)
      have ew6 : tm_tw (nI k0) (nI k1) = tm_tw (nI k0) (nI (tm_ts G q (R1, C1, A1, k1, nI q, d1, e1, x1)).2.2.2.1) := congr (congrArg (tm_tw) rfl) ew6_1
      have ew7_1 : A1 = ((tm_ts G q (R1, C1, A1, k1, nI q, d1, e1, x1)).2.2.1) := by first | rfl | (simp [tm_ts, hv, f13, ee0, ee5, ee6, ee7, ee8, ee9, ee10, ee11, ee12, ee13, f7, f9, f4, hab]; done)
      have ew7 : tm_jn 120 A0 A1 = tm_jn 120 A0 ((tm_ts G q (R1, C1, A1, k1, nI q, d1, e1, x1)).2.2.1) := congr (congrArg (tm_jn 120) rfl) ew7_1
      have hP : va_P D cls [(m0, .inr (5, [.int th, .int (nI n), .ref oA, .ref aA, .ref bB, .ref cC, .int tl, .int (nI k), .ref gA, .ref zA, .ref bA, .ref sR, .ref sD, .ref rA, .ref eC, .ref eA, .ref pA, .ref dA, .ref kA, .ref acA, .int nx])), (oA, .inl (cI, 24, .inl Po)), (aA, .inl (cI, 24, .inl Pa)), (bB, .inl (cI, 24, .inl Pb)), (cC, .inl (cI, 24, .inl Pc)), (gA, .inl (cI, 1600, .inl G)), (zA, .inl (cZ, 400, .inl O)), (bA, .inl (cI, 25, .inl B)), (sR, .inl (cI, 8, .inl sr)), (sD, .inl (cI, 32, .inl sd)), (rA, .inl (cI, 16, .inl (tm_jn 8 R0 ((tm_ts G q (R1, C1, A1, k1, nI q, d1, e1, x1)).1)))), (eC, .inl (cI, 128, .inl (tm_jn 64 C0 ((tm_ts G q (R1, C1, A1, k1, nI q, d1, e1, x1)).2.1)))), (eA, .inl (cI, 2, .inl (tm_tw e0 ((tm_ts G q (R1, C1, A1, k1, nI q, d1, e1, x1)).2.2.2.2.2.2.1)))), (pA, .inl (cI, 2, .inl (tm_tw h0 ((tm_ts G q (R1, C1, A1, k1, nI q, d1, e1, x1)).2.2.2.2.1)))), (dA, .inl (cI, 2, .inl (tm_tw d0 ((tm_ts G q (R1, C1, A1, k1, nI q, d1, e1, x1)).2.2.2.2.2.1)))), (kA, .inl (cI, 2, .inl (tm_tw (nI k0) (nI (tm_ts G q (R1, C1, A1, k1, nI q, d1, e1, x1)).2.2.2.1)))), (acA, .inl (cI, 240, .inl (tm_jn 120 A0 ((tm_ts G q (R1, C1, A1, k1, nI q, d1, e1, x1)).2.2.1))))] H := by rw [← ew1, ← ew2, ← ew3, ← ew4, ← ew5, ← ew6, ← ew7]; exact hP
      have hD : va_D A [(m0, .inr (5, [.int th, .int (nI n), .ref oA, .ref aA, .ref bB, .ref cC, .int tl, .int (nI k), .ref gA, .ref zA, .ref bA, .ref sR, .ref sD, .ref rA, .ref eC, .ref eA, .ref pA, .ref dA, .ref kA, .ref acA, .int nx])), (oA, .inl (cI, 24, .inl Po)), (aA, .inl (cI, 24, .inl Pa)), (bB, .inl (cI, 24, .inl Pb)), (cC, .inl (cI, 24, .inl Pc)), (gA, .inl (cI, 1600, .inl G)), (zA, .inl (cZ, 400, .inl O)), (bA, .inl (cI, 25, .inl B)), (sR, .inl (cI, 8, .inl sr)), (sD, .inl (cI, 32, .inl sd)), (rA, .inl (cI, 16, .inl (tm_jn 8 R0 ((tm_ts G q (R1, C1, A1, k1, nI q, d1, e1, x1)).1)))), (eC, .inl (cI, 128, .inl (tm_jn 64 C0 ((tm_ts G q (R1, C1, A1, k1, nI q, d1, e1, x1)).2.1)))), (eA, .inl (cI, 2, .inl (tm_tw e0 ((tm_ts G q (R1, C1, A1, k1, nI q, d1, e1, x1)).2.2.2.2.2.2.1)))), (pA, .inl (cI, 2, .inl (tm_tw h0 ((tm_ts G q (R1, C1, A1, k1, nI q, d1, e1, x1)).2.2.2.2.1)))), (dA, .inl (cI, 2, .inl (tm_tw d0 ((tm_ts G q (R1, C1, A1, k1, nI q, d1, e1, x1)).2.2.2.2.2.1)))), (kA, .inl (cI, 2, .inl (tm_tw (nI k0) (nI (tm_ts G q (R1, C1, A1, k1, nI q, d1, e1, x1)).2.2.2.1)))), (acA, .inl (cI, 240, .inl (tm_jn 120 A0 ((tm_ts G q (R1, C1, A1, k1, nI q, d1, e1, x1)).2.2.1))))] := by rw [← ew1, ← ew2, ← ew3, ← ew4, ← ew5, ← ew6, ← ew7]; exact hD
      exact W.vret hx hb hr (fun t9 ht9 hW9 => ⟨⟨(), rfl, trivial, by rw [ht9]; exact hP, hD⟩, hS.F ht9⟩) hS.2.2 d_Mo_target_323
    · refine lv_iconst (v := 1) hx hb d_Mo_target_156 (by decide) ?_
      refine lv_goto (tgt := 161) hx hb d_Mo_target_157 rfl ?_
      refine lv_istore hx hb d_Mo_target_161 hl (by decide) rfl (fun ls hl => ?_)
      have hl : lv_has ls 9 [(8, .int 1), (7, .int (R1 b)), (6, .int (R1 a)), (5, .int (G (4 * q + 3))), (4, .int (nI b)), (3, .int (nI a)), (2, .int (nI v)), (1, .int (nI q)), (0, .ref m0)] := hl
      refine lv_aload_n hx hb d_Mo_target_163 rfl (lv_at hl 8 rfl) ?_
      refine va_get (D := D) (ci := 5) (v := .ref pA) (C := R_Mo) (T := F_Mo) (N := 21) hx hb hg f_Mo hown hK.1 hP 0 rfl rfl 16 (by decide) (hg _ q579) (fun _ h9 => h9) rfl d_Mo_target_164 ?_
      refine lv_iconst (v := 1) hx hb d_Mo_target_167 (by decide) ?_
      refine lv_iload hx hb d_Mo_target_168 (lv_at hl 0 rfl) ?_
      refine lv_if_eq (tgt := 178) hx hb d_Mo_target_170 rfl (fun hz9 => absurd hz9 (by decide)) (fun _ => ?_)
      refine lv_iload hx hb d_Mo_target_173 (lv_at hl 3 rfl) ?_
      refine lv_goto (tgt := 192) hx hb d_Mo_target_175 rfl ?_
      refine xa_st hx hb hK hP hD hS 13 0 rfl rfl (kx := 1) (rfl) (by decide) (by decide) d_Mo_target_192 (fun H locs hP hD hS => ?_)
      have hP : va_P D cls [(m0, .inr (5, [.int th, .int (nI n), .ref oA, .ref aA, .ref bB, .ref cC, .int tl, .int (nI k), .ref gA, .ref zA, .ref bA, .ref sR, .ref sD, .ref rA, .ref eC, .ref eA, .ref pA, .ref dA, .ref kA, .ref acA, .int nx])), (oA, .inl (cI, 24, .inl Po)), (aA, .inl (cI, 24, .inl Pa)), (bB, .inl (cI, 24, .inl Pb)), (cC, .inl (cI, 24, .inl Pc)), (gA, .inl (cI, 1600, .inl G)), (zA, .inl (cZ, 400, .inl O)), (bA, .inl (cI, 25, .inl B)), (sR, .inl (cI, 8, .inl sr)), (sD, .inl (cI, 32, .inl sd)), (rA, .inl (cI, 16, .inl (tm_jn 8 R0 R1))), (eC, .inl (cI, 128, .inl (tm_jn 64 C0 C1))), (eA, .inl (cI, 2, .inl (tm_tw e0 e1))), (pA, .inl (cI, 2, .inl (upd (tm_tw h0 (nI q)) 1 (G (4 * q + 3))))), (dA, .inl (cI, 2, .inl (tm_tw d0 (d1 + 1)))), (kA, .inl (cI, 2, .inl (tm_tw (nI k0) (nI k1)))), (acA, .inl (cI, 240, .inl (tm_jn 120 A0 A1)))] H := hP
      have hD : va_D A [(m0, .inr (5, [.int th, .int (nI n), .ref oA, .ref aA, .ref bB, .ref cC, .int tl, .int (nI k), .ref gA, .ref zA, .ref bA, .ref sR, .ref sD, .ref rA, .ref eC, .ref eA, .ref pA, .ref dA, .ref kA, .ref acA, .int nx])), (oA, .inl (cI, 24, .inl Po)), (aA, .inl (cI, 24, .inl Pa)), (bB, .inl (cI, 24, .inl Pb)), (cC, .inl (cI, 24, .inl Pc)), (gA, .inl (cI, 1600, .inl G)), (zA, .inl (cZ, 400, .inl O)), (bA, .inl (cI, 25, .inl B)), (sR, .inl (cI, 8, .inl sr)), (sD, .inl (cI, 32, .inl sd)), (rA, .inl (cI, 16, .inl (tm_jn 8 R0 R1))), (eC, .inl (cI, 128, .inl (tm_jn 64 C0 C1))), (eA, .inl (cI, 2, .inl (tm_tw e0 e1))), (pA, .inl (cI, 2, .inl (upd (tm_tw h0 (nI q)) 1 (G (4 * q + 3))))), (dA, .inl (cI, 2, .inl (tm_tw d0 (d1 + 1)))), (kA, .inl (cI, 2, .inl (tm_tw (nI k0) (nI k1)))), (acA, .inl (cI, 240, .inl (tm_jn 120 A0 A1)))] := hD
      have hD := xa_D (e2 := .inl (cI, 2, .inl (tm_tw h0 (G (4 * q + 3))))) hD 13 rfl
      have hP := xa_P (g := tm_tw h0 (G (4 * q + 3))) hP 13 rfl (tm_tw_c)
      have hP : va_P D cls [(m0, .inr (5, [.int th, .int (nI n), .ref oA, .ref aA, .ref bB, .ref cC, .int tl, .int (nI k), .ref gA, .ref zA, .ref bA, .ref sR, .ref sD, .ref rA, .ref eC, .ref eA, .ref pA, .ref dA, .ref kA, .ref acA, .int nx])), (oA, .inl (cI, 24, .inl Po)), (aA, .inl (cI, 24, .inl Pa)), (bB, .inl (cI, 24, .inl Pb)), (cC, .inl (cI, 24, .inl Pc)), (gA, .inl (cI, 1600, .inl G)), (zA, .inl (cZ, 400, .inl O)), (bA, .inl (cI, 25, .inl B)), (sR, .inl (cI, 8, .inl sr)), (sD, .inl (cI, 32, .inl sd)), (rA, .inl (cI, 16, .inl (tm_jn 8 R0 R1))), (eC, .inl (cI, 128, .inl (tm_jn 64 C0 C1))), (eA, .inl (cI, 2, .inl (tm_tw e0 e1))), (pA, .inl (cI, 2, .inl (tm_tw h0 (G (4 * q + 3))))), (dA, .inl (cI, 2, .inl (tm_tw d0 (d1 + 1)))), (kA, .inl (cI, 2, .inl (tm_tw (nI k0) (nI k1)))), (acA, .inl (cI, 240, .inl (tm_jn 120 A0 A1)))] H := hP
      have hD : va_D A [(m0, .inr (5, [.int th, .int (nI n), .ref oA, .ref aA, .ref bB, .ref cC, .int tl, .int (nI k), .ref gA, .ref zA, .ref bA, .ref sR, .ref sD, .ref rA, .ref eC, .ref eA, .ref pA, .ref dA, .ref kA, .ref acA, .int nx])), (oA, .inl (cI, 24, .inl Po)), (aA, .inl (cI, 24, .inl Pa)), (bB, .inl (cI, 24, .inl Pb)), (cC, .inl (cI, 24, .inl Pc)), (gA, .inl (cI, 1600, .inl G)), (zA, .inl (cZ, 400, .inl O)), (bA, .inl (cI, 25, .inl B)), (sR, .inl (cI, 8, .inl sr)), (sD, .inl (cI, 32, .inl sd)), (rA, .inl (cI, 16, .inl (tm_jn 8 R0 R1))), (eC, .inl (cI, 128, .inl (tm_jn 64 C0 C1))), (eA, .inl (cI, 2, .inl (tm_tw e0 e1))), (pA, .inl (cI, 2, .inl (tm_tw h0 (G (4 * q + 3))))), (dA, .inl (cI, 2, .inl (tm_tw d0 (d1 + 1)))), (kA, .inl (cI, 2, .inl (tm_tw (nI k0) (nI k1)))), (acA, .inl (cI, 240, .inl (tm_jn 120 A0 A1)))] := hD
      refine lv_iload_n hx hb d_Mo_target_193 rfl (lv_at hl 6 rfl) ?_
      refine lv_iconst (v := 5) hx hb d_Mo_target_194 (by decide) ?_
      refine lv_icmp_ge (tgt := 226) hx hb d_Mo_target_195 rfl (fun _ => ?_) (fun hz9 => absurd (nI_le (a := 5) (b := v) (by omega) (by omega)) hz9)
      refine lv_iload_n hx hb d_Mo_target_226 rfl (lv_at hl 6 rfl) ?_
      refine lv_iconst (v := 5) hx hb d_Mo_target_227 (by decide) ?_
      refine lv_icmp_ne (tgt := 251) hx hb d_Mo_target_228 rfl (fun _ => ?_) (fun hz9 => absurd hz9 (ee5))
      refine lv_iload_n hx hb d_Mo_target_251 rfl (lv_at hl 6 rfl) ?_
      refine lv_bipush (v := 6) hx hb d_Mo_target_252 (by decide) ?_
      refine lv_icmp_ne (tgt := 278) hx hb d_Mo_target_254 rfl (fun _ => ?_) (fun hz9 => absurd hz9 (ee6))
      refine lv_iload_n hx hb d_Mo_target_278 rfl (lv_at hl 6 rfl) ?_
      refine lv_bipush (v := 7) hx hb d_Mo_target_279 (by decide) ?_
      refine lv_icmp_eq (tgt := 290) hx hb d_Mo_target_281 rfl (fun hz9 => absurd hz9 (ee7)) (fun _ => ?_)
      refine lv_iload_n hx hb d_Mo_target_284 rfl (lv_at hl 6 rfl) ?_
      refine lv_bipush (v := 8) hx hb d_Mo_target_285 (by decide) ?_
      refine lv_icmp_ne (tgt := 315) hx hb d_Mo_target_287 rfl (fun _ => ?_) (fun hz9 => absurd hz9 (ee8))
      refine lv_aload_n hx hb d_Mo_target_315 rfl (lv_at hl 8 rfl) ?_
      refine va_get (D := D) (ci := 5) (v := .ref rA) (C := R_Mo) (T := F_Mo) (N := 21) hx hb hg f_Mo hown hK.1 hP 0 rfl rfl 13 (by decide) (hg _ q576) (fun _ h9 => h9) rfl d_Mo_target_316 ?_
      refine lv_bipush (v := 8) hx hb d_Mo_target_319 (by decide) ?_
      refine lv_iconst (v := 0) hx hb d_Mo_target_321 (by decide) ?_
      refine xa_st hx hb hK hP hD hS 10 0 rfl rfl (kx := 8) (rfl) (by decide) (by decide) d_Mo_target_322 (fun H locs hP hD hS => ?_)
      have hP : va_P D cls [(m0, .inr (5, [.int th, .int (nI n), .ref oA, .ref aA, .ref bB, .ref cC, .int tl, .int (nI k), .ref gA, .ref zA, .ref bA, .ref sR, .ref sD, .ref rA, .ref eC, .ref eA, .ref pA, .ref dA, .ref kA, .ref acA, .int nx])), (oA, .inl (cI, 24, .inl Po)), (aA, .inl (cI, 24, .inl Pa)), (bB, .inl (cI, 24, .inl Pb)), (cC, .inl (cI, 24, .inl Pc)), (gA, .inl (cI, 1600, .inl G)), (zA, .inl (cZ, 400, .inl O)), (bA, .inl (cI, 25, .inl B)), (sR, .inl (cI, 8, .inl sr)), (sD, .inl (cI, 32, .inl sd)), (rA, .inl (cI, 16, .inl (upd (tm_jn 8 R0 R1) 8 0))), (eC, .inl (cI, 128, .inl (tm_jn 64 C0 C1))), (eA, .inl (cI, 2, .inl (tm_tw e0 e1))), (pA, .inl (cI, 2, .inl (tm_tw h0 (G (4 * q + 3))))), (dA, .inl (cI, 2, .inl (tm_tw d0 (d1 + 1)))), (kA, .inl (cI, 2, .inl (tm_tw (nI k0) (nI k1)))), (acA, .inl (cI, 240, .inl (tm_jn 120 A0 A1)))] H := hP
      have hD : va_D A [(m0, .inr (5, [.int th, .int (nI n), .ref oA, .ref aA, .ref bB, .ref cC, .int tl, .int (nI k), .ref gA, .ref zA, .ref bA, .ref sR, .ref sD, .ref rA, .ref eC, .ref eA, .ref pA, .ref dA, .ref kA, .ref acA, .int nx])), (oA, .inl (cI, 24, .inl Po)), (aA, .inl (cI, 24, .inl Pa)), (bB, .inl (cI, 24, .inl Pb)), (cC, .inl (cI, 24, .inl Pc)), (gA, .inl (cI, 1600, .inl G)), (zA, .inl (cZ, 400, .inl O)), (bA, .inl (cI, 25, .inl B)), (sR, .inl (cI, 8, .inl sr)), (sD, .inl (cI, 32, .inl sd)), (rA, .inl (cI, 16, .inl (upd (tm_jn 8 R0 R1) 8 0))), (eC, .inl (cI, 128, .inl (tm_jn 64 C0 C1))), (eA, .inl (cI, 2, .inl (tm_tw e0 e1))), (pA, .inl (cI, 2, .inl (tm_tw h0 (G (4 * q + 3))))), (dA, .inl (cI, 2, .inl (tm_tw d0 (d1 + 1)))), (kA, .inl (cI, 2, .inl (tm_tw (nI k0) (nI k1)))), (acA, .inl (cI, 240, .inl (tm_jn 120 A0 A1)))] := hD
      rw [show 8 = 8 + 0 by omega, tm_jn_uh] at hP hD
      have hP : va_P D cls [(m0, .inr (5, [.int th, .int (nI n), .ref oA, .ref aA, .ref bB, .ref cC, .int tl, .int (nI k), .ref gA, .ref zA, .ref bA, .ref sR, .ref sD, .ref rA, .ref eC, .ref eA, .ref pA, .ref dA, .ref kA, .ref acA, .int nx])), (oA, .inl (cI, 24, .inl Po)), (aA, .inl (cI, 24, .inl Pa)), (bB, .inl (cI, 24, .inl Pb)), (cC, .inl (cI, 24, .inl Pc)), (gA, .inl (cI, 1600, .inl G)), (zA, .inl (cZ, 400, .inl O)), (bA, .inl (cI, 25, .inl B)), (sR, .inl (cI, 8, .inl sr)), (sD, .inl (cI, 32, .inl sd)), (rA, .inl (cI, 16, .inl (tm_jn 8 R0 (upd R1 0 0)))), (eC, .inl (cI, 128, .inl (tm_jn 64 C0 C1))), (eA, .inl (cI, 2, .inl (tm_tw e0 e1))), (pA, .inl (cI, 2, .inl (tm_tw h0 (G (4 * q + 3))))), (dA, .inl (cI, 2, .inl (tm_tw d0 (d1 + 1)))), (kA, .inl (cI, 2, .inl (tm_tw (nI k0) (nI k1)))), (acA, .inl (cI, 240, .inl (tm_jn 120 A0 A1)))] H := hP
      have hD : va_D A [(m0, .inr (5, [.int th, .int (nI n), .ref oA, .ref aA, .ref bB, .ref cC, .int tl, .int (nI k), .ref gA, .ref zA, .ref bA, .ref sR, .ref sD, .ref rA, .ref eC, .ref eA, .ref pA, .ref dA, .ref kA, .ref acA, .int nx])), (oA, .inl (cI, 24, .inl Po)), (aA, .inl (cI, 24, .inl Pa)), (bB, .inl (cI, 24, .inl Pb)), (cC, .inl (cI, 24, .inl Pc)), (gA, .inl (cI, 1600, .inl G)), (zA, .inl (cZ, 400, .inl O)), (bA, .inl (cI, 25, .inl B)), (sR, .inl (cI, 8, .inl sr)), (sD, .inl (cI, 32, .inl sd)), (rA, .inl (cI, 16, .inl (tm_jn 8 R0 (upd R1 0 0)))), (eC, .inl (cI, 128, .inl (tm_jn 64 C0 C1))), (eA, .inl (cI, 2, .inl (tm_tw e0 e1))), (pA, .inl (cI, 2, .inl (tm_tw h0 (G (4 * q + 3))))), (dA, .inl (cI, 2, .inl (tm_tw d0 (d1 + 1)))), (kA, .inl (cI, 2, .inl (tm_tw (nI k0) (nI k1)))), (acA, .inl (cI, 240, .inl (tm_jn 120 A0 A1)))] := hD
      have ew1_1 : (upd R1 0 0) = ((tm_ts G q (R1, C1, A1, k1, nI q, d1, e1, x1)).1) := by rw [tm_upd0 hR0]; simp [tm_ts, hv, f13, ee0, ee5, ee6, ee7, ee8, ee9, ee10, ee11, ee12, ee13, f7, f9, f4]
      have ew1 : tm_jn 8 R0 (upd R1 0 0) = tm_jn 8 R0 ((tm_ts G q (R1, C1, A1, k1, nI q, d1, e1, x1)).1) := congr (congrArg (tm_jn 8) rfl) ew1_1
      have ew2_1 : C1 = ((tm_ts G q (R1, C1, A1, k1, nI q, d1, e1, x1)).2.1) := by first | rfl | (simp [tm_ts, hv, f13, ee0, ee5, ee6, ee7, ee8, ee9, ee10, ee11, ee12, ee13, f7, f9, f4, hab]; done)
      have ew2 : tm_jn 64 C0 C1 = tm_jn 64 C0 ((tm_ts G q (R1, C1, A1, k1, nI q, d1, e1, x1)).2.1) := congr (congrArg (tm_jn 64) rfl) ew2_1
      have ew3_1 : e1 = ((tm_ts G q (R1, C1, A1, k1, nI q, d1, e1, x1)).2.2.2.2.2.2.1) := by first | rfl | (simp [tm_ts, hv, f13, ee0, ee5, ee6, ee7, ee8, ee9, ee10, ee11, ee12, ee13, f7, f9, f4, hab]; done)
      have ew3 : tm_tw e0 e1 = tm_tw e0 ((tm_ts G q (R1, C1, A1, k1, nI q, d1, e1, x1)).2.2.2.2.2.2.1) := congr (congrArg (tm_tw) rfl) ew3_1
      have ew4_1 : (G (4 * q + 3)) = ((tm_ts G q (R1, C1, A1, k1, nI q, d1, e1, x1)).2.2.2.2.1) := by simp [tm_ts, tm_tb, hv, ha, hbb, hc_a, hc_b, f13, ee0, ee5, ee6, ee7, ee8, ee9, ee10, ee11, ee12, ee13, f7, f9, f4, hab]
      have ew4 : tm_tw h0 (G (4 * q + 3)) = tm_tw h0 ((tm_ts G q (R1, C1, A1, k1, nI q, d1, e1, x1)).2.2.2.2.1) := congr (congrArg (tm_tw) rfl) ew4_1
      have ew5_1 : (d1 + 1) = ((tm_ts G q (R1, C1, A1, k1, nI q, d1, e1, x1)).2.2.2.2.2.1) := by first | rfl | (simp [tm_ts, hv, f13, ee0, ee5, ee6, ee7, ee8, ee9, ee10, ee11, ee12, ee13, f7, f9, f4, hab]; done)
      have ew5 : tm_tw d0 (d1 + 1) = tm_tw d0 ((tm_ts G q (R1, C1, A1, k1, nI q, d1, e1, x1)).2.2.2.2.2.1) := congr (congrArg (tm_tw) rfl) ew5_1
      have ew6_1 : (nI k1) = (nI (tm_ts G q (R1, C1, A1, k1, nI q, d1, e1, x1)).2.2.2.1) := congrArg nI (by first | (simp [tm_ts, hv, f13, ee0, ee5, ee6, ee7, ee8, ee9, ee10, ee11, ee12, ee13, f7, f9, f4, hab]; done) | (simp [tm_ts, hv, f13, ee0, ee5, ee6, ee7, ee8, ee9, ee10, ee11, ee12, ee13, f7, f9, f4, hab]; omega) | omega)
      have ew6 : tm_tw (nI k0) (nI k1) = tm_tw (nI k0) (nI (tm_ts G q (R1, C1, A1, k1, nI q, d1, e1, x1)).2.2.2.1) := congr (congrArg (tm_tw) rfl) ew6_1
      have ew7_1 : A1 = ((tm_ts G q (R1, C1, A1, k1, nI q, d1, e1, x1)).2.2.1) := by first | rfl | (simp [tm_ts, hv, f13, ee0, ee5, ee6, ee7, ee8, ee9, ee10, ee11, ee12, ee13, f7, f9, f4, hab]; done)
      have ew7 : tm_jn 120 A0 A1 = tm_jn 120 A0 ((tm_ts G q (R1, C1, A1, k1, nI q, d1, e1, x1)).2.2.1) := congr (congrArg (tm_jn 120) rfl) ew7_1
      have hP : va_P D cls [(m0, .inr (5, [.int th, .int (nI n), .ref oA, .ref aA, .ref bB, .ref cC, .int tl, .int (nI k), .ref gA, .ref zA, .ref bA, .ref sR, .ref sD, .ref rA, .ref eC, .ref eA, .ref pA, .ref dA, .ref kA, .ref acA, .int nx])), (oA, .inl (cI, 24, .inl Po)), (aA, .inl (cI, 24, .inl Pa)), (bB, .inl (cI, 24, .inl Pb)), (cC, .inl (cI, 24, .inl Pc)), (gA, .inl (cI, 1600, .inl G)), (zA, .inl (cZ, 400, .inl O)), (bA, .inl (cI, 25, .inl B)), (sR, .inl (cI, 8, .inl sr)), (sD, .inl (cI, 32, .inl sd)), (rA, .inl (cI, 16, .inl (tm_jn 8 R0 ((tm_ts G q (R1, C1, A1, k1, nI q, d1, e1, x1)).1)))), (eC, .inl (cI, 128, .inl (tm_jn 64 C0 ((tm_ts G q (R1, C1, A1, k1, nI q, d1, e1, x1)).2.1)))), (eA, .inl (cI, 2, .inl (tm_tw e0 ((tm_ts G q (R1, C1, A1, k1, nI q, d1, e1, x1)).2.2.2.2.2.2.1)))), (pA, .inl (cI, 2, .inl (tm_tw h0 ((tm_ts G q (R1, C1, A1, k1, nI q, d1, e1, x1)).2.2.2.2.1)))), (dA, .inl (cI, 2, .inl (tm_tw d0 ((tm_ts G q (R1, C1, A1, k1, nI q, d1, e1, x1)).2.2.2.2.2.1)))), (kA, .inl (cI, 2, .inl (tm_tw (nI k0) (nI (tm_ts G q (R1, C1, A1, k1, nI q, d1, e1, x1)).2.2.2.1)))), (acA, .inl (cI, 240, .inl (tm_jn 120 A0 ((tm_ts G q (R1, C1, A1, k1, nI q, d1, e1, x1)).2.2.1))))] H := by rw [← ew1, ← ew2, ← ew3, ← ew4, ← ew5, ← ew6, ← ew7]; exact hP
      have hD : va_D A [(m0, .inr (5, [.int th, .int (nI n), .ref oA, .ref aA, .ref bB, .ref cC, .int tl, .int (nI k), .ref gA, .ref zA, .ref bA, .ref sR, .ref sD, .ref rA, .ref eC, .ref eA, .ref pA, .ref dA, .ref kA, .ref acA, .int nx])), (oA, .inl (cI, 24, .inl Po)), (aA, .inl (cI, 24, .inl Pa)), (bB, .inl (cI, 24, .inl Pb)), (cC, .inl (cI, 24, .inl Pc)), (gA, .inl (cI, 1600, .inl G)), (zA, .inl (cZ, 400, .inl O)), (bA, .inl (cI, 25, .inl B)), (sR, .inl (cI, 8, .inl sr)), (sD, .inl (cI, 32, .inl sd)), (rA, .inl (cI, 16, .inl (tm_jn 8 R0 ((tm_ts G q (R1, C1, A1, k1, nI q, d1, e1, x1)).1)))), (eC, .inl (cI, 128, .inl (tm_jn 64 C0 ((tm_ts G q (R1, C1, A1, k1, nI q, d1, e1, x1)).2.1)))), (eA, .inl (cI, 2, .inl (tm_tw e0 ((tm_ts G q (R1, C1, A1, k1, nI q, d1, e1, x1)).2.2.2.2.2.2.1)))), (pA, .inl (cI, 2, .inl (tm_tw h0 ((tm_ts G q (R1, C1, A1, k1, nI q, d1, e1, x1)).2.2.2.2.1)))), (dA, .inl (cI, 2, .inl (tm_tw d0 ((tm_ts G q (R1, C1, A1, k1, nI q, d1, e1, x1)).2.2.2.2.2.1)))), (kA, .inl (cI, 2, .inl (tm_tw (nI k0) (nI (tm_ts G q (R1, C1, A1, k1, nI q, d1, e1, x1)).2.2.2.1)))), (acA, .inl (cI, 240, .inl (tm_jn 120 A0 ((tm_ts G q (R1, C1, A1, k1, nI q, d1, e1, x1)).2.2.1))))] := by rw [← ew1, ← ew2, ← ew3, ← ew4, ← ew5, ← ew6, ← ew7]; exact hD
      exact W.vret hx hb hr (fun t9 ht9 hW9 => ⟨⟨(), rfl, trivial, by rw [ht9]; exact hP, hD⟩, hS.F ht9⟩) hS.2.2 d_Mo_target_323
  · have f13 : ¬ 13 < nI v := nI_nlt (a := 13) (b := v) (by omega) (by decide)
    have ee0 : ¬ nI v = 0 := xn_ne (w := 0) (by omega) (by decide) (by omega)
    have ee5 : ¬ nI v = 5 := xn_ne (w := 5) (by omega) (by decide) (by omega)
    have ee6 : ¬ nI v = 6 := xn_ne (w := 6) (by omega) (by decide) (by omega)
    have ee7 : ¬ nI v = 7 := xn_ne (w := 7) (by omega) (by decide) (by omega)
    have ee8 : ¬ nI v = 8 := xn_ne (w := 8) (by omega) (by decide) (by omega)
    have ee9 : ¬ nI v = 9 := xn_ne (w := 9) (by omega) (by decide) (by omega)
    have ee10 : ¬ nI v = 10 := xn_ne (w := 10) (by omega) (by decide) (by omega)
    have ee11 : ¬ nI v = 11 := xn_ne (w := 11) (by omega) (by decide) (by omega)
    have ee12 : ¬ nI v = 12 := xn_ne (w := 12) (by omega) (by decide) (by omega)
    have ee13 : nI v = 13 := by rw [hcase]; rfl
    have f7 : ¬ nI v < 7 := nI_nlt (a := v) (b := 7) (by omega) (by omega)
    have f9 : ¬ nI v < 9 := nI_nlt (a := v) (b := 9) (by omega) (by omega)
    have f4 : 4 < nI v := nI_lt (a := 4) (b := v) (by omega) (by omega)
    refine lv_aload_n hx hb d_Mo_target_0 rfl (lv_at hl 0 rfl) ?_
    refine va_get (D := D) (ci := 5) (v := .ref pA) (C := R_Mo) (T := F_Mo) (N := 21) hx hb hg f_Mo hown hK.1 hP 0 rfl rfl 16 (by decide) (hg _ q579) (fun _ h9 => h9) rfl d_Mo_target_1 ?_
    refine lv_iconst (v := 1) hx hb d_Mo_target_4 (by decide) ?_
    refine xa_ld hx hb hK hP 13 0 rfl rfl (kx := 1) (rfl) (by decide) (by decide) d_Mo_target_5 ?_
    have eq9 : ((tm_tw h0 (nI q)) 1 : Int32) = nI q := rfl
    refine W.eq (g2 := F0 m 6 ls [.int (nI q)]) (by rw [eq9]) ?_
    refine lv_istore_n hx hb d_Mo_target_6 rfl hl (by decide) rfl (fun ls hl => ?_)
    have hl : lv_has ls 9 [(1, .int (nI q)), (0, .ref m0)] := hl
    refine lv_aload_n hx hb d_Mo_target_7 rfl (lv_at hl 1 rfl) ?_
    refine va_get (D := D) (ci := 5) (v := .ref gA) (C := R_Mo) (T := F_Mo) (N := 21) hx hb hg f_Mo hown hK.1 hP 0 rfl rfl 8 (by decide) (hg _ q571) (fun _ h9 => h9) rfl d_Mo_target_8 ?_
    refine lv_iconst (v := 4) hx hb d_Mo_target_11 (by decide) ?_
    refine lv_iload_n hx hb d_Mo_target_12 rfl (lv_at hl 0 rfl) ?_
    refine lv_imul hx hb d_Mo_target_13 ?_
    have eq9 : (4 * (nI q) : Int32) = nI (4 * q) := pk_mul 4 q
    refine W.eq (g2 := F0 m 14 ls [.int (nI (4 * q)), .ref gA]) (by rw [eq9]) ?_
    refine xa_ld hx hb hK hP 5 0 rfl rfl (kx := 4 * q) (rfl) (by omega) (by decide) d_Mo_target_14 ?_
    have eq9 : (G (4 * q) : Int32) = nI v := hv
    refine W.eq (g2 := F0 m 15 ls [.int (nI v)]) (by rw [eq9]) ?_
    refine lv_istore_n hx hb d_Mo_target_15 rfl hl (by decide) rfl (fun ls hl => ?_)
    have hl : lv_has ls 9 [(2, .int (nI v)), (1, .int (nI q)), (0, .ref m0)] := hl
    refine lv_aload_n hx hb d_Mo_target_16 rfl (lv_at hl 2 rfl) ?_
    refine va_get (D := D) (ci := 5) (v := .ref gA) (C := R_Mo) (T := F_Mo) (N := 21) hx hb hg f_Mo hown hK.1 hP 0 rfl rfl 8 (by decide) (hg _ q571) (fun _ h9 => h9) rfl d_Mo_target_17 ?_
    refine lv_iconst (v := 4) hx hb d_Mo_target_20 (by decide) ?_
    refine lv_iload_n hx hb d_Mo_target_21 rfl (lv_at hl 1 rfl) ?_
    refine lv_imul hx hb d_Mo_target_22 ?_
    have eq9 : (4 * (nI q) : Int32) = nI (4 * q) := pk_mul 4 q
    refine W.eq (g2 := F0 m 23 ls [.int (nI (4 * q)), .ref gA]) (by rw [eq9]) ?_
    refine lv_iconst (v := 1) hx hb d_Mo_target_23 (by decide) ?_
    refine lv_iadd hx hb d_Mo_target_24 ?_
    have eq9 : ((nI (4 * q)) + 1 : Int32) = nI (4 * q + 1) := nI_add (4 * q) 1
    refine W.eq (g2 := F0 m 25 ls [.int (nI (4 * q + 1)), .ref gA]) (by rw [eq9]) ?_
    refine xa_ld hx hb hK hP 5 0 rfl rfl (kx := 4 * q + 1) (rfl) (by omega) (by decide) d_Mo_target_25 ?_
    have eq9 : (G (4 * q + 1) : Int32) = nI a := ha
    refine W.eq (g2 := F0 m 26 ls [.int (nI a)]) (by rw [eq9]) ?_
    refine lv_istore_n hx hb d_Mo_target_26 rfl hl (by decide) rfl (fun ls hl => ?_)
    have hl : lv_has ls 9 [(3, .int (nI a)), (2, .int (nI v)), (1, .int (nI q)), (0, .ref m0)] := hl
    refine lv_aload_n hx hb d_Mo_target_27 rfl (lv_at hl 3 rfl) ?_
    refine va_get (D := D) (ci := 5) (v := .ref gA) (C := R_Mo) (T := F_Mo) (N := 21) hx hb hg f_Mo hown hK.1 hP 0 rfl rfl 8 (by decide) (hg _ q571) (fun _ h9 => h9) rfl d_Mo_target_28 ?_
    refine lv_iconst (v := 4) hx hb d_Mo_target_31 (by decide) ?_
    refine lv_iload_n hx hb d_Mo_target_32 rfl (lv_at hl 2 rfl) ?_
    refine lv_imul hx hb d_Mo_target_33 ?_
    have eq9 : (4 * (nI q) : Int32) = nI (4 * q) := pk_mul 4 q
    refine W.eq (g2 := F0 m 34 ls [.int (nI (4 * q)), .ref gA]) (by rw [eq9]) ?_
    refine lv_iconst (v := 2) hx hb d_Mo_target_34 (by decide) ?_
    refine lv_iadd hx hb d_Mo_target_35 ?_
    have eq9 : ((nI (4 * q)) + 2 : Int32) = nI (4 * q + 2) := nI_add (4 * q) 2
    refine W.eq (g2 := F0 m 36 ls [.int (nI (4 * q + 2)), .ref gA]) (by rw [eq9]) ?_
    refine xa_ld hx hb hK hP 5 0 rfl rfl (kx := 4 * q + 2) (rfl) (by omega) (by decide) d_Mo_target_36 ?_
    have eq9 : (G (4 * q + 2) : Int32) = nI b := hbb
    refine W.eq (g2 := F0 m 37 ls [.int (nI b)]) (by rw [eq9]) ?_
    refine lv_istore hx hb d_Mo_target_37 hl (by decide) rfl (fun ls hl => ?_)
    have hl : lv_has ls 9 [(4, .int (nI b)), (3, .int (nI a)), (2, .int (nI v)), (1, .int (nI q)), (0, .ref m0)] := hl
    refine lv_aload_n hx hb d_Mo_target_39 rfl (lv_at hl 4 rfl) ?_
    refine va_get (D := D) (ci := 5) (v := .ref gA) (C := R_Mo) (T := F_Mo) (N := 21) hx hb hg f_Mo hown hK.1 hP 0 rfl rfl 8 (by decide) (hg _ q571) (fun _ h9 => h9) rfl d_Mo_target_40 ?_
    refine lv_iconst (v := 4) hx hb d_Mo_target_43 (by decide) ?_
    refine lv_iload_n hx hb d_Mo_target_44 rfl (lv_at hl 3 rfl) ?_
    refine lv_imul hx hb d_Mo_target_45 ?_
    have eq9 : (4 * (nI q) : Int32) = nI (4 * q) := pk_mul 4 q
    refine W.eq (g2 := F0 m 46 ls [.int (nI (4 * q)), .ref gA]) (by rw [eq9]) ?_
    refine lv_iconst (v := 3) hx hb d_Mo_target_46 (by decide) ?_
    refine lv_iadd hx hb d_Mo_target_47 ?_
    have eq9 : ((nI (4 * q)) + 3 : Int32) = nI (4 * q + 3) := nI_add (4 * q) 3
    refine W.eq (g2 := F0 m 48 ls [.int (nI (4 * q + 3)), .ref gA]) (by rw [eq9]) ?_
    refine xa_ld hx hb hK hP 5 0 rfl rfl (kx := 4 * q + 3) (rfl) (by omega) (by decide) d_Mo_target_48 ?_
    refine lv_istore hx hb d_Mo_target_49 hl (by decide) rfl (fun ls hl => ?_)
    have hl : lv_has ls 9 [(5, .int (G (4 * q + 3))), (4, .int (nI b)), (3, .int (nI a)), (2, .int (nI v)), (1, .int (nI q)), (0, .ref m0)] := hl
    refine lv_aload_n hx hb d_Mo_target_51 rfl (lv_at hl 5 rfl) ?_
    refine va_get (D := D) (ci := 5) (v := .ref rA) (C := R_Mo) (T := F_Mo) (N := 21) hx hb hg f_Mo hown hK.1 hP 0 rfl rfl 13 (by decide) (hg _ q576) (fun _ h9 => h9) rfl d_Mo_target_52 ?_
    refine lv_bipush (v := 8) hx hb d_Mo_target_55 (by decide) ?_
    refine lv_iload_n hx hb d_Mo_target_57 rfl (lv_at hl 2 rfl) ?_
    refine lv_iadd hx hb d_Mo_target_58 ?_
    have eq9 : (8 + (nI a) : Int32) = nI (8 + a) := nI_add 8 a
    refine W.eq (g2 := F0 m 59 ls [.int (nI (8 + a)), .ref rA]) (by rw [eq9]) ?_
    refine xa_ld hx hb hK hP 10 0 rfl rfl (kx := 8 + a) (rfl) (by omega) (by decide) d_Mo_target_59 ?_
    have eq9 : ((tm_jn 8 R0 R1) (8 + a) : Int32) = R1 a := (congrArg (tm_jn 8 R0 R1) (show 8 + a = 8 + a by omega)).trans tm_jn_hi
    refine W.eq (g2 := F0 m 60 ls [.int (R1 a)]) (by rw [eq9]) ?_
    refine lv_istore hx hb d_Mo_target_60 hl (by decide) rfl (fun ls hl => ?_)
    have hl : lv_has ls 9 [(6, .int (R1 a)), (5, .int (G (4 * q + 3))), (4, .int (nI b)), (3, .int (nI a)), (2, .int (nI v)), (1, .int (nI q)), (0, .ref m0)] := hl
    refine lv_aload_n hx hb d_Mo_target_62 rfl (lv_at hl 6 rfl) ?_
    refine va_get (D := D) (ci := 5) (v := .ref rA) (C := R_Mo) (T := F_Mo) (N := 21) hx hb hg f_Mo hown hK.1 hP 0 rfl rfl 13 (by decide) (hg _ q576) (fun _ h9 => h9) rfl d_Mo_target_63 ?_
    refine lv_bipush (v := 8) hx hb d_Mo_target_66 (by decide) ?_
    refine lv_iload hx hb d_Mo_target_68 (lv_at hl 2 rfl) ?_
    refine lv_iadd hx hb d_Mo_target_70 ?_
    have eq9 : (8 + (nI b) : Int32) = nI (8 + b) := nI_add 8 b
    refine W.eq (g2 := F0 m 71 ls [.int (nI (8 + b)), .ref rA]) (by rw [eq9]) ?_
    refine xa_ld hx hb hK hP 10 0 rfl rfl (kx := 8 + b) (rfl) (by omega) (by decide) d_Mo_target_71 ?_
    have eq9 : ((tm_jn 8 R0 R1) (8 + b) : Int32) = R1 b := (congrArg (tm_jn 8 R0 R1) (show 8 + b = 8 + b by omega)).trans tm_jn_hi
    refine W.eq (g2 := F0 m 72 ls [.int (R1 b)]) (by rw [eq9]) ?_
    refine lv_istore hx hb d_Mo_target_72 hl (by decide) rfl (fun ls hl => ?_)
    have hl : lv_has ls 9 [(7, .int (R1 b)), (6, .int (R1 a)), (5, .int (G (4 * q + 3))), (4, .int (nI b)), (3, .int (nI a)), (2, .int (nI v)), (1, .int (nI q)), (0, .ref m0)] := hl
    refine lv_aload_n hx hb d_Mo_target_74 rfl (lv_at hl 7 rfl) ?_
    refine va_get (D := D) (ci := 5) (v := .ref dA) (C := R_Mo) (T := F_Mo) (N := 21) hx hb hg f_Mo hown hK.1 hP 0 rfl rfl 17 (by decide) (hg _ q580) (fun _ h9 => h9) rfl d_Mo_target_75 ?_
    refine lv_iconst (v := 1) hx hb d_Mo_target_78 (by decide) ?_
    refine lv_dup2_11 hx hb d_Mo_target_79 rfl rfl ?_
    refine xa_ld hx hb hK hP 14 0 rfl rfl (kx := 1) (rfl) (by decide) (by decide) d_Mo_target_80 ?_
    have eq9 : ((tm_tw d0 d1) 1 : Int32) = d1 := rfl
    refine W.eq (g2 := F0 m 81 ls [.int d1, .int 1, .ref dA]) (by rw [eq9]) ?_
    refine lv_iconst (v := 1) hx hb d_Mo_target_81 (by decide) ?_
    refine lv_iadd hx hb d_Mo_target_82 ?_
    refine xa_st hx hb hK hP hD hS 14 0 rfl rfl (kx := 1) (rfl) (by decide) (by decide) d_Mo_target_83 (fun H locs hP hD hS => ?_)
    have hP : va_P D cls [(m0, .inr (5, [.int th, .int (nI n), .ref oA, .ref aA, .ref bB, .ref cC, .int tl, .int (nI k), .ref gA, .ref zA, .ref bA, .ref sR, .ref sD, .ref rA, .ref eC, .ref eA, .ref pA, .ref dA, .ref kA, .ref acA, .int nx])), (oA, .inl (cI, 24, .inl Po)), (aA, .inl (cI, 24, .inl Pa)), (bB, .inl (cI, 24, .inl Pb)), (cC, .inl (cI, 24, .inl Pc)), (gA, .inl (cI, 1600, .inl G)), (zA, .inl (cZ, 400, .inl O)), (bA, .inl (cI, 25, .inl B)), (sR, .inl (cI, 8, .inl sr)), (sD, .inl (cI, 32, .inl sd)), (rA, .inl (cI, 16, .inl (tm_jn 8 R0 R1))), (eC, .inl (cI, 128, .inl (tm_jn 64 C0 C1))), (eA, .inl (cI, 2, .inl (tm_tw e0 e1))), (pA, .inl (cI, 2, .inl (tm_tw h0 (nI q)))), (dA, .inl (cI, 2, .inl (upd (tm_tw d0 d1) 1 (d1 + 1)))), (kA, .inl (cI, 2, .inl (tm_tw (nI k0) (nI k1)))), (acA, .inl (cI, 240, .inl (tm_jn 120 A0 A1)))] H := hP
    have hD : va_D A [(m0, .inr (5, [.int th, .int (nI n), .ref oA, .ref aA, .ref bB, .ref cC, .int tl, .int (nI k), .ref gA, .ref zA, .ref bA, .ref sR, .ref sD, .ref rA, .ref eC, .ref eA, .ref pA, .ref dA, .ref kA, .ref acA, .int nx])), (oA, .inl (cI, 24, .inl Po)), (aA, .inl (cI, 24, .inl Pa)), (bB, .inl (cI, 24, .inl Pb)), (cC, .inl (cI, 24, .inl Pc)), (gA, .inl (cI, 1600, .inl G)), (zA, .inl (cZ, 400, .inl O)), (bA, .inl (cI, 25, .inl B)), (sR, .inl (cI, 8, .inl sr)), (sD, .inl (cI, 32, .inl sd)), (rA, .inl (cI, 16, .inl (tm_jn 8 R0 R1))), (eC, .inl (cI, 128, .inl (tm_jn 64 C0 C1))), (eA, .inl (cI, 2, .inl (tm_tw e0 e1))), (pA, .inl (cI, 2, .inl (tm_tw h0 (nI q)))), (dA, .inl (cI, 2, .inl (upd (tm_tw d0 d1) 1 (d1 + 1)))), (kA, .inl (cI, 2, .inl (tm_tw (nI k0) (nI k1)))), (acA, .inl (cI, 240, .inl (tm_jn 120 A0 A1)))] := hD
    have hD := xa_D (e2 := .inl (cI, 2, .inl (tm_tw d0 (d1 + 1)))) hD 14 rfl
    have hP := xa_P (g := tm_tw d0 (d1 + 1)) hP 14 rfl (tm_tw_c)
    have hP : va_P D cls [(m0, .inr (5, [.int th, .int (nI n), .ref oA, .ref aA, .ref bB, .ref cC, .int tl, .int (nI k), .ref gA, .ref zA, .ref bA, .ref sR, .ref sD, .ref rA, .ref eC, .ref eA, .ref pA, .ref dA, .ref kA, .ref acA, .int nx])), (oA, .inl (cI, 24, .inl Po)), (aA, .inl (cI, 24, .inl Pa)), (bB, .inl (cI, 24, .inl Pb)), (cC, .inl (cI, 24, .inl Pc)), (gA, .inl (cI, 1600, .inl G)), (zA, .inl (cZ, 400, .inl O)), (bA, .inl (cI, 25, .inl B)), (sR, .inl (cI, 8, .inl sr)), (sD, .inl (cI, 32, .inl sd)), (rA, .inl (cI, 16, .inl (tm_jn 8 R0 R1))), (eC, .inl (cI, 128, .inl (tm_jn 64 C0 C1))), (eA, .inl (cI, 2, .inl (tm_tw e0 e1))), (pA, .inl (cI, 2, .inl (tm_tw h0 (nI q)))), (dA, .inl (cI, 2, .inl (tm_tw d0 (d1 + 1)))), (kA, .inl (cI, 2, .inl (tm_tw (nI k0) (nI k1)))), (acA, .inl (cI, 240, .inl (tm_jn 120 A0 A1)))] H := hP
    have hD : va_D A [(m0, .inr (5, [.int th, .int (nI n), .ref oA, .ref aA, .ref bB, .ref cC, .int tl, .int (nI k), .ref gA, .ref zA, .ref bA, .ref sR, .ref sD, .ref rA, .ref eC, .ref eA, .ref pA, .ref dA, .ref kA, .ref acA, .int nx])), (oA, .inl (cI, 24, .inl Po)), (aA, .inl (cI, 24, .inl Pa)), (bB, .inl (cI, 24, .inl Pb)), (cC, .inl (cI, 24, .inl Pc)), (gA, .inl (cI, 1600, .inl G)), (zA, .inl (cZ, 400, .inl O)), (bA, .inl (cI, 25, .inl B)), (sR, .inl (cI, 8, .inl sr)), (sD, .inl (cI, 32, .inl sd)), (rA, .inl (cI, 16, .inl (tm_jn 8 R0 R1))), (eC, .inl (cI, 128, .inl (tm_jn 64 C0 C1))), (eA, .inl (cI, 2, .inl (tm_tw e0 e1))), (pA, .inl (cI, 2, .inl (tm_tw h0 (nI q)))), (dA, .inl (cI, 2, .inl (tm_tw d0 (d1 + 1)))), (kA, .inl (cI, 2, .inl (tm_tw (nI k0) (nI k1)))), (acA, .inl (cI, 240, .inl (tm_jn 120 A0 A1)))] := hD
    refine lv_iload_n hx hb d_Mo_target_84 rfl (lv_at hl 5 rfl) ?_
    refine lv_if_ne (tgt := 105) hx hb d_Mo_target_85 rfl (fun _ => ?_) (fun hz9 => absurd hz9 (ee0))
    refine lv_iload_n hx hb d_Mo_target_105 rfl (lv_at hl 5 rfl) ?_
    refine lv_bipush (v := 9) hx hb d_Mo_target_106 (by decide) ?_
    refine lv_icmp_ne (tgt := 118) hx hb d_Mo_target_108 rfl (fun _ => ?_) (fun hz9 => absurd hz9 (ee9))
    refine lv_iload_n hx hb d_Mo_target_118 rfl (lv_at hl 5 rfl) ?_
    refine lv_bipush (v := 10) hx hb d_Mo_target_119 (by decide) ?_
    refine lv_icmp_ne (tgt := 131) hx hb d_Mo_target_121 rfl (fun _ => ?_) (fun hz9 => absurd hz9 (ee10))
    refine lv_iload_n hx hb d_Mo_target_131 rfl (lv_at hl 5 rfl) ?_
    refine lv_bipush (v := 11) hx hb d_Mo_target_132 (by decide) ?_
    refine lv_icmp_eq (tgt := 156) hx hb d_Mo_target_134 rfl (fun hz9 => absurd hz9 (ee11)) (fun _ => ?_)
    refine lv_iload_n hx hb d_Mo_target_137 rfl (lv_at hl 5 rfl) ?_
    refine lv_bipush (v := 12) hx hb d_Mo_target_138 (by decide) ?_
    refine lv_icmp_ne (tgt := 160) hx hb d_Mo_target_140 rfl (fun _ => ?_) (fun hz9 => absurd hz9 (ee12))
    refine lv_iconst (v := 0) hx hb d_Mo_target_160 (by decide) ?_
    refine lv_istore hx hb d_Mo_target_161 hl (by decide) rfl (fun ls hl => ?_)
    have hl : lv_has ls 9 [(8, .int 0), (7, .int (R1 b)), (6, .int (R1 a)), (5, .int (G (4 * q + 3))), (4, .int (nI b)), (3, .int (nI a)), (2, .int (nI v)), (1, .int (nI q)), (0, .ref m0)] := hl
    refine lv_aload_n hx hb d_Mo_target_163 rfl (lv_at hl 8 rfl) ?_
    refine va_get (D := D) (ci := 5) (v := .ref pA) (C := R_Mo) (T := F_Mo) (N := 21) hx hb hg f_Mo hown hK.1 hP 0 rfl rfl 16 (by decide) (hg _ q579) (fun _ h9 => h9) rfl d_Mo_target_164 ?_
    refine lv_iconst (v := 1) hx hb d_Mo_target_167 (by decide) ?_
    refine lv_iload hx hb d_Mo_target_168 (lv_at hl 0 rfl) ?_
    refine lv_if_eq (tgt := 178) hx hb d_Mo_target_170 rfl (fun _ => ?_) (fun hz9 => absurd (by decide) hz9)
    refine lv_iload_n hx hb d_Mo_target_178 rfl (lv_at hl 6 rfl) ?_
    refine lv_bipush (v := 13) hx hb d_Mo_target_179 (by decide) ?_
    refine lv_icmp_ne (tgt := 189) hx hb d_Mo_target_181 rfl (fun hz9 => absurd (ee13) hz9) (fun _ => ?_)
    refine lv_iload hx hb d_Mo_target_184 (lv_at hl 2 rfl) ?_
    refine lv_goto (tgt := 192) hx hb d_Mo_target_186 rfl ?_
    refine xa_st hx hb hK hP hD hS 13 0 rfl rfl (kx := 1) (rfl) (by decide) (by decide) d_Mo_target_192 (fun H locs hP hD hS => ?_)
    have hP : va_P D cls [(m0, .inr (5, [.int th, .int (nI n), .ref oA, .ref aA, .ref bB, .ref cC, .int tl, .int (nI k), .ref gA, .ref zA, .ref bA, .ref sR, .ref sD, .ref rA, .ref eC, .ref eA, .ref pA, .ref dA, .ref kA, .ref acA, .int nx])), (oA, .inl (cI, 24, .inl Po)), (aA, .inl (cI, 24, .inl Pa)), (bB, .inl (cI, 24, .inl Pb)), (cC, .inl (cI, 24, .inl Pc)), (gA, .inl (cI, 1600, .inl G)), (zA, .inl (cZ, 400, .inl O)), (bA, .inl (cI, 25, .inl B)), (sR, .inl (cI, 8, .inl sr)), (sD, .inl (cI, 32, .inl sd)), (rA, .inl (cI, 16, .inl (tm_jn 8 R0 R1))), (eC, .inl (cI, 128, .inl (tm_jn 64 C0 C1))), (eA, .inl (cI, 2, .inl (tm_tw e0 e1))), (pA, .inl (cI, 2, .inl (upd (tm_tw h0 (nI q)) 1 (R1 a)))), (dA, .inl (cI, 2, .inl (tm_tw d0 (d1 + 1)))), (kA, .inl (cI, 2, .inl (tm_tw (nI k0) (nI k1)))), (acA, .inl (cI, 240, .inl (tm_jn 120 A0 A1)))] H := hP
    have hD : va_D A [(m0, .inr (5, [.int th, .int (nI n), .ref oA, .ref aA, .ref bB, .ref cC, .int tl, .int (nI k), .ref gA, .ref zA, .ref bA, .ref sR, .ref sD, .ref rA, .ref eC, .ref eA, .ref pA, .ref dA, .ref kA, .ref acA, .int nx])), (oA, .inl (cI, 24, .inl Po)), (aA, .inl (cI, 24, .inl Pa)), (bB, .inl (cI, 24, .inl Pb)), (cC, .inl (cI, 24, .inl Pc)), (gA, .inl (cI, 1600, .inl G)), (zA, .inl (cZ, 400, .inl O)), (bA, .inl (cI, 25, .inl B)), (sR, .inl (cI, 8, .inl sr)), (sD, .inl (cI, 32, .inl sd)), (rA, .inl (cI, 16, .inl (tm_jn 8 R0 R1))), (eC, .inl (cI, 128, .inl (tm_jn 64 C0 C1))), (eA, .inl (cI, 2, .inl (tm_tw e0 e1))), (pA, .inl (cI, 2, .inl (upd (tm_tw h0 (nI q)) 1 (R1 a)))), (dA, .inl (cI, 2, .inl (tm_tw d0 (d1 + 1)))), (kA, .inl (cI, 2, .inl (tm_tw (nI k0) (nI k1)))), (acA, .inl (cI, 240, .inl (tm_jn 120 A0 A1)))] := hD
    have hD := xa_D (e2 := .inl (cI, 2, .inl (tm_tw h0 (R1 a)))) hD 13 rfl
    have hP := xa_P (g := tm_tw h0 (R1 a)) hP 13 rfl (tm_tw_c)
    have hP : va_P D cls [(m0, .inr (5, [.int th, .int (nI n), .ref oA, .ref aA, .ref bB, .ref cC, .int tl, .int (nI k), .ref gA, .ref zA, .ref bA, .ref sR, .ref sD, .ref rA, .ref eC, .ref eA, .ref pA, .ref dA, .ref kA, .ref acA, .int nx])), (oA, .inl (cI, 24, .inl Po)), (aA, .inl (cI, 24, .inl Pa)), (bB, .inl (cI, 24, .inl Pb)), (cC, .inl (cI, 24, .inl Pc)), (gA, .inl (cI, 1600, .inl G)), (zA, .inl (cZ, 400, .inl O)), (bA, .inl (cI, 25, .inl B)), (sR, .inl (cI, 8, .inl sr)), (sD, .inl (cI, 32, .inl sd)), (rA, .inl (cI, 16, .inl (tm_jn 8 R0 R1))), (eC, .inl (cI, 128, .inl (tm_jn 64 C0 C1))), (eA, .inl (cI, 2, .inl (tm_tw e0 e1))), (pA, .inl (cI, 2, .inl (tm_tw h0 (R1 a)))), (dA, .inl (cI, 2, .inl (tm_tw d0 (d1 + 1)))), (kA, .inl (cI, 2, .inl (tm_tw (nI k0) (nI k1)))), (acA, .inl (cI, 240, .inl (tm_jn 120 A0 A1)))] H := hP
    have hD : va_D A [(m0, .inr (5, [.int th, .int (nI n), .ref oA, .ref aA, .ref bB, .ref cC, .int tl, .int (nI k), .ref gA, .ref zA, .ref bA, .ref sR, .ref sD, .ref rA, .ref eC, .ref eA, .ref pA, .ref dA, .ref kA, .ref acA, .int nx])), (oA, .inl (cI, 24, .inl Po)), (aA, .inl (cI, 24, .inl Pa)), (bB, .inl (cI, 24, .inl Pb)), (cC, .inl (cI, 24, .inl Pc)), (gA, .inl (cI, 1600, .inl G)), (zA, .inl (cZ, 400, .inl O)), (bA, .inl (cI, 25, .inl B)), (sR, .inl (cI, 8, .inl sr)), (sD, .inl (cI, 32, .inl sd)), (rA, .inl (cI, 16, .inl (tm_jn 8 R0 R1))), (eC, .inl (cI, 128, .inl (tm_jn 64 C0 C1))), (eA, .inl (cI, 2, .inl (tm_tw e0 e1))), (pA, .inl (cI, 2, .inl (tm_tw h0 (R1 a)))), (dA, .inl (cI, 2, .inl (tm_tw d0 (d1 + 1)))), (kA, .inl (cI, 2, .inl (tm_tw (nI k0) (nI k1)))), (acA, .inl (cI, 240, .inl (tm_jn 120 A0 A1)))] := hD
    refine lv_iload_n hx hb d_Mo_target_193 rfl (lv_at hl 6 rfl) ?_
    refine lv_iconst (v := 5) hx hb d_Mo_target_194 (by decide) ?_
    refine lv_icmp_ge (tgt := 226) hx hb d_Mo_target_195 rfl (fun _ => ?_) (fun hz9 => absurd (nI_le (a := 5) (b := v) (by omega) (by omega)) hz9)
    refine lv_iload_n hx hb d_Mo_target_226 rfl (lv_at hl 6 rfl) ?_
    refine lv_iconst (v := 5) hx hb d_Mo_target_227 (by decide) ?_
    refine lv_icmp_ne (tgt := 251) hx hb d_Mo_target_228 rfl (fun _ => ?_) (fun hz9 => absurd hz9 (ee5))
    refine lv_iload_n hx hb d_Mo_target_251 rfl (lv_at hl 6 rfl) ?_
    refine lv_bipush (v := 6) hx hb d_Mo_target_252 (by decide) ?_
    refine lv_icmp_ne (tgt := 278) hx hb d_Mo_target_254 rfl (fun _ => ?_) (fun hz9 => absurd hz9 (ee6))
    refine lv_iload_n hx hb d_Mo_target_278 rfl (lv_at hl 6 rfl) ?_
    refine lv_bipush (v := 7) hx hb d_Mo_target_279 (by decide) ?_
    refine lv_icmp_eq (tgt := 290) hx hb d_Mo_target_281 rfl (fun hz9 => absurd hz9 (ee7)) (fun _ => ?_)
    refine lv_iload_n hx hb d_Mo_target_284 rfl (lv_at hl 6 rfl) ?_
    refine lv_bipush (v := 8) hx hb d_Mo_target_285 (by decide) ?_
    refine lv_icmp_ne (tgt := 315) hx hb d_Mo_target_287 rfl (fun _ => ?_) (fun hz9 => absurd hz9 (ee8))
    refine lv_aload_n hx hb d_Mo_target_315 rfl (lv_at hl 8 rfl) ?_
    refine va_get (D := D) (ci := 5) (v := .ref rA) (C := R_Mo) (T := F_Mo) (N := 21) hx hb hg f_Mo hown hK.1 hP 0 rfl rfl 13 (by decide) (hg _ q576) (fun _ h9 => h9) rfl d_Mo_target_316 ?_
    refine lv_bipush (v := 8) hx hb d_Mo_target_319 (by decide) ?_
    refine lv_iconst (v := 0) hx hb d_Mo_target_321 (by decide) ?_
    refine xa_st hx hb hK hP hD hS 10 0 rfl rfl (kx := 8) (rfl) (by decide) (by decide) d_Mo_target_322 (fun H locs hP hD hS => ?_)
    have hP : va_P D cls [(m0, .inr (5, [.int th, .int (nI n), .ref oA, .ref aA, .ref bB, .ref cC, .int tl, .int (nI k), .ref gA, .ref zA, .ref bA, .ref sR, .ref sD, .ref rA, .ref eC, .ref eA, .ref pA, .ref dA, .ref kA, .ref acA, .int nx])), (oA, .inl (cI, 24, .inl Po)), (aA, .inl (cI, 24, .inl Pa)), (bB, .inl (cI, 24, .inl Pb)), (cC, .inl (cI, 24, .inl Pc)), (gA, .inl (cI, 1600, .inl G)), (zA, .inl (cZ, 400, .inl O)), (bA, .inl (cI, 25, .inl B)), (sR, .inl (cI, 8, .inl sr)), (sD, .inl (cI, 32, .inl sd)), (rA, .inl (cI, 16, .inl (upd (tm_jn 8 R0 R1) 8 0))), (eC, .inl (cI, 128, .inl (tm_jn 64 C0 C1))), (eA, .inl (cI, 2, .inl (tm_tw e0 e1))), (pA, .inl (cI, 2, .inl (tm_tw h0 (R1 a)))), (dA, .inl (cI, 2, .inl (tm_tw d0 (d1 + 1)))), (kA, .inl (cI, 2, .inl (tm_tw (nI k0) (nI k1)))), (acA, .inl (cI, 240, .inl (tm_jn 120 A0 A1)))] H := hP
    have hD : va_D A [(m0, .inr (5, [.int th, .int (nI n), .ref oA, .ref aA, .ref bB, .ref cC, .int tl, .int (nI k), .ref gA, .ref zA, .ref bA, .ref sR, .ref sD, .ref rA, .ref eC, .ref eA, .ref pA, .ref dA, .ref kA, .ref acA, .int nx])), (oA, .inl (cI, 24, .inl Po)), (aA, .inl (cI, 24, .inl Pa)), (bB, .inl (cI, 24, .inl Pb)), (cC, .inl (cI, 24, .inl Pc)), (gA, .inl (cI, 1600, .inl G)), (zA, .inl (cZ, 400, .inl O)), (bA, .inl (cI, 25, .inl B)), (sR, .inl (cI, 8, .inl sr)), (sD, .inl (cI, 32, .inl sd)), (rA, .inl (cI, 16, .inl (upd (tm_jn 8 R0 R1) 8 0))), (eC, .inl (cI, 128, .inl (tm_jn 64 C0 C1))), (eA, .inl (cI, 2, .inl (tm_tw e0 e1))), (pA, .inl (cI, 2, .inl (tm_tw h0 (R1 a)))), (dA, .inl (cI, 2, .inl (tm_tw d0 (d1 + 1)))), (kA, .inl (cI, 2, .inl (tm_tw (nI k0) (nI k1)))), (acA, .inl (cI, 240, .inl (tm_jn 120 A0 A1)))] := hD
    rw [show 8 = 8 + 0 by omega, tm_jn_uh] at hP hD
    have hP : va_P D cls [(m0, .inr (5, [.int th, .int (nI n), .ref oA, .ref aA, .ref bB, .ref cC, .int tl, .int (nI k), .ref gA, .ref zA, .ref bA, .ref sR, .ref sD, .ref rA, .ref eC, .ref eA, .ref pA, .ref dA, .ref kA, .ref acA, .int nx])), (oA, .inl (cI, 24, .inl Po)), (aA, .inl (cI, 24, .inl Pa)), (bB, .inl (cI, 24, .inl Pb)), (cC, .inl (cI, 24, .inl Pc)), (gA, .inl (cI, 1600, .inl G)), (zA, .inl (cZ, 400, .inl O)), (bA, .inl (cI, 25, .inl B)), (sR, .inl (cI, 8, .inl sr)), (sD, .inl (cI, 32, .inl sd)), (rA, .inl (cI, 16, .inl (tm_jn 8 R0 (upd R1 0 0)))), (eC, .inl (cI, 128, .inl (tm_jn 64 C0 C1))), (eA, .inl (cI, 2, .inl (tm_tw e0 e1))), (pA, .inl (cI, 2, .inl (tm_tw h0 (R1 a)))), (dA, .inl (cI, 2, .inl (tm_tw d0 (d1 + 1)))), (kA, .inl (cI, 2, .inl (tm_tw (nI k0) (nI k1)))), (acA, .inl (cI, 240, .inl (tm_jn 120 A0 A1)))] H := hP
    have hD : va_D A [(m0, .inr (5, [.int th, .int (nI n), .ref oA, .ref aA, .ref bB, .ref cC, .int tl, .int (nI k), .ref gA, .ref zA, .ref bA, .ref sR, .ref sD, .ref rA, .ref eC, .ref eA, .ref pA, .ref dA, .ref kA, .ref acA, .int nx])), (oA, .inl (cI, 24, .inl Po)), (aA, .inl (cI, 24, .inl Pa)), (bB, .inl (cI, 24, .inl Pb)), (cC, .inl (cI, 24, .inl Pc)), (gA, .inl (cI, 1600, .inl G)), (zA, .inl (cZ, 400, .inl O)), (bA, .inl (cI, 25, .inl B)), (sR, .inl (cI, 8, .inl sr)), (sD, .inl (cI, 32, .inl sd)), (rA, .inl (cI, 16, .inl (tm_jn 8 R0 (upd R1 0 0)))), (eC, .inl (cI, 128, .inl (tm_jn 64 C0 C1))), (eA, .inl (cI, 2, .inl (tm_tw e0 e1))), (pA, .inl (cI, 2, .inl (tm_tw h0 (R1 a)))), (dA, .inl (cI, 2, .inl (tm_tw d0 (d1 + 1)))), (kA, .inl (cI, 2, .inl (tm_tw (nI k0) (nI k1)))), (acA, .inl (cI, 240, .inl (tm_jn 120 A0 A1)))] := hD
    have ew1_1 : (upd R1 0 0) = ((tm_ts G q (R1, C1, A1, k1, nI q, d1, e1, x1)).1) := by rw [tm_upd0 hR0]; simp [tm_ts, hv, f13, ee0, ee5, ee6, ee7, ee8, ee9, ee10, ee11, ee12, ee13, f7, f9, f4]
    have ew1 : tm_jn 8 R0 (upd R1 0 0) = tm_jn 8 R0 ((tm_ts G q (R1, C1, A1, k1, nI q, d1, e1, x1)).1) := congr (congrArg (tm_jn 8) rfl) ew1_1
    have ew2_1 : C1 = ((tm_ts G q (R1, C1, A1, k1, nI q, d1, e1, x1)).2.1) := by first | rfl | (simp [tm_ts, hv, f13, ee0, ee5, ee6, ee7, ee8, ee9, ee10, ee11, ee12, ee13, f7, f9, f4]; done)
    have ew2 : tm_jn 64 C0 C1 = tm_jn 64 C0 ((tm_ts G q (R1, C1, A1, k1, nI q, d1, e1, x1)).2.1) := congr (congrArg (tm_jn 64) rfl) ew2_1
    have ew3_1 : e1 = ((tm_ts G q (R1, C1, A1, k1, nI q, d1, e1, x1)).2.2.2.2.2.2.1) := by first | rfl | (simp [tm_ts, hv, f13, ee0, ee5, ee6, ee7, ee8, ee9, ee10, ee11, ee12, ee13, f7, f9, f4]; done)
    have ew3 : tm_tw e0 e1 = tm_tw e0 ((tm_ts G q (R1, C1, A1, k1, nI q, d1, e1, x1)).2.2.2.2.2.2.1) := congr (congrArg (tm_tw) rfl) ew3_1
    have ew4_1 : (R1 a) = ((tm_ts G q (R1, C1, A1, k1, nI q, d1, e1, x1)).2.2.2.2.1) := by simp [tm_ts, tm_tb, hv, ha, hbb, hc_a, hc_b, f13, ee0, ee5, ee6, ee7, ee8, ee9, ee10, ee11, ee12, ee13, f7, f9, f4]
    have ew4 : tm_tw h0 (R1 a) = tm_tw h0 ((tm_ts G q (R1, C1, A1, k1, nI q, d1, e1, x1)).2.2.2.2.1) := congr (congrArg (tm_tw) rfl) ew4_1
    have ew5_1 : (d1 + 1) = ((tm_ts G q (R1, C1, A1, k1, nI q, d1, e1, x1)).2.2.2.2.2.1) := by first | rfl | (simp [tm_ts, hv, f13, ee0, ee5, ee6, ee7, ee8, ee9, ee10, ee11, ee12, ee13, f7, f9, f4]; done)
    have ew5 : tm_tw d0 (d1 + 1) = tm_tw d0 ((tm_ts G q (R1, C1, A1, k1, nI q, d1, e1, x1)).2.2.2.2.2.1) := congr (congrArg (tm_tw) rfl) ew5_1
    have ew6_1 : (nI k1) = (nI (tm_ts G q (R1, C1, A1, k1, nI q, d1, e1, x1)).2.2.2.1) := congrArg nI (by first | (simp [tm_ts, hv, f13, ee0, ee5, ee6, ee7, ee8, ee9, ee10, ee11, ee12, ee13, f7, f9, f4]; done) | (simp [tm_ts, hv, f13, ee0, ee5, ee6, ee7, ee8, ee9, ee10, ee11, ee12, ee13, f7, f9, f4]; omega) | omega)
    have ew6 : tm_tw (nI k0) (nI k1) = tm_tw (nI k0) (nI (tm_ts G q (R1, C1, A1, k1, nI q, d1, e1, x1)).2.2.2.1) := congr (congrArg (tm_tw) rfl) ew6_1
    have ew7_1 : A1 = ((tm_ts G q (R1, C1, A1, k1, nI q, d1, e1, x1)).2.2.1) := by first | rfl | (simp [tm_ts, hv, f13, ee0, ee5, ee6, ee7, ee8, ee9, ee10, ee11, ee12, ee13, f7, f9, f4]; done)
    have ew7 : tm_jn 120 A0 A1 = tm_jn 120 A0 ((tm_ts G q (R1, C1, A1, k1, nI q, d1, e1, x1)).2.2.1) := congr (congrArg (tm_jn 120) rfl) ew7_1
    have hP : va_P D cls [(m0, .inr (5, [.int th, .int (nI n), .ref oA, .ref aA, .ref bB, .ref cC, .int tl, .int (nI k), .ref gA, .ref zA, .ref bA, .ref sR, .ref sD, .ref rA, .ref eC, .ref eA, .ref pA, .ref dA, .ref kA, .ref acA, .int nx])), (oA, .inl (cI, 24, .inl Po)), (aA, .inl (cI, 24, .inl Pa)), (bB, .inl (cI, 24, .inl Pb)), (cC, .inl (cI, 24, .inl Pc)), (gA, .inl (cI, 1600, .inl G)), (zA, .inl (cZ, 400, .inl O)), (bA, .inl (cI, 25, .inl B)), (sR, .inl (cI, 8, .inl sr)), (sD, .inl (cI, 32, .inl sd)), (rA, .inl (cI, 16, .inl (tm_jn 8 R0 ((tm_ts G q (R1, C1, A1, k1, nI q, d1, e1, x1)).1)))), (eC, .inl (cI, 128, .inl (tm_jn 64 C0 ((tm_ts G q (R1, C1, A1, k1, nI q, d1, e1, x1)).2.1)))), (eA, .inl (cI, 2, .inl (tm_tw e0 ((tm_ts G q (R1, C1, A1, k1, nI q, d1, e1, x1)).2.2.2.2.2.2.1)))), (pA, .inl (cI, 2, .inl (tm_tw h0 ((tm_ts G q (R1, C1, A1, k1, nI q, d1, e1, x1)).2.2.2.2.1)))), (dA, .inl (cI, 2, .inl (tm_tw d0 ((tm_ts G q (R1, C1, A1, k1, nI q, d1, e1, x1)).2.2.2.2.2.1)))), (kA, .inl (cI, 2, .inl (tm_tw (nI k0) (nI (tm_ts G q (R1, C1, A1, k1, nI q, d1, e1, x1)).2.2.2.1)))), (acA, .inl (cI, 240, .inl (tm_jn 120 A0 ((tm_ts G q (R1, C1, A1, k1, nI q, d1, e1, x1)).2.2.1))))] H := by rw [← ew1, ← ew2, ← ew3, ← ew4, ← ew5, ← ew6, ← ew7]; exact hP
    have hD : va_D A [(m0, .inr (5, [.int th, .int (nI n), .ref oA, .ref aA, .ref bB, .ref cC, .int tl, .int (nI k), .ref gA, .ref zA, .ref bA, .ref sR, .ref sD, .ref rA, .ref eC, .ref eA, .ref pA, .ref dA, .ref kA, .ref acA, .int nx])), (oA, .inl (cI, 24, .inl Po)), (aA, .inl (cI, 24, .inl Pa)), (bB, .inl (cI, 24, .inl Pb)), (cC, .inl (cI, 24, .inl Pc)), (gA, .inl (cI, 1600, .inl G)), (zA, .inl (cZ, 400, .inl O)), (bA, .inl (cI, 25, .inl B)), (sR, .inl (cI, 8, .inl sr)), (sD, .inl (cI, 32, .inl sd)), (rA, .inl (cI, 16, .inl (tm_jn 8 R0 ((tm_ts G q (R1, C1, A1, k1, nI q, d1, e1, x1)).1)))), (eC, .inl (cI, 128, .inl (tm_jn 64 C0 ((tm_ts G q (R1, C1, A1, k1, nI q, d1, e1, x1)).2.1)))), (eA, .inl (cI, 2, .inl (tm_tw e0 ((tm_ts G q (R1, C1, A1, k1, nI q, d1, e1, x1)).2.2.2.2.2.2.1)))), (pA, .inl (cI, 2, .inl (tm_tw h0 ((tm_ts G q (R1, C1, A1, k1, nI q, d1, e1, x1)).2.2.2.2.1)))), (dA, .inl (cI, 2, .inl (tm_tw d0 ((tm_ts G q (R1, C1, A1, k1, nI q, d1, e1, x1)).2.2.2.2.2.1)))), (kA, .inl (cI, 2, .inl (tm_tw (nI k0) (nI (tm_ts G q (R1, C1, A1, k1, nI q, d1, e1, x1)).2.2.2.1)))), (acA, .inl (cI, 240, .inl (tm_jn 120 A0 ((tm_ts G q (R1, C1, A1, k1, nI q, d1, e1, x1)).2.2.1))))] := by rw [← ew1, ← ew2, ← ew3, ← ew4, ← ew5, ← ew6, ← ew7]; exact hD
    exact W.vret hx hb hr (fun t9 ht9 hW9 => ⟨⟨(), rfl, trivial, by rw [ht9]; exact hP, hD⟩, hS.F ht9⟩) hS.2.2 d_Mo_target_323
