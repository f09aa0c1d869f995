/-! THE REFERENCE: reason (printed by wip/whole/gen/c22.py) -/
set_option maxHeartbeats 4000000 in
set_option maxRecDepth 100000 in
theorem c_Mo_reason (l : Launch) (D : va_G) (cI cZ cJ : ClassId) (m0 oA aA bB cC gA zA bA sR sD rA eC eA pA dA kA acA : Nat) (Po Pa Pb Pc G O B sr sd Rr Cr En Pl Dn Kp Ar : Nat → Int32) (n k : Nat) (th tl nx : Int32) (P : Nat → Int32) (q : Nat) (hPo : ∀ i, Po i = P (4 * i)) (hPa : ∀ i, Pa i = P (4 * i + 1)) (hPb : ∀ i, Pb i = P (4 * i + 2)) (hPc : ∀ i, Pc i = P (4 * i + 3)) (hn : n ≤ 24) (hq : q < n) (hin : tm_in P n) : xr_Met l y_Mo_reason b_Mo_reason 3 (some .int) { frames := 2, cells := 0, slots := 0, locals := 42 } [.ref m0, .int (nI q)] (xb D cls [(m0, .inr (5, [.int th, .int (nI n), .ref oA, .ref aA, .ref bB, .ref cC, .int tl, .int (nI k), .ref gA, .ref zA, .ref bA, .ref sR, .ref sD, .ref rA, .ref eC, .ref eA, .ref pA, .ref dA, .ref kA, .ref acA, .int nx])), (oA, .inl (cI, 24, .inl Po)), (aA, .inl (cI, 24, .inl Pa)), (bB, .inl (cI, 24, .inl Pb)), (cC, .inl (cI, 24, .inl Pc)), (gA, .inl (cI, 1600, .inl G)), (zA, .inl (cZ, 400, .inl O)), (bA, .inl (cI, 25, .inl B)), (sR, .inl (cI, 8, .inl sr)), (sD, .inl (cI, 32, .inl sd)), (rA, .inl (cI, 16, .inl Rr)), (eC, .inl (cI, 128, .inl Cr)), (eA, .inl (cI, 2, .inl En)), (pA, .inl (cI, 2, .inl Pl)), (dA, .inl (cI, 2, .inl Dn)), (kA, .inl (cI, 2, .inl Kp)), (acA, .inl (cI, 240, .inl Ar))] (tyL cI cZ cJ)) (tm_re P n q) := by
  refine Met.ofW (cc := b_Mo_reason) (maxL := 3) (ret := (some .int)) (by decide) rfl ?_
  intro p e s m args below meth c s₁ B0 hml hv
  obtain ⟨rfl, hP, hK⟩ := hv
  have hx := B0.exec
  have hb := B0.bytes
  have hr := B0.returns
  have hlocks := B0.notSynchronized
  have hg : ∀ w ∈ gG, w.before _ s = true := fun w h => atoms_spec B0.pre w (List.mem_cons_of_mem _ h)
  have hown : s.vm.findClass R_Mo = some m.cls := findClass_of_methodNamed B0.named
  have hP : va_P D cls [(m0, .inr (5, [.int th, .int (nI n), .ref oA, .ref aA, .ref bB, .ref cC, .int tl, .int (nI k), .ref gA, .ref zA, .ref bA, .ref sR, .ref sD, .ref rA, .ref eC, .ref eA, .ref pA, .ref dA, .ref kA, .ref acA, .int nx])), (oA, .inl (cI, 24, .inl Po)), (aA, .inl (cI, 24, .inl Pa)), (bB, .inl (cI, 24, .inl Pb)), (cC, .inl (cI, 24, .inl Pc)), (gA, .inl (cI, 1600, .inl G)), (zA, .inl (cZ, 400, .inl O)), (bA, .inl (cI, 25, .inl B)), (sR, .inl (cI, 8, .inl sr)), (sD, .inl (cI, 32, .inl sd)), (rA, .inl (cI, 16, .inl Rr)), (eC, .inl (cI, 128, .inl Cr)), (eA, .inl (cI, 2, .inl En)), (pA, .inl (cI, 2, .inl Pl)), (dA, .inl (cI, 2, .inl Dn)), (kA, .inl (cI, 2, .inl Kp)), (acA, .inl (cI, 240, .inl Ar))] s.heap := hP
  have hl := lv_entry ([.ref m0, .int (nI q)]) (n := 3) (Nat.le_of_ble_eq_true rfl)
  rw [lg_entry_eq]
  generalize (lg_sl ([.ref m0, .int (nI q)]) ++ List.replicate (3 - (lg_sl ([.ref m0, .int (nI q)])).length) Slot.unset).toArray = ls at hl ⊢
  have hl : lv_has ls 3 [(0, .ref m0), (1, .int (nI q))] := hl
  obtain ⟨⟨a1, a2⟩, -⟩ := hin q hq
  obtain ⟨v, hv15, hv⟩ := nI_of2 (M := 15) (n := 15) rfl (Int32.not_lt.mpr a1) a2
  rcases (show 14 ≤ v ∨ v ≤ 8 ∨ (9 ≤ v ∧ v ≤ 13) by omega) with e0 | e0 | e0
  · have f13 : ¬ P (4 * q) ≤ 13 := by rw [hv]; exact nI_ge (a := 13) (b := v) (by omega) (by omega)
    refine lv_aload_n hx hb d_Mo_reason_0 rfl (lv_at hl 0 rfl) ?_
    refine va_get (D := D) (ci := 5) (v := .ref oA) (C := R_Mo) (T := F_Mo) (N := 21) hx hb hg f_Mo hown hK.1 hP 0 rfl rfl 2 (by decide) (hg _ q565) (fun _ h9 => h9) rfl d_Mo_reason_1 ?_
    refine lv_iload_n hx hb d_Mo_reason_4 rfl (lv_at hl 1 rfl) ?_
    refine xa_ld hx hb hK hP 1 0 rfl rfl (kx := q) (rfl) (by omega) (by decide) d_Mo_reason_5 ?_
    have eq9 : (Po q : Int32) = P (4 * q) := hPo q
    refine W.eq (g2 := F0 m 6 ls [.int (P (4 * q))]) (by rw [eq9]) ?_
    have eq9 : (P (4 * q) : Int32) = nI v := hv
    refine W.eq (g2 := F0 m 6 ls [.int (nI v)]) (by rw [eq9]) ?_
    refine lv_istore_n hx hb d_Mo_reason_6 rfl hl (by decide) rfl (fun ls hl => ?_)
    have hl : lv_has ls 3 [(2, .int (nI v)), (0, .ref m0), (1, .int (nI q))] := hl
    refine lv_iload_n hx hb d_Mo_reason_7 rfl (lv_at hl 0 rfl) ?_
    refine lv_bipush (v := 13) hx hb d_Mo_reason_8 (by decide) ?_
    refine lv_icmp_le (tgt := 15) hx hb d_Mo_reason_10 rfl (fun hz9 => absurd hz9 (nI_ge (a := 13) (b := v) (by omega) (by omega))) (fun _ => ?_)
    refine lv_iconst (v := 1) hx hb d_Mo_reason_13 (by decide) ?_
    exact W.iret (v := 1) hx hb hr (fun t9 ht9 hW9 => ⟨1, rfl, by simp [tm_re, f13], ht9⟩) (fun _ h => by cases h) d_Mo_reason_14
  · have f13 : P (4 * q) ≤ 13 := by rw [hv]; exact nI_le (a := v) (b := 13) (by omega) (by decide)
    have f9 : ¬ 9 ≤ P (4 * q) := by rw [hv]; exact nI_ge (a := v) (b := 9) (by omega) (by decide)
    refine lv_aload_n hx hb d_Mo_reason_0 rfl (lv_at hl 0 rfl) ?_
    refine va_get (D := D) (ci := 5) (v := .ref oA) (C := R_Mo) (T := F_Mo) (N := 21) hx hb hg f_Mo hown hK.1 hP 0 rfl rfl 2 (by decide) (hg _ q565) (fun _ h9 => h9) rfl d_Mo_reason_1 ?_
    refine lv_iload_n hx hb d_Mo_reason_4 rfl (lv_at hl 1 rfl) ?_
    refine xa_ld hx hb hK hP 1 0 rfl rfl (kx := q) (rfl) (by omega) (by decide) d_Mo_reason_5 ?_
    have eq9 : (Po q : Int32) = P (4 * q) := hPo q
    refine W.eq (g2 := F0 m 6 ls [.int (P (4 * q))]) (by rw [eq9]) ?_
    have eq9 : (P (4 * q) : Int32) = nI v := hv
    refine W.eq (g2 := F0 m 6 ls [.int (nI v)]) (by rw [eq9]) ?_
    refine lv_istore_n hx hb d_Mo_reason_6 rfl hl (by decide) rfl (fun ls hl => ?_)
    have hl : lv_has ls 3 [(2, .int (nI v)), (0, .ref m0), (1, .int (nI q))] := hl
    refine lv_iload_n hx hb d_Mo_reason_7 rfl (lv_at hl 0 rfl) ?_
    refine lv_bipush (v := 13) hx hb d_Mo_reason_8 (by decide) ?_
    refine lv_icmp_le (tgt := 15) hx hb d_Mo_reason_10 rfl (fun _ => ?_) (fun hz9 => absurd (nI_le (a := v) (b := 13) (by omega) (by decide)) hz9)
    refine lv_iload_n hx hb d_Mo_reason_15 rfl (lv_at hl 0 rfl) ?_
    refine xr_S (As := [.int (nI v)]) (rest := []) ⟨hx, hb, hml, hown, hg⟩ (c_Mo_isBranch l D cI cZ cJ (nI v)) m_Mo_isBranch q655 ⟨rfl, rfl⟩ ⟨Nat.le_of_ble_eq_true rfl, Nat.le_of_ble_eq_true rfl⟩ hK hP [] rfl rfl hl.1 rfl (Nat.le_of_ble_eq_true rfl) d_Mo_reason_16 ⟨Nat.zero_le _, Nat.zero_le _⟩ ?_
    refine lv_if_ne (tgt := 24) hx hb d_Mo_reason_19 rfl (fun hz9 => absurd (tm_wi_0 (Or.inl (nI_lt (a := v) (b := 9) (by omega) (by decide)))) hz9) (fun _ => ?_)
    refine lv_iconst (v := 0) hx hb d_Mo_reason_22 (by decide) ?_
    exact W.iret (v := 0) hx hb hr (fun t9 ht9 hW9 => ⟨0, rfl, by simp [tm_re, f13, f9], ht9⟩) (fun _ h => by cases h) d_Mo_reason_23
  · have f13 : P (4 * q) ≤ 13 := by rw [hv]; exact nI_le (a := v) (b := 13) (by omega) (by decide)
    have f9 : 9 ≤ P (4 * q) := by rw [hv]; exact nI_le (a := 9) (b := v) (by omega) (by omega)
    rcases Nat.lt_or_ge (q + 1) n with hq1 | hq1
    · obtain ⟨⟨b1, b2⟩, -⟩ := hin (q + 1) hq1
      obtain ⟨w, hw15, hw⟩ := nI_of2 (M := 15) (n := 15) rfl (Int32.not_lt.mpr b1) b2
      have hcb := tm_cb_w hq1 hw hw15
      rcases (show w = 0 ∨ (1 ≤ w ∧ w ≤ 8) ∨ (9 ≤ w ∧ w ≤ 13) ∨ 14 ≤ w by omega) with e1 | e1 | e1 | e1
      · rw [if_neg (by omega)] at hcb
        refine lv_aload_n hx hb d_Mo_reason_0 rfl (lv_at hl 0 rfl) ?_
        refine va_get (D := D) (ci := 5) (v := .ref oA) (C := R_Mo) (T := F_Mo) (N := 21) hx hb hg f_Mo hown hK.1 hP 0 rfl rfl 2 (by decide) (hg _ q565) (fun _ h9 => h9) rfl d_Mo_reason_1 ?_
        refine lv_iload_n hx hb d_Mo_reason_4 rfl (lv_at hl 1 rfl) ?_
        refine xa_ld hx hb hK hP 1 0 rfl rfl (kx := q) (rfl) (by omega) (by decide) d_Mo_reason_5 ?_
        have eq9 : (Po q : Int32) = P (4 * q) := hPo q
        refine W.eq (g2 := F0 m 6 ls [.int (P (4 * q))]) (by rw [eq9]) ?_
        have eq9 : (P (4 * q) : Int32) = nI v := hv
        refine W.eq (g2 := F0 m 6 ls [.int (nI v)]) (by rw [eq9]) ?_
        refine lv_istore_n hx hb d_Mo_reason_6 rfl hl (by decide) rfl (fun ls hl => ?_)
        have hl : lv_has ls 3 [(2, .int (nI v)), (0, .ref m0), (1, .int (nI q))] := hl
        refine lv_iload_n hx hb d_Mo_reason_7 rfl (lv_at hl 0 rfl) ?_
        refine lv_bipush (v := 13) hx hb d_Mo_reason_8 (by decide) ?_
        refine lv_icmp_le (tgt := 15) hx hb d_Mo_reason_10 rfl (fun _ => ?_) (fun hz9 => absurd (nI_le (a := v) (b := 13) (by omega) (by decide)) hz9)
        refine lv_iload_n hx hb d_Mo_reason_15 rfl (lv_at hl 0 rfl) ?_
        refine xr_S (As := [.int (nI v)]) (rest := []) ⟨hx, hb, hml, hown, hg⟩ (c_Mo_isBranch l D cI cZ cJ (nI v)) m_Mo_isBranch q655 ⟨rfl, rfl⟩ ⟨Nat.le_of_ble_eq_true rfl, Nat.le_of_ble_eq_true rfl⟩ hK hP [] rfl rfl hl.1 rfl (Nat.le_of_ble_eq_true rfl) d_Mo_reason_16 ⟨Nat.zero_le _, Nat.zero_le _⟩ ?_
        refine lv_if_ne (tgt := 24) hx hb d_Mo_reason_19 rfl (fun _ => ?_) (fun hz9 => absurd hz9 (tm_wi_y (nI_le (a := 9) (b := v) (by omega) (by omega)) (nI_le (a := v) (b := 13) (by omega) (by omega))))
        refine lv_iload_n hx hb d_Mo_reason_24 rfl (lv_at hl 2 rfl) ?_
        refine lv_iconst (v := 1) hx hb d_Mo_reason_25 (by decide) ?_
        refine lv_iadd hx hb d_Mo_reason_26 ?_
        have eq9 : ((nI q) + 1 : Int32) = nI (q + 1) := nI_add q 1
        refine W.eq (g2 := F0 m 27 ls [.int (nI (q + 1))]) (by rw [eq9]) ?_
        refine lv_aload_n hx hb d_Mo_reason_27 rfl (lv_at hl 1 rfl) ?_
        refine va_get (D := D) (ci := 5) (v := .int (nI n)) (C := R_Mo) (T := F_Mo) (N := 21) hx hb hg f_Mo hown hK.1 hP 0 rfl rfl 1 (by decide) (hg _ q564) (fun _ h9 => h9) rfl d_Mo_reason_28 ?_
        refine lv_icmp_eq (tgt := 59) hx hb d_Mo_reason_31 rfl (fun hz9 => absurd hz9 (xn_ne (by omega) (by omega) (by omega))) (fun _ => ?_)
        refine lv_aload_n hx hb d_Mo_reason_34 rfl (lv_at hl 1 rfl) ?_
        refine va_get (D := D) (ci := 5) (v := .ref oA) (C := R_Mo) (T := F_Mo) (N := 21) hx hb hg f_Mo hown hK.1 hP 0 rfl rfl 2 (by decide) (hg _ q565) (fun _ h9 => h9) rfl d_Mo_reason_35 ?_
        refine lv_iload_n hx hb d_Mo_reason_38 rfl (lv_at hl 2 rfl) ?_
        refine lv_iconst (v := 1) hx hb d_Mo_reason_39 (by decide) ?_
        refine lv_iadd hx hb d_Mo_reason_40 ?_
        have eq9 : ((nI q) + 1 : Int32) = nI (q + 1) := nI_add q 1
        refine W.eq (g2 := F0 m 41 ls [.int (nI (q + 1)), .ref oA]) (by rw [eq9]) ?_
        refine xa_ld hx hb hK hP 1 0 rfl rfl (kx := q + 1) (rfl) (by omega) (by decide) d_Mo_reason_41 ?_
        have eq9 : (Po (q + 1) : Int32) = P (4 * (q + 1)) := hPo (q + 1)
        refine W.eq (g2 := F0 m 42 ls [.int (P (4 * (q + 1)))]) (by rw [eq9]) ?_
        have eq9 : (P (4 * (q + 1)) : Int32) = nI w := hw
        refine W.eq (g2 := F0 m 42 ls [.int (nI w)]) (by rw [eq9]) ?_
        refine xr_S (As := [.int (nI w)]) (rest := []) ⟨hx, hb, hml, hown, hg⟩ (c_Mo_isBranch l D cI cZ cJ (nI w)) m_Mo_isBranch q655 ⟨rfl, rfl⟩ ⟨Nat.le_of_ble_eq_true rfl, Nat.le_of_ble_eq_true rfl⟩ hK hP [] rfl rfl hl.1 rfl (Nat.le_of_ble_eq_true rfl) d_Mo_reason_42 ⟨Nat.zero_le _, Nat.zero_le _⟩ ?_
        refine lv_if_ne (tgt := 59) hx hb d_Mo_reason_45 rfl (fun hz9 => absurd (tm_wi_0 (Or.inl (nI_lt (a := w) (b := 9) (by omega) (by decide)))) hz9) (fun _ => ?_)
        refine lv_aload_n hx hb d_Mo_reason_48 rfl (lv_at hl 1 rfl) ?_
        refine va_get (D := D) (ci := 5) (v := .ref oA) (C := R_Mo) (T := F_Mo) (N := 21) hx hb hg f_Mo hown hK.1 hP 0 rfl rfl 2 (by decide) (hg _ q565) (fun _ h9 => h9) rfl d_Mo_reason_49 ?_
        refine lv_iload_n hx hb d_Mo_reason_52 rfl (lv_at hl 2 rfl) ?_
        refine lv_iconst (v := 1) hx hb d_Mo_reason_53 (by decide) ?_
        refine lv_iadd hx hb d_Mo_reason_54 ?_
        have eq9 : ((nI q) + 1 : Int32) = nI (q + 1) := nI_add q 1
        refine W.eq (g2 := F0 m 55 ls [.int (nI (q + 1)), .ref oA]) (by rw [eq9]) ?_
        refine xa_ld hx hb hK hP 1 0 rfl rfl (kx := q + 1) (rfl) (by omega) (by decide) d_Mo_reason_55 ?_
        have eq9 : (Po (q + 1) : Int32) = P (4 * (q + 1)) := hPo (q + 1)
        refine W.eq (g2 := F0 m 56 ls [.int (P (4 * (q + 1)))]) (by rw [eq9]) ?_
        have eq9 : (P (4 * (q + 1)) : Int32) = nI w := hw
        refine W.eq (g2 := F0 m 56 ls [.int (nI w)]) (by rw [eq9]) ?_
        refine lv_if_ne (tgt := 61) hx hb d_Mo_reason_56 rfl (fun hz9 => absurd (by rw [e1]; rfl) hz9) (fun _ => ?_)
        refine lv_iconst (v := 2) hx hb d_Mo_reason_59 (by decide) ?_
        exact W.iret (v := 2) hx hb hr (fun t9 ht9 hW9 => ⟨2, rfl, by simp [tm_re, f13, f9, hcb], ht9⟩) (fun _ h => by cases h) d_Mo_reason_60
      · rw [if_pos (by omega)] at hcb
        refine lv_aload_n hx hb d_Mo_reason_0 rfl (lv_at hl 0 rfl) ?_
        refine va_get (D := D) (ci := 5) (v := .ref oA) (C := R_Mo) (T := F_Mo) (N := 21) hx hb hg f_Mo hown hK.1 hP 0 rfl rfl 2 (by decide) (hg _ q565) (fun _ h9 => h9) rfl d_Mo_reason_1 ?_
        refine lv_iload_n hx hb d_Mo_reason_4 rfl (lv_at hl 1 rfl) ?_
        refine xa_ld hx hb hK hP 1 0 rfl rfl (kx := q) (rfl) (by omega) (by decide) d_Mo_reason_5 ?_
        have eq9 : (Po q : Int32) = P (4 * q) := hPo q
        refine W.eq (g2 := F0 m 6 ls [.int (P (4 * q))]) (by rw [eq9]) ?_
        have eq9 : (P (4 * q) : Int32) = nI v := hv
        refine W.eq (g2 := F0 m 6 ls [.int (nI v)]) (by rw [eq9]) ?_
        refine lv_istore_n hx hb d_Mo_reason_6 rfl hl (by decide) rfl (fun ls hl => ?_)
        have hl : lv_has ls 3 [(2, .int (nI v)), (0, .ref m0), (1, .int (nI q))] := hl
        refine lv_iload_n hx hb d_Mo_reason_7 rfl (lv_at hl 0 rfl) ?_
        refine lv_bipush (v := 13) hx hb d_Mo_reason_8 (by decide) ?_
        refine lv_icmp_le (tgt := 15) hx hb d_Mo_reason_10 rfl (fun _ => ?_) (fun hz9 => absurd (nI_le (a := v) (b := 13) (by omega) (by decide)) hz9)
        refine lv_iload_n hx hb d_Mo_reason_15 rfl (lv_at hl 0 rfl) ?_
        refine xr_S (As := [.int (nI v)]) (rest := []) ⟨hx, hb, hml, hown, hg⟩ (c_Mo_isBranch l D cI cZ cJ (nI v)) m_Mo_isBranch q655 ⟨rfl, rfl⟩ ⟨Nat.le_of_ble_eq_true rfl, Nat.le_of_ble_eq_true rfl⟩ hK hP [] rfl rfl hl.1 rfl (Nat.le_of_ble_eq_true rfl) d_Mo_reason_16 ⟨Nat.zero_le _, Nat.zero_le _⟩ ?_
        refine lv_if_ne (tgt := 24) hx hb d_Mo_reason_19 rfl (fun _ => ?_) (fun hz9 => absurd hz9 (tm_wi_y (nI_le (a := 9) (b := v) (by omega) (by omega)) (nI_le (a := v) (b := 13) (by omega) (by omega))))
        refine lv_iload_n hx hb d_Mo_reason_24 rfl (lv_at hl 2 rfl) ?_
        refine lv_iconst (v := 1) hx hb d_Mo_reason_25 (by decide) ?_
        refine lv_iadd hx hb d_Mo_reason_26 ?_
        have eq9 : ((nI q) + 1 : Int32) = nI (q + 1) := nI_add q 1
        refine W.eq (g2 := F0 m 27 ls [.int (nI (q + 1))]) (by rw [eq9]) ?_
        refine lv_aload_n hx hb d_Mo_reason_27 rfl (lv_at hl 1 rfl) ?_
        refine va_get (D := D) (ci := 5) (v := .int (nI n)) (C := R_Mo) (T := F_Mo) (N := 21) hx hb hg f_Mo hown hK.1 hP 0 rfl rfl 1 (by decide) (hg _ q564) (fun _ h9 => h9) rfl d_Mo_reason_28 ?_
        refine lv_icmp_eq (tgt := 59) hx hb d_Mo_reason_31 rfl (fun hz9 => absurd hz9 (xn_ne (by omega) (by omega) (by omega))) (fun _ => ?_)
        refine lv_aload_n hx hb d_Mo_reason_34 rfl (lv_at hl 1 rfl) ?_
        refine va_get (D := D) (ci := 5) (v := .ref oA) (C := R_Mo) (T := F_Mo) (N := 21) hx hb hg f_Mo hown hK.1 hP 0 rfl rfl 2 (by decide) (hg _ q565) (fun _ h9 => h9) rfl d_Mo_reason_35 ?_
        refine lv_iload_n hx hb d_Mo_reason_38 rfl (lv_at hl 2 rfl) ?_
        refine lv_iconst (v := 1) hx hb d_Mo_reason_39 (by decide) ?_
        refine lv_iadd hx hb d_Mo_reason_40 ?_
        have eq9 : ((nI q) + 1 : Int32) = nI (q + 1) := nI_add q 1
        refine W.eq (g2 := F0 m 41 ls [.int (nI (q + 1)), .ref oA]) (by rw [eq9]) ?_
        refine xa_ld hx hb hK hP 1 0 rfl rfl (kx := q + 1) (rfl) (by omega) (by decide) d_Mo_reason_41 ?_
        have eq9 : (Po (q + 1) : Int32) = P (4 * (q + 1)) := hPo (q + 1)
        refine W.eq (g2 := F0 m 42 ls [.int (P (4 * (q + 1)))]) (by rw [eq9]) ?_
        have eq9 : (P (4 * (q + 1)) : Int32) = nI w := hw
        refine W.eq (g2 := F0 m 42 ls [.int (nI w)]) (by rw [eq9]) ?_
        refine xr_S (As := [.int (nI w)]) (rest := []) ⟨hx, hb, hml, hown, hg⟩ (c_Mo_isBranch l D cI cZ cJ (nI w)) m_Mo_isBranch q655 ⟨rfl, rfl⟩ ⟨Nat.le_of_ble_eq_true rfl, Nat.le_of_ble_eq_true rfl⟩ hK hP [] rfl rfl hl.1 rfl (Nat.le_of_ble_eq_true rfl) d_Mo_reason_42 ⟨Nat.zero_le _, Nat.zero_le _⟩ ?_
        refine lv_if_ne (tgt := 59) hx hb d_Mo_reason_45 rfl (fun hz9 => absurd (tm_wi_0 (Or.inl (nI_lt (a := w) (b := 9) (by omega) (by decide)))) hz9) (fun _ => ?_)
        refine lv_aload_n hx hb d_Mo_reason_48 rfl (lv_at hl 1 rfl) ?_
        refine va_get (D := D) (ci := 5) (v := .ref oA) (C := R_Mo) (T := F_Mo) (N := 21) hx hb hg f_Mo hown hK.1 hP 0 rfl rfl 2 (by decide) (hg _ q565) (fun _ h9 => h9) rfl d_Mo_reason_49 ?_
        refine lv_iload_n hx hb d_Mo_reason_52 rfl (lv_at hl 2 rfl) ?_
        refine lv_iconst (v := 1) hx hb d_Mo_reason_53 (by decide) ?_
        refine lv_iadd hx hb d_Mo_reason_54 ?_
        have eq9 : ((nI q) + 1 : Int32) = nI (q + 1) := nI_add q 1
        refine W.eq (g2 := F0 m 55 ls [.int (nI (q + 1)), .ref oA]) (by rw [eq9]) ?_
        refine xa_ld hx hb hK hP 1 0 rfl rfl (kx := q + 1) (rfl) (by omega) (by decide) d_Mo_reason_55 ?_
        have eq9 : (Po (q + 1) : Int32) = P (4 * (q + 1)) := hPo (q + 1)
        refine W.eq (g2 := F0 m 56 ls [.int (P (4 * (q + 1)))]) (by rw [eq9]) ?_
        have eq9 : (P (4 * (q + 1)) : Int32) = nI w := hw
        refine W.eq (g2 := F0 m 56 ls [.int (nI w)]) (by rw [eq9]) ?_
        refine lv_if_ne (tgt := 61) hx hb d_Mo_reason_56 rfl (fun _ => ?_) (fun hz9 => absurd hz9 (xn_ne (w := 0) (by omega) (by decide) (by omega)))
        rcases (show v = 13 ∨ v ≤ 12 by omega) with e2 | e2
        · have g13 : P (4 * q) = 13 := by rw [hv, e2]; rfl
          refine lv_iload_n hx hb d_Mo_reason_61 rfl (lv_at hl 0 rfl) ?_
          refine lv_bipush (v := 13) hx hb d_Mo_reason_62 (by decide) ?_
          refine lv_icmp_eq (tgt := 89) hx hb d_Mo_reason_64 rfl (fun _ => ?_) (fun hz9 => absurd (by rw [e2]; rfl) hz9)
          refine lv_iconst (v := 0) hx hb d_Mo_reason_89 (by decide) ?_
          exact W.iret (v := 0) hx hb hr (fun t9 ht9 hW9 => ⟨0, rfl, by simp [tm_re, f13, f9, hcb, g13], ht9⟩) (fun _ h => by cases h) d_Mo_reason_90
        · have g13 : ¬ P (4 * q) = 13 := by rw [hv]; exact xn_ne (w := 13) (by omega) (by decide) (by omega)
          refine lv_iload_n hx hb d_Mo_reason_61 rfl (lv_at hl 0 rfl) ?_
          refine lv_bipush (v := 13) hx hb d_Mo_reason_62 (by decide) ?_
          refine lv_icmp_eq (tgt := 89) hx hb d_Mo_reason_64 rfl (fun hz9 => absurd hz9 (xn_ne (w := 13) (by omega) (by decide) (by omega))) (fun _ => ?_)
          refine lv_aload_n hx hb d_Mo_reason_67 rfl (lv_at hl 1 rfl) ?_
          refine lv_iload_n hx hb d_Mo_reason_68 rfl (lv_at hl 2 rfl) ?_
          refine xr_V (C := R_Mo) (As := [.int (nI q)]) (rest := []) ⟨hx, hb, hml, hown, hg⟩ (c_Mo_goal l D cI cZ cJ m0 oA aA bB cC gA zA bA sR sD rA eC eA pA dA kA acA Po Pa Pb Pc G O B sr sd Rr Cr En Pl Dn Kp Ar n k th tl nx P q v (hPo) (hPa) (hPb) (hPc) (by omega) (by omega) (hv) (by omega) (by omega)) m_Mo_goal q658 sp_Mo_goal ⟨rfl, rfl⟩ ⟨Nat.le_of_ble_eq_true rfl, Nat.le_of_ble_eq_true rfl⟩ hK hP [0, 1, 2, 3, 4, 5, 6, 7, 8, 9, 10, 11, 12, 13, 14, 15, 16] rfl (va_recv (q0 := 0) hK.1 hP rfl rfl) rfl hl.1 rfl (Nat.le_of_ble_eq_true rfl) d_Mo_reason_69 ⟨Nat.zero_le _, Nat.zero_le _⟩ ?_
          refine lv_iconst (v := 0) hx hb d_Mo_reason_72 (by decide) ?_
          refine lv_aload_n hx hb d_Mo_reason_73 rfl (lv_at hl 1 rfl) ?_
          refine va_get (D := D) (ci := 5) (v := .int (nI n)) (C := R_Mo) (T := F_Mo) (N := 21) hx hb hg f_Mo hown hK.1 hP 0 rfl rfl 1 (by decide) (hg _ q564) (fun _ h9 => h9) rfl d_Mo_reason_74 ?_
          refine lv_iconst (v := 1) hx hb d_Mo_reason_77 (by decide) ?_
          refine lv_isub hx hb d_Mo_reason_78 ?_
          have eq9 : ((nI n) - 1 : Int32) = nI (n - 1) := pk_sub (a := n) (b := 1) (by omega)
          refine W.eq (g2 := F0 m 79 ls [.int (nI (n - 1)), .int 0, .int (tm_ld P q)]) (by rw [eq9]) ?_
          refine xr_S (As := [.int (tm_ld P q), .int 0, .int (nI (n - 1))]) (rest := []) ⟨hx, hb, hml, hown, hg⟩ (c_Mo_in l D cI cZ cJ (tm_ld P q) 0 (nI (n - 1))) m_Mo_in q636 ⟨rfl, rfl⟩ ⟨Nat.le_of_ble_eq_true rfl, Nat.le_of_ble_eq_true rfl⟩ hK hP [] rfl rfl hl.1 rfl (Nat.le_of_ble_eq_true rfl) d_Mo_reason_79 ⟨Nat.zero_le _, Nat.zero_le _⟩ ?_
          have eq9 : (tm_wi (tm_ld P q) 0 (nI (n - 1)) : Int32) = tm_hs n (tm_ld P q) := xn_wh (by omega) (by omega) _
          refine W.eq (g2 := F0 m 82 ls [.int (tm_hs n (tm_ld P q))]) (by rw [eq9]) ?_
          refine lv_if_ne (tgt := 89) hx hb d_Mo_reason_82 rfl (fun h103 => ?_) (fun h103 => ?_)
          · refine lv_iconst (v := 0) hx hb d_Mo_reason_89 (by decide) ?_
            exact W.iret (v := 0) hx hb hr (fun t9 ht9 hW9 => ⟨0, rfl, by simp [tm_re, f13, f9, hcb, g13, h103], ht9⟩) (fun _ h => by cases h) d_Mo_reason_90
          · refine lv_iconst (v := 3) hx hb d_Mo_reason_85 (by decide) ?_
            refine lv_goto (tgt := 90) hx hb d_Mo_reason_86 rfl ?_
            exact W.iret (v := 3) hx hb hr (fun t9 ht9 hW9 => ⟨3, rfl, by simp [tm_re, f13, f9, hcb, g13, h103], ht9⟩) (fun _ h => by cases h) d_Mo_reason_90
      · rw [if_neg (by omega)] at hcb
        refine lv_aload_n hx hb d_Mo_reason_0 rfl (lv_at hl 0 rfl) ?_
        refine va_get (D := D) (ci := 5) (v := .ref oA) (C := R_Mo) (T := F_Mo) (N := 21) hx hb hg f_Mo hown hK.1 hP 0 rfl rfl 2 (by decide) (hg _ q565) (fun _ h9 => h9) rfl d_Mo_reason_1 ?_
        refine lv_iload_n hx hb d_Mo_reason_4 rfl (lv_at hl 1 rfl) ?_
        refine xa_ld hx hb hK hP 1 0 rfl rfl (kx := q) (rfl) (by omega) (by decide) d_Mo_reason_5 ?_
        have eq9 : (Po q : Int32) = P (4 * q) := hPo q
        refine W.eq (g2 := F0 m 6 ls [.int (P (4 * q))]) (by rw [eq9]) ?_
        have eq9 : (P (4 * q) : Int32) = nI v := hv
        refine W.eq (g2 := F0 m 6 ls [.int (nI v)]) (by rw [eq9]) ?_
        refine lv_istore_n hx hb d_Mo_reason_6 rfl hl (by decide) rfl (fun ls hl => ?_)
        have hl : lv_has ls 3 [(2, .int (nI v)), (0, .ref m0), (1, .int (nI q))] := hl
        refine lv_iload_n hx hb d_Mo_reason_7 rfl (lv_at hl 0 rfl) ?_
        refine lv_bipush (v := 13) hx hb d_Mo_reason_8 (by decide) ?_
        refine lv_icmp_le (tgt := 15) hx hb d_Mo_reason_10 rfl (fun _ => ?_) (fun hz9 => absurd (nI_le (a := v) (b := 13) (by omega) (by decide)) hz9)
        refine lv_iload_n hx hb d_Mo_reason_15 rfl (lv_at hl 0 rfl) ?_
        refine xr_S (As := [.int (nI v)]) (rest := []) ⟨hx, hb, hml, hown, hg⟩ (c_Mo_isBranch l D cI cZ cJ (nI v)) m_Mo_isBranch q655 ⟨rfl, rfl⟩ ⟨Nat.le_of_ble_eq_true rfl, Nat.le_of_ble_eq_true rfl⟩ hK hP [] rfl rfl hl.1 rfl (Nat.le_of_ble_eq_true rfl) d_Mo_reason_16 ⟨Nat.zero_le _, Nat.zero_le _⟩ ?_
        refine lv_if_ne (tgt := 24) hx hb d_Mo_reason_19 rfl (fun _ => ?_) (fun hz9 => absurd hz9 (tm_wi_y (nI_le (a := 9) (b := v) (by omega) (by omega)) (nI_le (a := v) (b := 13) (by omega) (by omega))))
        refine lv_iload_n hx hb d_Mo_reason_24 rfl (lv_at hl 2 rfl) ?_
        refine lv_iconst (v := 1) hx hb d_Mo_reason_25 (by decide) ?_
        refine lv_iadd hx hb d_Mo_reason_26 ?_
        have eq9 : ((nI q) + 1 : Int32) = nI (q + 1) := nI_add q 1
        refine W.eq (g2 := F0 m 27 ls [.int (nI (q + 1))]) (by rw [eq9]) ?_
        refine lv_aload_n hx hb d_Mo_reason_27 rfl (lv_at hl 1 rfl) ?_
        refine va_get (D := D) (ci := 5) (v := .int (nI n)) (C := R_Mo) (T := F_Mo) (N := 21) hx hb hg f_Mo hown hK.1 hP 0 rfl rfl 1 (by decide) (hg _ q564) (fun _ h9 => h9) rfl d_Mo_reason_28 ?_
        refine lv_icmp_eq (tgt := 59) hx hb d_Mo_reason_31 rfl (fun hz9 => absurd hz9 (xn_ne (by omega) (by omega) (by omega))) (fun _ => ?_)
        refine lv_aload_n hx hb d_Mo_reason_34 rfl (lv_at hl 1 rfl) ?_
        refine va_get (D := D) (ci := 5) (v := .ref oA) (C := R_Mo) (T := F_Mo) (N := 21) hx hb hg f_Mo hown hK.1 hP 0 rfl rfl 2 (by decide) (hg _ q565) (fun _ h9 => h9) rfl d_Mo_reason_35 ?_
        refine lv_iload_n hx hb d_Mo_reason_38 rfl (lv_at hl 2 rfl) ?_
        refine lv_iconst (v := 1) hx hb d_Mo_reason_39 (by decide) ?_
        refine lv_iadd hx hb d_Mo_reason_40 ?_
        have eq9 : ((nI q) + 1 : Int32) = nI (q + 1) := nI_add q 1
        refine W.eq (g2 := F0 m 41 ls [.int (nI (q + 1)), .ref oA]) (by rw [eq9]) ?_
        refine xa_ld hx hb hK hP 1 0 rfl rfl (kx := q + 1) (rfl) (by omega) (by decide) d_Mo_reason_41 ?_
        have eq9 : (Po (q + 1) : Int32) = P (4 * (q + 1)) := hPo (q + 1)
        refine W.eq (g2 := F0 m 42 ls [.int (P (4 * (q + 1)))]) (by rw [eq9]) ?_
        have eq9 : (P (4 * (q + 1)) : Int32) = nI w := hw
        refine W.eq (g2 := F0 m 42 ls [.int (nI w)]) (by rw [eq9]) ?_
        refine xr_S (As := [.int (nI w)]) (rest := []) ⟨hx, hb, hml, hown, hg⟩ (c_Mo_isBranch l D cI cZ cJ (nI w)) m_Mo_isBranch q655 ⟨rfl, rfl⟩ ⟨Nat.le_of_ble_eq_true rfl, Nat.le_of_ble_eq_true rfl⟩ hK hP [] rfl rfl hl.1 rfl (Nat.le_of_ble_eq_true rfl) d_Mo_reason_42 ⟨Nat.zero_le _, Nat.zero_le _⟩ ?_
        refine lv_if_ne (tgt := 59) hx hb d_Mo_reason_45 rfl (fun _ => ?_) (fun hz9 => absurd hz9 (tm_wi_y (nI_le (a := 9) (b := w) (by omega) (by omega)) (nI_le (a := w) (b := 13) (by omega) (by omega))))
        refine lv_iconst (v := 2) hx hb d_Mo_reason_59 (by decide) ?_
        exact W.iret (v := 2) hx hb hr (fun t9 ht9 hW9 => ⟨2, rfl, by simp [tm_re, f13, f9, hcb], ht9⟩) (fun _ h => by cases h) d_Mo_reason_60
      · rw [if_pos (by omega)] at hcb
        refine lv_aload_n hx hb d_Mo_reason_0 rfl (lv_at hl 0 rfl) ?_
        refine va_get (D := D) (ci := 5) (v := .ref oA) (C := R_Mo) (T := F_Mo) (N := 21) hx hb hg f_Mo hown hK.1 hP 0 rfl rfl 2 (by decide) (hg _ q565) (fun _ h9 => h9) rfl d_Mo_reason_1 ?_
        refine lv_iload_n hx hb d_Mo_reason_4 rfl (lv_at hl 1 rfl) ?_
        refine xa_ld hx hb hK hP 1 0 rfl rfl (kx := q) (rfl) (by omega) (by decide) d_Mo_reason_5 ?_
        have eq9 : (Po q : Int32) = P (4 * q) := hPo q
        refine W.eq (g2 := F0 m 6 ls [.int (P (4 * q))]) (by rw [eq9]) ?_
        have eq9 : (P (4 * q) : Int32) = nI v := hv
        refine W.eq (g2 := F0 m 6 ls [.int (nI v)]) (by rw [eq9]) ?_
        refine lv_istore_n hx hb d_Mo_reason_6 rfl hl (by decide) rfl (fun ls hl => ?_)
        have hl : lv_has ls 3 [(2, .int (nI v)), (0, .ref m0), (1, .int (nI q))] := hl
        refine lv_iload_n hx hb d_Mo_reason_7 rfl (lv_at hl 0 rfl) ?_
        refine lv_bipush (v := 13) hx hb d_Mo_reason_8 (by decide) ?_
        refine lv_icmp_le (tgt := 15) hx hb d_Mo_reason_10 rfl (fun _ => ?_) (fun hz9 => absurd (nI_le (a := v) (b := 13) (by omega) (by decide)) hz9)
        refine lv_iload_n hx hb d_Mo_reason_15 rfl (lv_at hl 0 rfl) ?_
        refine xr_S (As := [.int (nI v)]) (rest := []) ⟨hx, hb, hml, hown, hg⟩ (c_Mo_isBranch l D cI cZ cJ (nI v)) m_Mo_isBranch q655 ⟨rfl, rfl⟩ ⟨Nat.le_of_ble_eq_true rfl, Nat.le_of_ble_eq_true rfl⟩ hK hP [] rfl rfl hl.1 rfl (Nat.le_of_ble_eq_true rfl) d_Mo_reason_16 ⟨Nat.zero_le _, Nat.zero_le _⟩ ?_
        refine lv_if_ne (tgt := 24) hx hb d_Mo_reason_19 rfl (fun _ => ?_) (fun hz9 => absurd hz9 (tm_wi_y (nI_le (a := 9) (b := v) (by omega) (by omega)) (nI_le (a := v) (b := 13) (by omega) (by omega))))
        refine lv_iload_n hx hb d_Mo_reason_24 rfl (lv_at hl 2 rfl) ?_
        refine lv_iconst (v := 1) hx hb d_Mo_reason_25 (by decide) ?_
        refine lv_iadd hx hb d_Mo_reason_26 ?_
        have eq9 : ((nI q) + 1 : Int32) = nI (q + 1) := nI_add q 1
        refine W.eq (g2 := F0 m 27 ls [.int (nI (q + 1))]) (by rw [eq9]) ?_
        refine lv_aload_n hx hb d_Mo_reason_27 rfl (lv_at hl 1 rfl) ?_
        refine va_get (D := D) (ci := 5) (v := .int (nI n)) (C := R_Mo) (T := F_Mo) (N := 21) hx hb hg f_Mo hown hK.1 hP 0 rfl rfl 1 (by decide) (hg _ q564) (fun _ h9 => h9) rfl d_Mo_reason_28 ?_
        refine lv_icmp_eq (tgt := 59) hx hb d_Mo_reason_31 rfl (fun hz9 => absurd hz9 (xn_ne (by omega) (by omega) (by omega))) (fun _ => ?_)
        refine lv_aload_n hx hb d_Mo_reason_34 rfl (lv_at hl 1 rfl) ?_
        refine va_get (D := D) (ci := 5) (v := .ref oA) (C := R_Mo) (T := F_Mo) (N := 21) hx hb hg f_Mo hown hK.1 hP 0 rfl rfl 2 (by decide) (hg _ q565) (fun _ h9 => h9) rfl d_Mo_reason_35 ?_
        refine lv_iload_n hx hb d_Mo_reason_38 rfl (lv_at hl 2 rfl) ?_
        refine lv_iconst (v := 1) hx hb d_Mo_reason_39 (by decide) ?_
        refine lv_iadd hx hb d_Mo_reason_40 ?_
        have eq9 : ((nI q) + 1 : Int32) = nI (q + 1) := nI_add q 1
        refine W.eq (g2 := F0 m 41 ls [.int (nI (q + 1)), .ref oA]) (by rw [eq9]) ?_
        refine xa_ld hx hb hK hP 1 0 rfl rfl (kx := q + 1) (rfl) (by omega) (by decide) d_Mo_reason_41 ?_
        have eq9 : (Po (q + 1) : Int32) = P (4 * (q + 1)) := hPo (q + 1)
        refine W.eq (g2 := F0 m 42 ls [.int (P (4 * (q + 1)))]) (by rw [eq9]) ?_
        have eq9 : (P (4 * (q + 1)) : Int32) = nI w := hw
        refine W.eq (g2 := F0 m 42 ls [.int (nI w)]) (by rw [eq9]) ?_
        refine xr_S (As := [.int (nI w)]) (rest := []) ⟨hx, hb, hml, hown, hg⟩ (c_Mo_isBranch l D cI cZ cJ (nI w)) m_Mo_isBranch q655 ⟨rfl, rfl⟩ ⟨Nat.le_of_ble_eq_true rfl, Nat.le_of_ble_eq_true rfl⟩ hK hP [] rfl rfl hl.1 rfl (Nat.le_of_ble_eq_true rfl) d_Mo_reason_42 ⟨Nat.zero_le _, Nat.zero_le _⟩ ?_
        refine lv_if_ne (tgt := 59) hx hb d_Mo_reason_45 rfl (fun hz9 => absurd (tm_wi_0 (Or.inr (nI_lt (a := 13) (b := w) (by omega) (by omega)))) hz9) (fun _ => ?_)
        refine lv_aload_n hx hb d_Mo_reason_48 rfl (lv_at hl 1 rfl) ?_
        refine va_get (D := D) (ci := 5) (v := .ref oA) (C := R_Mo) (T := F_Mo) (N := 21) hx hb hg f_Mo hown hK.1 hP 0 rfl rfl 2 (by decide) (hg _ q565) (fun _ h9 => h9) rfl d_Mo_reason_49 ?_
        refine lv_iload_n hx hb d_Mo_reason_52 rfl (lv_at hl 2 rfl) ?_
        refine lv_iconst (v := 1) hx hb d_Mo_reason_53 (by decide) ?_
        refine lv_iadd hx hb d_Mo_reason_54 ?_
        have eq9 : ((nI q) + 1 : Int32) = nI (q + 1) := nI_add q 1
        refine W.eq (g2 := F0 m 55 ls [.int (nI (q + 1)), .ref oA]) (by rw [eq9]) ?_
        refine xa_ld hx hb hK hP 1 0 rfl rfl (kx := q + 1) (rfl) (by omega) (by decide) d_Mo_reason_55 ?_
        have eq9 : (Po (q + 1) : Int32) = P (4 * (q + 1)) := hPo (q + 1)
        refine W.eq (g2 := F0 m 56 ls [.int (P (4 * (q + 1)))]) (by rw [eq9]) ?_
        have eq9 : (P (4 * (q + 1)) : Int32) = nI w := hw
        refine W.eq (g2 := F0 m 56 ls [.int (nI w)]) (by rw [eq9]) ?_
        refine lv_if_ne (tgt := 61) hx hb d_Mo_reason_56 rfl (fun _ => ?_) (fun hz9 => absurd hz9 (xn_ne (w := 0) (by omega) (by decide) (by omega)))
        rcases (show v = 13 ∨ v ≤ 12 by omega) with e2 | e2
        · have g13 : P (4 * q) = 13 := by rw [hv, e2]; rfl
          refine lv_iload_n hx hb d_Mo_reason_61 rfl (lv_at hl 0 rfl) ?_
          refine lv_bipush (v := 13) hx hb d_Mo_reason_62 (by decide) ?_
          refine lv_icmp_eq (tgt := 89) hx hb d_Mo_reason_64 rfl (fun _ => ?_) (fun hz9 => absurd (by rw [e2]; rfl) hz9)
          refine lv_iconst (v := 0) hx hb d_Mo_reason_89 (by decide) ?_
          exact W.iret (v := 0) hx hb hr (fun t9 ht9 hW9 => ⟨0, rfl, by simp [tm_re, f13, f9, hcb, g13], ht9⟩) (fun _ h => by cases h) d_Mo_reason_90
        · have g13 : ¬ P (4 * q) = 13 := by rw [hv]; exact xn_ne (w := 13) (by omega) (by decide) (by omega)
          refine lv_iload_n hx hb d_Mo_reason_61 rfl (lv_at hl 0 rfl) ?_
          refine lv_bipush (v := 13) hx hb d_Mo_reason_62 (by decide) ?_
          refine lv_icmp_eq (tgt := 89) hx hb d_Mo_reason_64 rfl (fun hz9 => absurd hz9 (xn_ne (w := 13) (by omega) (by decide) (by omega))) (fun _ => ?_)
          refine lv_aload_n hx hb d_Mo_reason_67 rfl (lv_at hl 1 rfl) ?_
          refine lv_iload_n hx hb d_Mo_reason_68 rfl (lv_at hl 2 rfl) ?_
          refine xr_V (C := R_Mo) (As := [.int (nI q)]) (rest := []) ⟨hx, hb, hml, hown, hg⟩ (c_Mo_goal l D cI cZ cJ m0 oA aA bB cC gA zA bA sR sD rA eC eA pA dA kA acA Po Pa Pb Pc G O B sr sd Rr Cr En Pl Dn Kp Ar n k th tl nx P q v (hPo) (hPa) (hPb) (hPc) (by omega) (by omega) (hv) (by omega) (by omega)) m_Mo_goal q658 sp_Mo_goal ⟨rfl, rfl⟩ ⟨Nat.le_of_ble_eq_true rfl, Nat.le_of_ble_eq_true rfl⟩ hK hP [0, 1, 2, 3, 4, 5, 6, 7, 8, 9, 10, 11, 12, 13, 14, 15, 16] rfl (va_recv (q0 := 0) hK.1 hP rfl rfl) rfl hl.1 rfl (Nat.le_of_ble_eq_true rfl) d_Mo_reason_69 ⟨Nat.zero_le _, Nat.zero_le _⟩ ?_
          refine lv_iconst (v := 0) hx hb d_Mo_reason_72 (by decide) ?_
          refine lv_aload_n hx hb d_Mo_reason_73 rfl (lv_at hl 1 rfl) ?_
          refine va_get (D := D) (ci := 5) (v := .int (nI n)) (C := R_Mo) (T := F_Mo) (N := 21) hx hb hg f_Mo hown hK.1 hP 0 rfl rfl 1 (by decide) (hg _ q564) (fun _ h9 => h9) rfl d_Mo_reason_74 ?_
          refine lv_iconst (v := 1) hx hb d_Mo_reason_77 (by decide) ?_
          refine lv_isub hx hb d_Mo_reason_78 ?_
          have eq9 : ((nI n) - 1 : Int32) = nI (n - 1) := pk_sub (a := n) (b := 1) (by omega)
          refine W.eq (g2 := F0 m 79 ls [.int (nI (n - 1)), .int 0, .int (tm_ld P q)]) (by rw [eq9]) ?_
          refine xr_S (As := [.int (tm_ld P q), .int 0, .int (nI (n - 1))]) (rest := []) ⟨hx, hb, hml, hown, hg⟩ (c_Mo_in l D cI cZ cJ (tm_ld P q) 0 (nI (n - 1))) m_Mo_in q636 ⟨rfl, rfl⟩ ⟨Nat.le_of_ble_eq_true rfl, Nat.le_of_ble_eq_true rfl⟩ hK hP [] rfl rfl hl.1 rfl (Nat.le_of_ble_eq_true rfl) d_Mo_reason_79 ⟨Nat.zero_le _, Nat.zero_le _⟩ ?_
          have eq9 : (tm_wi (tm_ld P q) 0 (nI (n - 1)) : Int32) = tm_hs n (tm_ld P q) := xn_wh (by omega) (by omega) _
          refine W.eq (g2 := F0 m 82 ls [.int (tm_hs n (tm_ld P q))]) (by rw [eq9]) ?_
          refine lv_if_ne (tgt := 89) hx hb d_Mo_reason_82 rfl (fun h104 => ?_) (fun h104 => ?_)
          · refine lv_iconst (v := 0) hx hb d_Mo_reason_89 (by decide) ?_
            exact W.iret (v := 0) hx hb hr (fun t9 ht9 hW9 => ⟨0, rfl, by simp [tm_re, f13, f9, hcb, g13, h104], ht9⟩) (fun _ h => by cases h) d_Mo_reason_90
          · refine lv_iconst (v := 3) hx hb d_Mo_reason_85 (by decide) ?_
            refine lv_goto (tgt := 90) hx hb d_Mo_reason_86 rfl ?_
            exact W.iret (v := 3) hx hb hr (fun t9 ht9 hW9 => ⟨3, rfl, by simp [tm_re, f13, f9, hcb, g13, h104], ht9⟩) (fun _ h => by cases h) d_Mo_reason_90
    · have e9 : n = q + 1 := by omega
      have hcb : tm_cb P n (q + 1) = 0 := tm_cb_end hq1
      refine lv_aload_n hx hb d_Mo_reason_0 rfl (lv_at hl 0 rfl) ?_
      refine va_get (D := D) (ci := 5) (v := .ref oA) (C := R_Mo) (T := F_Mo) (N := 21) hx hb hg f_Mo hown hK.1 hP 0 rfl rfl 2 (by decide) (hg _ q565) (fun _ h9 => h9) rfl d_Mo_reason_1 ?_
      refine lv_iload_n hx hb d_Mo_reason_4 rfl (lv_at hl 1 rfl) ?_
      refine xa_ld hx hb hK hP 1 0 rfl rfl (kx := q) (rfl) (by omega) (by decide) d_Mo_reason_5 ?_
      have eq9 : (Po q : Int32) = P (4 * q) := hPo q
      refine W.eq (g2 := F0 m 6 ls [.int (P (4 * q))]) (by rw [eq9]) ?_
      have eq9 : (P (4 * q) : Int32) = nI v := hv
      refine W.eq (g2 := F0 m 6 ls [.int (nI v)]) (by rw [eq9]) ?_
      refine lv_istore_n hx hb d_Mo_reason_6 rfl hl (by decide) rfl (fun ls hl => ?_)
      have hl : lv_has ls 3 [(2, .int (nI v)), (0, .ref m0), (1, .int (nI q))] := hl
      refine lv_iload_n hx hb d_Mo_reason_7 rfl (lv_at hl 0 rfl) ?_
      refine lv_bipush (v := 13) hx hb d_Mo_reason_8 (by decide) ?_
      refine lv_icmp_le (tgt := 15) hx hb d_Mo_reason_10 rfl (fun _ => ?_) (fun hz9 => absurd (nI_le (a := v) (b := 13) (by omega) (by decide)) hz9)
      refine lv_iload_n hx hb d_Mo_reason_15 rfl (lv_at hl 0 rfl) ?_
      refine xr_S (As := [.int (nI v)]) (rest := []) ⟨hx, hb, hml, hown, hg⟩ (c_Mo_isBranch l D cI cZ cJ (nI v)) m_Mo_isBranch q655 ⟨rfl, rfl⟩ ⟨Nat.le_of_ble_eq_true rfl, Nat.le_of_ble_eq_true rfl⟩ hK hP [] rfl rfl hl.1 rfl (Nat.le_of_ble_eq_true rfl) d_Mo_reason_16 ⟨Nat.zero_le _, Nat.zero_le _⟩ ?_
      refine lv_if_ne (tgt := 24) hx hb d_Mo_reason_19 rfl (fun _ => ?_) (fun hz9 => absurd hz9 (tm_wi_y (nI_le (a := 9) (b := v) (by omega) (by omega)) (nI_le (a := v) (b := 13) (by omega) (by omega))))
      refine lv_iload_n hx hb d_Mo_reason_24 rfl (lv_at hl 2 rfl) ?_
      refine lv_iconst (v := 1) hx hb d_Mo_reason_25 (by decide) ?_
      refine lv_iadd hx hb d_Mo_reason_26 ?_
      have eq9 : ((nI q) + 1 : Int32) = nI (q + 1) := nI_add q 1
      refine W.eq (g2 := F0 m 27 ls [.int (nI (q + 1))]) (by rw [eq9]) ?_
      refine lv_aload_n hx hb d_Mo_reason_27 rfl (lv_at hl 1 rfl) ?_
      refine va_get (D := D) (ci := 5) (v := .int (nI n)) (C := R_Mo) (T := F_Mo) (N := 21) hx hb hg f_Mo hown hK.1 hP 0 rfl rfl 1 (by decide) (hg _ q564) (fun _ h9 => h9) rfl d_Mo_reason_28 ?_
      refine lv_icmp_eq (tgt := 59) hx hb d_Mo_reason_31 rfl (fun _ => ?_) (fun hz9 => absurd (by rw [e9]) hz9)
      refine lv_iconst (v := 2) hx hb d_Mo_reason_59 (by decide) ?_
      exact W.iret (v := 2) hx hb hr (fun t9 ht9 hW9 => ⟨2, rfl, by simp [tm_re, f13, f9, hcb], ht9⟩) (fun _ h => by cases h) d_Mo_reason_60
