/-! PURE: where runs start and end; refusing; adding -/
theorem tm_iv_K {P : Nat → Int32} {n : Nat} (hn : n ≤ 24) (hin : tm_in P n) (hok : tm_ok P n) {F : tF} (hF : ∀ j, j < 4 * (tm_of P n n + 1) → F j = tm_K P n j) : tm_iv F (tm_of P n n + 1) := by
  intro q hq
  have hl : q < (tm_all P n).length := by rw [tm_all_len]; exact hq
  have hx := List.getElem?_eq_getElem hl
  obtain ⟨v, a, b, hv, hv13, ha, ha8, hb, hb8, -⟩ := (sg_all hn hin hok).1 _ (List.getElem_mem hl)
  obtain ⟨k0, k1, k2, -⟩ := tm_pa_in (tm_rs (tm_kb P n)) (tm_all P n) (fun _ => 0) 0 q _ hx
  rw [Nat.zero_add] at k0 k1 k2
  exact ⟨v, a, b, (hF _ (by omega)).trans (k0.trans hv), by omega, (hF _ (by omega)).trans (k1.trans ha), ha8, (hF _ (by omega)).trans (k2.trans hb), hb8⟩
theorem tm_rfl_0 {P : Nat → Int32} {n : Nat} (hn : n ≤ 24) : ∀ g j, j + g = n → (tm_rfl P n g j = 0 ↔ ∀ p, j ≤ p → p < n → tm_re P n p = 0) := by
  intro g
  induction g with
  | zero => intro j h; exact ⟨fun _ p h1 h2 => by omega, fun _ => rfl⟩
  | succ g ih =>
    intro j h
    unfold tm_rfl
    by_cases h0 : tm_re P n j = 0
    · rw [if_pos h0, ih (j + 1) (by omega)]
      refine ⟨fun q p h1 h2 => ?_, fun q p h1 h2 => q p (by omega) h2⟩
      by_cases e : p = j
      · rw [e]; exact h0
      · exact q p (by omega) h2
    · rw [if_neg h0]
      refine ⟨fun q => ?_, fun q => absurd (q j (Nat.le_refl _) (by omega)) h0⟩
      exfalso
      have h3 : tm_re P n j = nI 1 ∨ tm_re P n j = nI 2 ∨ tm_re P n j = nI 3 := by
        unfold tm_re at h0 ⊢
        repeat' split
        all_goals first | exact Or.inl rfl | exact Or.inr (Or.inl rfl) | exact Or.inr (Or.inr rfl) | (exfalso; simp_all)
      rcases h3 with e | e | e <;> rw [e, nI_add] at q <;> exact xn_ne (w := 0) (by omega) (by decide) (by omega) q
theorem tm_ref_0 {P : Nat → Int32} {n : Nat} (hn : n ≤ 24) : tm_ref P n = 0 ↔ tm_ok P n := by
  unfold tm_ref tm_ok
  rw [tm_rfl_0 hn n 0 (by omega)]
  exact ⟨fun h p hp => h p (Nat.zero_le _) hp, fun h p _ hp => h p hp⟩
theorem tm_c0_sh {sd : tF} (h : ∀ i, tm_sh (sd i)) : ∀ i, tm_sh (tm_c0 sd i) := by
  intro i
  unfold tm_c0
  split
  · exact h i
  · exact tm_sh_0
theorem tm_js_0 {sr sd A : tF} (h0 : sr 0 = 0) (hr : ∀ i, tm_sh (sr i)) (hd : ∀ i, tm_sh (sd i)) : tm_jsJ (sr, tm_c0 sd, A, 0, 0, 0, 0, 1) := ⟨h0, fun i _ => hr i, fun i _ => tm_c0_sh hd i, Nat.zero_le 40⟩
theorem tm_of_lt {P : Nat → Int32} {n j : Nat} (hn : n ≤ 24) (hin : tm_in P n) (hok : tm_ok P n) (hj : j ≤ n) : tm_of P n j < 217 := by
  obtain ⟨y, e, -⟩ := tm_begin_at hn hin hok hj
  have h1 := (List.getElem?_eq_some_iff.mp e).1
  have h2 := tm_fits hn hok
  rw [tm_all_len] at h1
  omega
theorem tm_jt_0 {P : Nat → Int32} {n : Nat} (hn : n ≤ 24) (hin : tm_in P n) (hok : tm_ok P n) {sr sd A : tF} (hr : ∀ i, tm_sh (sr i)) (hd : ∀ i, tm_sh (sd i)) : tm_jtJ P n (tm_r1 sr, tm_c1 sr sd (tm_kb P n) n, A, 0, 0, 0, 0, 0) := by
  refine ⟨⟨rfl, fun i _ => ?_, fun i _ => ?_, Nat.zero_le 40⟩, fun x hx => ?_, fun _ => ?_⟩
  · show tm_sh (tm_r1 sr i)
    unfold tm_r1
    split
    · exact tm_sh_0
    · split
      · exact hr i
      · exact tm_sh_0
  · show tm_sh (tm_c1 sr sd (tm_kb P n) n i)
    unfold tm_c1
    split
    · exact hd i
    · split
      · exact tm_sh_0
      · split
        · exact hr _
        · split
          · exact tm_sh_nI (by have := tm_of_lt hn hin hok (j := i - 40) (by omega); omega)
          · exact tm_sh_0
  · show tm_c1 sr sd (tm_kb P n) n (40 + x) = _
    unfold tm_c1
    rw [if_neg (by omega), if_neg (by omega), if_neg (by omega), if_pos (by omega), Nat.add_sub_cancel_left]; rfl
  · obtain ⟨y, e1, e2⟩ := tm_begin_at hn hin hok (j := 0) (by omega)
    exact ⟨0, y, rfl, e1, an_0 e2⟩
theorem tm_c1_B {sr sd B B2 : tF} {n : Nat} (h : ∀ x, x < n → B x = B2 x) : tm_c1 sr sd B n = tm_c1 sr sd B2 n := by
  funext i
  unfold tm_c1
  by_cases h1 : i < 32
  · rw [if_pos h1, if_pos h1]
  · by_cases h2 : i < 36
    · rw [if_neg h1, if_neg h1, if_pos h2, if_pos h2]
    · by_cases h3 : i < 40
      · rw [if_neg h1, if_neg h1, if_neg h2, if_neg h2, if_pos h3, if_pos h3]
      · by_cases h4 : i < 40 + n
        · rw [if_neg h1, if_neg h1, if_neg h2, if_neg h2, if_neg h3, if_neg h3, if_pos h4, if_pos h4, h _ (by omega)]
        · rw [if_neg h1, if_neg h1, if_neg h2, if_neg h2, if_neg h3, if_neg h3, if_neg h4, if_neg h4]
/-- a run keeps at most forty accesses -/
theorem tm_run_s {P : Nat → Int32} {n : Nat} (hn : n ≤ 24) (hin : tm_in P n) : ∀ g S, tm_jsJ S → tm_jsJ (tm_run tm_ss P n g S) := by
  intro g
  induction g with
  | zero => intro S h; exact h
  | succ g ih =>
    intro S h
    unfold tm_run
    by_cases he : S.2.2.2.2.2.2.1 ≠ 0
    · rw [if_pos he]; exact h
    · rw [if_neg he]
      have he := Decidable.not_not.mp he
      rcases tm_js_of hn hin S h he with ⟨hh, hJ⟩ | ⟨q, v, a, b, eh, hq, -, -, -, -, -, -, -, -, -, -, hJ, -⟩
      · rw [if_pos hh]; exact hJ
      · rw [if_neg (by rw [eh]; exact tm_hs_y hq (by omega)), eh, nI_clamp (by omega)]
        exact ih _ hJ
theorem tm_run_t {P : Nat → Int32} {n : Nat} (hn : n ≤ 24) (hin : tm_in P n) (hok : tm_ok P n) : ∀ g S, tm_jtJ P n S → tm_jtJ P n (tm_run tm_ts (tm_K P n) (tm_of P n n + 1) g S) := by
  intro g
  induction g with
  | zero => intro S h; exact h
  | succ g ih =>
    intro S h
    have hL := tm_fits hn hok
    unfold tm_run
    by_cases he : S.2.2.2.2.2.2.1 ≠ 0
    · rw [if_pos he]; exact h
    · rw [if_neg he]
      have he := Decidable.not_not.mp he
      obtain ⟨q, v, a, b, w, dd, eh, hq, -, -, -, -, -, -, -, -, -, -, -, hJ, -⟩ := tm_jt_of hn hin hok S h he
      rw [if_neg (by rw [eh]; exact tm_hs_y hq (by omega)), eh, nI_clamp (by omega)]
      exact ih _ hJ
theorem tm_im_eq (y : Int32) : tm_im y = tm_wi y 0 1 := by
  unfold tm_im tm_wi
  by_cases h0 : y = 0
  · subst h0; rfl
  · by_cases h1 : y = 1
    · subst h1; rfl
    · rw [if_neg h0, if_neg h1]
      have a0 : y.toInt ≠ 0 := fun e => h0 (Int32.toInt_inj.mp e)
      have a1 : y.toInt ≠ 1 := fun e => h1 (Int32.toInt_inj.mp e)
      by_cases hl : y < 0
      · rw [if_pos hl]
      · rw [if_neg hl, if_pos]
        rw [Int32.lt_iff_toInt_lt] at hl ⊢
        have e0 : (0 : Int32).toInt = 0 := rfl
        have e1 : (1 : Int32).toInt = 1 := rfl
        omega
/-- adding keeps a program a program -/
theorem tm_in_add {P : Nat → Int32} {n : Nat} {u1 u2 u3 u4 : Int32} (hin : tm_in P n) (g1 : ¬ tm_wi u1 0 15 = 0) (g2 : ¬ tm_wi u2 0 7 = 0) (g3 : ¬ tm_wi u3 0 7 = 0) (g4 : ¬ tm_wi u4 (-128) 127 = 0) : tm_in (tm_w4 P n u1 u2 u3 u4) (n + 1) := by
  intro p hp
  by_cases e : p = n
  · subst e
    obtain ⟨a, b, c, d⟩ := tm_w4_in P p u1 u2 u3 u4
    rw [a, b, c, d]
    exact ⟨tm_wi_n g1, tm_wi_n g2, tm_wi_n g3, tm_wi_n g4⟩
  · rw [tm_w4_out (by omega), tm_w4_out (by omega), tm_w4_out (by omega), tm_w4_out (by omega)]
    exact hin p (by omega)
theorem tm_po_add {P Po : Nat → Int32} {n c : Nat} {u1 u2 u3 u4 u : Int32} (h : ∀ i, Po i = P (4 * i + c)) (hc : c < 4) (hu : tm_w4 P n u1 u2 u3 u4 (4 * n + c) = u) : ∀ i, upd Po n u i = tm_w4 P n u1 u2 u3 u4 (4 * i + c) := by
  intro i
  unfold upd
  by_cases e : i = n
  · rw [if_pos e, e, hu]
  · rw [if_neg e, tm_w4_out (by omega)]; exact h i
