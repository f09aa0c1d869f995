/-! PURE: the reference's reasons and its patching -/
theorem xn_wh {n : Nat} (h : 0 < n) (hn : n < 2 ^ 31) (x : Int32) : tm_wi x 0 (nI (n - 1)) = tm_hs n x := by
  unfold tm_wi tm_hs
  by_cases h0 : x < 0
  · rw [if_pos h0, if_pos h0]
  · rw [if_neg h0, if_neg h0]
    obtain ⟨j, hj, rfl⟩ := nI_of h0
    by_cases h1 : nI n ≤ nI j
    · rw [if_pos h1, if_pos]
      have := (nI_leI hn hj).mp h1
      exact nI_lt (by omega) hj
    · rw [if_neg h1, if_neg]
      intro h2
      have := (nI_ltI (by omega) hj).mp h2
      exact h1 (nI_le (by omega) hj)
theorem tm_re_le (P : Nat → Int32) (n p : Nat) : tm_re P n p ≤ 0 ↔ tm_re P n p = 0 := by
  unfold tm_re
  repeat' split
  all_goals decide
theorem tm_cb_end {P : Nat → Int32} {n q : Nat} (h : n ≤ q) : tm_cb P n q = 0 := by unfold tm_cb; rw [if_neg (by omega)]
theorem tm_cb_w {P : Nat → Int32} {n q w : Nat} (hq : q < n) (hw : P (4 * q) = nI w) (hw2 : w ≤ 15) : tm_cb P n q = if (1 ≤ w ∧ w ≤ 8) ∨ 14 ≤ w then 1 else 0 := by
  unfold tm_cb
  rw [if_pos hq, hw]
  by_cases h9 : w < 9
  · rw [if_pos (show nI w < 9 from nI_lt (a := w) (b := 9) h9 (by decide))]
    by_cases h0 : w = 0
    · subst h0; rfl
    · rw [if_neg (show ¬ nI w = 0 from xn_ne (w := 0) (by omega) (by decide) h0), if_pos (by omega)]
  · rw [if_neg (show ¬ nI w < 9 from nI_nlt (a := w) (b := 9) (by omega) (by omega))]
    by_cases h13 : 13 < w
    · rw [if_pos (show 13 < nI w from nI_lt (a := 13) (b := w) h13 (by omega)), if_neg (show ¬ nI w = 0 from xn_ne (w := 0) (by omega) (by decide) (by omega)), if_pos (by omega)]
    · rw [if_neg (show ¬ 13 < nI w from nI_nlt (a := 13) (b := w) (by omega) (by decide)), if_neg (by omega)]
/-- the first i instructions led -/
def tm_pt (B O G : Nat → Int32) : Nat → Nat → Int32
  | 0 => G
  | i + 1 => if O i = 0 then tm_pt B O G i else upd (tm_pt B O G i) (4 * i + 3) (B (tm_pt B O G i (4 * i + 3)).toNatClampNeg)
theorem tm_pt_hi (B O G : Nat → Int32) : ∀ i j, 4 * i ≤ j → tm_pt B O G i j = G j := by
  intro i
  induction i with
  | zero => intro j _; rfl
  | succ i ih =>
    intro j hj
    unfold tm_pt
    split
    · exact ih j (by omega)
    · rw [pk_un (by omega)]; exact ih j (by omega)
theorem tm_pa_0 (P : Nat → Int32) (n : Nat) (G : Nat → Int32) (j : Nat) : tm_pa tm_rw (tm_pa tm_rw G 0 (tm_cs P n j)) (tm_of P n j) (tm_pl P n j) = tm_pa tm_rw G 0 (tm_cs P n (j + 1)) := by
  show _ = tm_pa tm_rw G 0 (tm_cs P n j ++ tm_pl P n j)
  rw [tm_pa_app, Nat.zero_add]; rfl
theorem tm_po_0 (P : Nat → Int32) (n : Nat) (O : Nat → Int32) (j : Nat) : tm_po (tm_po O 0 (tm_cs P n j)) (tm_of P n j) (tm_pl P n j) = tm_po O 0 (tm_cs P n (j + 1)) := by
  show _ = tm_po O 0 (tm_cs P n j ++ tm_pl P n j)
  rw [tm_po_app, Nat.zero_add]; rfl
theorem tm_pa_n (P : Nat → Int32) (n : Nat) (G : Nat → Int32) : tm_w4 (tm_pa tm_rw G 0 (tm_cs P n n)) (tm_of P n n) 0 0 0 1 = tm_pa tm_rw G 0 (tm_all P n) := by
  unfold tm_all
  rw [tm_pa_app, Nat.zero_add]; rfl
theorem tm_po_n (P : Nat → Int32) (n : Nat) (O : Nat → Int32) : upd (tm_po O 0 (tm_cs P n n)) (tm_of P n n) 0 = tm_po O 0 (tm_all P n) := by
  unfold tm_all
  rw [tm_po_app, Nat.zero_add]; rfl
theorem tm_gq_of {P : Nat → Int32} {n q : Nat} (hn : n ≤ 24) (hin : tm_in P n) (hok : tm_ok P n) (hq : q < n) : tm_gq P n q (tm_of P n q) := by
  obtain ⟨v, hv13, hv, h8, h9, -⟩ := tm_gp_of hn hin hok hq
  refine ⟨v, hv13, hv, fun h => (h8 h).1, fun h => ?_⟩
  obtain ⟨h1, h2, -⟩ := h9 h
  have hb : tm_br P q = true := by
    unfold tm_br
    rw [hv]
    exact decide_eq_true (nI_le (a := 9) h (by omega))
  obtain ⟨-, s2, s3, -⟩ := tm_slot hok hq hb
  obtain ⟨⟨a1, a2⟩, -⟩ := hin (q + 1) h1
  obtain ⟨w, hw15, hw⟩ := nI_of2 (M := 15) (n := 15) rfl (Int32.not_lt.mpr a1) a2
  have hw9 : w ≤ 8 := by
    unfold tm_br at s2
    rw [hw] at s2
    rcases Nat.lt_or_ge w 9 with z | z
    · omega
    · have h : (9 : Int32) ≤ nI w := nI_le (a := 9) (b := w) z (by omega)
      rw [decide_eq_true h] at s2
      cases s2
  refine ⟨h1, h2, w, ?_, hw9, hw⟩
  rcases Nat.eq_zero_or_pos w with z | z
  · subst z; exact absurd hw s3
  · exact z
