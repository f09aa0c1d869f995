/-! PURE: what a run of the reference keeps, as a hypothesis for its walk -/
theorem xn_wh2 (n : Nat) (hn : n < 2 ^ 31) (x : Int32) : tm_wi x 0 (nI n - 1) = tm_hs n x := by
  rcases Nat.eq_zero_or_pos n with h | h
  · subst h
    unfold tm_wi tm_hs
    by_cases h0 : x < 0
    · rw [if_pos h0, if_pos h0]
    · rw [if_neg h0, if_neg h0]
      have h1 : nI 0 ≤ x := Int32.not_lt.mp h0
      have h2 : nI 0 - 1 < x := by
        rw [Int32.le_iff_toInt_le] at h1
        rw [Int32.lt_iff_toInt_lt]
        have e0 : (nI 0).toInt = 0 := rfl
        have e1 : (nI 0 - 1).toInt = -1 := rfl
        omega
      rw [if_pos h1, if_pos h2]
  · rw [← xn_wh h hn, pk_sub (a := n) (b := 1) (by omega) |>.symm]; rfl
theorem tm_hs_y {n q : Nat} (h : q < n) (hn : n < 2 ^ 31) : ¬ tm_hs n (nI q) = 0 := by
  unfold tm_hs
  rw [if_neg (nI_pos (by omega)), if_neg (nI_ge h hn)]
  decide
/-- a state of the source's run that the reference can turn on from, and stays one -/
def tm_js (P : tF) (n : Nat) (J : tM → Prop) : Prop := ∀ S : tM, J S → S.2.2.2.2.2.2.1 = 0 → (tm_hs n S.2.2.2.2.1 = 0 ∧ J (S.1, S.2.1, S.2.2.1, S.2.2.2.1, S.2.2.2.2.1, S.2.2.2.2.2.1, 2, S.2.2.2.2.2.2.2)) ∨ ∃ q v a b : Nat, S.2.2.2.2.1 = nI q ∧ q < n ∧ P (4 * q) = nI v ∧ v ≤ 15 ∧ P (4 * q + 1) = nI a ∧ a < 8 ∧ P (4 * q + 2) = nI b ∧ b < 8 ∧ tm_sh (P (4 * q + 3)) ∧ S.1 0 = 0 ∧ (∀ i, i < 8 → tm_sh (S.1 i)) ∧ S.2.2.2.1 ≤ 40 ∧ J (tm_ss P q S) ∧ ((tm_ss P q S).2.2.2.2.2.2.1 = 0 → (tm_ss P q S).2.2.2.2.2.1 = S.2.2.2.2.2.1 + 1)
/-- the same of the target's run -/
def tm_jt (G : tF) (L : Nat) (J : tM → Prop) : Prop := ∀ S : tM, J S → S.2.2.2.2.2.2.1 = 0 → ∃ q v a b w dd : Nat, S.2.2.2.2.1 = nI q ∧ q < L ∧ G (4 * q) = nI v ∧ v ≤ 13 ∧ G (4 * q + 1) = nI a ∧ a < 8 ∧ G (4 * q + 2) = nI b ∧ b < 8 ∧ (1 ≤ v → v ≤ 4 → G (4 * q + 3) = nI w ∧ w < 8) ∧ (7 ≤ v → v ≤ 8 → tm_adr G q S.1 = nI dd ∧ dd < 64) ∧ S.1 0 = 0 ∧ (∀ i, i < 8 → tm_sh (S.1 i)) ∧ S.2.2.2.1 ≤ 40 ∧ J (tm_ts G q S) ∧ ((tm_ts G q S).2.2.2.2.2.2.1 = 0 → (tm_ts G q S).2.2.2.2.2.1 = S.2.2.2.2.2.1 + 1)
