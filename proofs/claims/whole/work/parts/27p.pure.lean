/-! PURE: what begin lays, place by place -/
def tm_mx (s f : tF) (j : Nat) : tF := fun i => if i < j then s i else f i
theorem tm_mx_0 (s f : tF) : tm_mx s f 0 = f := by funext i; simp [tm_mx]
theorem tm_mx_s (s f : tF) (j : Nat) : upd (tm_mx s f j) j (s j) = tm_mx s f (j + 1) := by
  funext i
  unfold upd tm_mx
  by_cases h : i = j
  · rw [if_pos h, if_pos (by omega), h]
  · rw [if_neg h]
    by_cases h2 : i < j
    · rw [if_pos h2, if_pos (by omega)]
    · rw [if_neg h2, if_neg (by omega)]
def tm_r2 (sr : tF) : tF := fun i => if i < 4 then sr i else 0
def tm_mz (B f : tF) (j : Nat) : tF := fun i => if 40 ≤ i ∧ i < 40 + j then B (i - 40) else f i
theorem tm_mz_0 (B f : tF) : tm_mz B f 0 = f := by funext i; unfold tm_mz; rw [if_neg (by omega)]
theorem tm_mz_s (B f : tF) (j : Nat) : upd (tm_mz B f j) (40 + j) (B j) = tm_mz B f (j + 1) := by
  funext i
  unfold upd tm_mz
  by_cases h : i = 40 + j
  · rw [if_pos h, if_pos (by omega), h, Nat.add_sub_cancel_left]
  · rw [if_neg h]
    by_cases h2 : 40 ≤ i ∧ i < 40 + j
    · rw [if_pos h2, if_pos (by omega)]
    · rw [if_neg h2, if_neg (by omega)]
theorem tm_jn_al {w n : Nat} {f f2 g : tF} (h : ∀ i, i < w → f i = f2 i) : ∀ j, j < n → tm_jn w f g j = tm_jn w f2 g j := by
  intro j _
  unfold tm_jn
  by_cases hj : j < w
  · rw [if_pos hj, if_pos hj, h j hj]
  · rw [if_neg hj, if_neg hj]
theorem tm_jn_ah {w n : Nat} {f g g2 : tF} (h : ∀ i, i < n - w → g i = g2 i) : ∀ j, j < n → tm_jn w f g j = tm_jn w f g2 j := by
  intro j hn
  unfold tm_jn
  by_cases hj : j < w
  · rw [if_pos hj, if_pos hj]
  · rw [if_neg hj, if_neg hj, h (j - w) (by omega)]
theorem tm_r2_eq {sr f8 : tF} (h0 : sr 0 = 0) : ∀ i, i < 8 → tm_mx (tm_r2 sr) f8 8 i = tm_r1 sr i := by
  intro i hi
  unfold tm_mx tm_r2 tm_r1
  rw [if_pos hi]
  by_cases h : i = 0
  · subst h; rw [if_pos (by omega), if_pos rfl, h0]
  · rw [if_neg h]
theorem tm_c2_eq (sr sd B C : tF) {n : Nat} (hn : n ≤ 24) : ∀ i, i < 64 → tm_mz B (upd (upd (upd (upd (tm_mx (tm_c0 sd) C 64) 36 (sr 4)) 37 (sr 5)) 38 (sr 6)) 39 (sr 7)) n i = tm_c1 sr sd B n i := by
  intro i hi
  rw [← tm_c1_a sr sd B hn i hi]
  unfold tm_mz
  by_cases h : 40 ≤ i ∧ i < 40 + n
  · rw [if_pos h, pk_cpy_in h.1 h.2, Nat.zero_add]
  · rw [if_neg h, pk_cpy_out (by omega)]
    unfold upd tm_mx
    rw [if_pos hi]
