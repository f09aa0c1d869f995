/-! PURE: a program that isn't refused can be written place by place; the beginnings and the code of a time of writing -/
theorem tm_fm_all : ∀ k, k < 256 → tm_fm (nI k - nI 128) = (nI k - nI 128) &&& 7 := by decide +kernel
theorem tm_fm_and {x : Int32} (h1 : (-128 : Int32) ≤ x) (h2 : x ≤ 127) : tm_fm x = x &&& 7 := by
  rw [Int32.le_iff_toInt_le] at h1 h2
  have e1 : (-128 : Int32).toInt = -128 := rfl
  have e2 : (127 : Int32).toInt = 127 := rfl
  rw [e1] at h1
  rw [e2] at h2
  have e : x = nI (x.toInt + 128).toNat - nI 128 := by
    apply Int32.toInt_inj.mp
    rw [pk_sub_toInt (by omega) (by omega)]
    omega
  rw [e]
  exact tm_fm_all _ (by omega)
theorem tm_hs_1 {n : Nat} {x : Int32} (hn : n < 2 ^ 31) (h : ¬ tm_hs n x = 0) : ∃ j : Nat, j < n ∧ x = nI j := by
  unfold tm_hs at h
  rcases pk_ix x hn with h1 | h1 | h1
  · rw [if_pos h1] at h; exact absurd rfl h
  · by_cases h0 : x < 0
    · rw [if_pos h0] at h; exact absurd rfl h
    · rw [if_neg h0, if_pos h1] at h; exact absurd rfl h
  · exact h1
theorem tm_gp_of {P : Nat → Int32} {n q : Nat} (hn : n ≤ 24) (hin : tm_in P n) (hok : tm_ok P n) (hq : q < n) : tm_gp P n q (tm_of P n q) := by
  obtain ⟨⟨a1, a2⟩, -, -, c1, c2⟩ := hin q hq
  have hre := hok q hq
  have h13 : P (4 * q) ≤ 13 := by
    by_cases h : P (4 * q) ≤ 13
    · exact h
    · unfold tm_re at hre
      rw [if_neg h] at hre
      exact absurd hre (by decide)
  obtain ⟨v, hv, e⟩ := nI_of2 (M := 13) (n := 13) rfl (Int32.not_lt.mpr a1) h13
  have hb : tm_br P q = decide (9 ≤ v) := by
    unfold tm_br
    rw [e]
    have := nI_leI (a := 9) (b := v) (by decide) (by omega)
    simp only [decide_eq_decide]
    exact this
  have hfit := tm_fit hn hok hq
  refine ⟨v, hv, e, fun h8 => ⟨?_, tm_fm_and c1 c2⟩, fun h9 => ?_, fun h9 h12 => ?_⟩
  · rcases hfit with h | h <;> omega
  · have hbt : tm_br P q = true := by rw [hb]; simpa using h9
    obtain ⟨s1, -, -, -⟩ := tm_slot hok hq hbt
    obtain ⟨-, -, -, d1, d2⟩ := hin (q + 1) s1
    refine ⟨s1, ?_, tm_fm_and d1 d2⟩
    rcases hfit with h | h
    · exact h
    · rw [hbt] at h; cases h.1
  · have h9' : 9 ≤ P (4 * q) := by rw [e]; exact nI_le (a := 9) h9 (by omega)
    have hn13 : ¬ P (4 * q) = 13 := by rw [e]; exact xn_ne (w := 13) (by omega) (by decide) (by omega)
    unfold tm_re at hre
    rw [if_pos h13, if_pos h9'] at hre
    by_cases hc : tm_cb P n (q + 1) = 0
    · rw [if_pos hc] at hre; exact absurd hre (by decide)
    · rw [if_neg hc, if_neg hn13] at hre
      by_cases hh : tm_hs n (tm_ld P q) = 0
      · rw [if_pos hh] at hre; exact absurd hre (by decide)
      · exact tm_hs_1 (by omega) hh
/-- the beginnings, when the first j are set -/
def tm_bg (P : Nat → Int32) (n : Nat) (B : Nat → Int32) : Nat → Nat → Int32
  | 0 => B
  | j + 1 => upd (tm_bg P n B j) j (nI (tm_of P n j))
/-- the fields, when the first j places are written -/
def tm_ps (P : Nat → Int32) (n : Nat) (B F : Nat → Int32) : Nat → Nat → Int32
  | 0 => F
  | j + 1 => tm_pa (tm_rs (tm_bg P n B (j + 1))) (tm_ps P n B F j) (tm_of P n j) (tm_pl P n j)
/-- the fields behind a time of writing -/
def tm_p1 (P : Nat → Int32) (n : Nat) (B F : Nat → Int32) : Nat → Int32 := tm_w4 (tm_ps P n B F n) (tm_of P n n) 0 0 0 1
theorem tm_of_s (P : Nat → Int32) (n j : Nat) : tm_of P n j + (tm_pl P n j).length = tm_of P n (j + 1) := by simp [tm_of, tm_cs]
