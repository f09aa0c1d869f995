/-! PURE: runs over fields that agree; the source's run keeps what the reference asks -/
theorem tm_ts_eq {F G : tF} {q : Nat} (h0 : F (4 * q) = G (4 * q)) (h1 : F (4 * q + 1) = G (4 * q + 1)) (h2 : F (4 * q + 2) = G (4 * q + 2)) (h3 : F (4 * q + 3) = G (4 * q + 3)) (S : tM) : tm_ts F q S = tm_ts G q S := by
  obtain ⟨R, C, A, k, h, d, e, x⟩ := S
  have e1 : tm_adr F q R = tm_adr G q R := by unfold tm_adr; rw [h2, h3]
  have e2 : tm_alu F q R = tm_alu G q R := by unfold tm_alu; rw [h0, h1, h2, h3]
  have e3 : tm_mR F q R C = tm_mR G q R C := by unfold tm_mR; rw [h0, h1, e1]
  have e4 : tm_mC F q R C = tm_mC G q R C := by unfold tm_mC; rw [h0, h1, e1]
  have e5 : tm_mA F q R C A k = tm_mA G q R C A k := by unfold tm_mA; rw [h0, h1, e1]
  have e6 : tm_tb F q R = tm_tb G q R := by unfold tm_tb; rw [h0, h1, h2, h3]
  unfold tm_ts
  dsimp only
  rw [e1, e2, e3, e4, e5, e6, h0, h3]
theorem tm_run_eq {F G : tF} {N : Nat} (hN : N < 2 ^ 31) (h : ∀ j, j < 4 * N → F j = G j) : ∀ (g : Nat) (S : tM), tm_run tm_ts F N g S = tm_run tm_ts G N g S := by
  intro g
  induction g with
  | zero => intro S; rfl
  | succ g ih =>
    intro S
    unfold tm_run
    by_cases he : S.2.2.2.2.2.2.1 ≠ 0
    · rw [if_pos he, if_pos he]
    · rw [if_neg he, if_neg he]
      by_cases hh : tm_hs N S.2.2.2.2.1 = 0
      · rw [if_pos hh, if_pos hh]
      · rw [if_neg hh, if_neg hh]
        obtain ⟨j, hj, e⟩ := tm_hs_1 hN hh
        have hc : S.2.2.2.2.1.toNatClampNeg = j := by rw [e]; exact nI_clamp (by omega)
        rw [hc, tm_ts_eq (h _ (by omega)) (h _ (by omega)) (h _ (by omega)) (h _ (by omega)), ih]
theorem tm_in_at {P : Nat → Int32} {n q : Nat} (hin : tm_in P n) (hq : q < n) : ∃ v a b : Nat, P (4 * q) = nI v ∧ v ≤ 15 ∧ P (4 * q + 1) = nI a ∧ a < 8 ∧ P (4 * q + 2) = nI b ∧ b < 8 ∧ tm_sh (P (4 * q + 3)) := by
  obtain ⟨⟨a1, a2⟩, ⟨b1, b2⟩, ⟨c1, c2⟩, d1, d2⟩ := hin q hq
  obtain ⟨v, hv, ev⟩ := nI_of2 (M := 15) (n := 15) rfl (Int32.not_lt.mpr a1) a2
  obtain ⟨a, ha, ea⟩ := nI_of2 (M := 7) (n := 7) rfl (Int32.not_lt.mpr b1) b2
  obtain ⟨b, hb, eb⟩ := nI_of2 (M := 7) (n := 7) rfl (Int32.not_lt.mpr c1) c2
  refine ⟨v, a, b, ev, hv, ea, by omega, eb, by omega, ?_⟩
  rw [Int32.le_iff_toInt_le] at d1 d2
  have e1 : (-128 : Int32).toInt = -128 := rfl
  have e2 : (127 : Int32).toInt = 127 := rfl
  unfold tm_sh
  omega
theorem tm_iv_of {P : Nat → Int32} {n : Nat} (hin : tm_in P n) : tm_iv P n := fun q hq => by
  obtain ⟨v, a, b, h1, h2, h3, h4, h5, h6, -⟩ := tm_in_at hin hq
  exact ⟨v, a, b, h1, h2, h3, h4, h5, h6⟩
/-- what every state of a machine with N cells keeps -/
def tm_st (N : Nat) (S : tM) : Prop := S.1 0 = 0 ∧ (∀ i, i < 8 → tm_sh (S.1 i)) ∧ (∀ i, i < N → tm_sh (S.2.1 i)) ∧ S.2.2.2.1 ≤ 40
theorem tm_set_0 {R : tF} (h : R 0 = 0) (r v : Int32) (hr : ¬ r < 0) : tm_set R r v 0 = 0 := by
  unfold tm_set
  by_cases e : r = 0
  · rw [if_pos e]; exact h
  · rw [if_neg e]
    obtain ⟨j, hj, ej⟩ := nI_of hr
    unfold upd
    rw [ej, nI_clamp hj, if_neg]
    · exact h
    · intro z; rw [ej, ← z] at e; exact e rfl
theorem tm_set_sh {R : tF} (h : ∀ i, i < 8 → tm_sh (R i)) {r v : Int32} (hv : tm_sh v) : ∀ i, i < 8 → tm_sh (tm_set R r v i) := by
  intro i hi
  unfold tm_set
  split
  · exact h i hi
  · unfold upd
    split
    · exact hv
    · exact h i hi
theorem tm_calc_sh {o x y : Int32} (hx : tm_sh x) (hy : tm_sh y) : tm_sh (tm_calc o x y) := by
  unfold tm_calc
  split
  · exact tm_wr_sh _
  · split
    · rw [← tm_and_sh hx hy]; exact tm_wr_sh _
    · split
      · split
        · exact tm_sh_1
        · exact tm_sh_0
      · split <;> exact tm_wr_sh _
/-- ALU, LOAD and STORE keep it -/
theorem tm_alu_st {F R : tF} {q a b : Nat} (h0 : R 0 = 0) (hs : ∀ i, i < 8 → tm_sh (R i)) (ha : F (4 * q + 1) = nI a) (ha8 : a < 8) (hb : F (4 * q + 2) = nI b) (hb8 : b < 8) (ht : 4 < F (4 * q) → tm_sh (F (4 * q + 3))) : tm_alu F q R 0 = 0 ∧ ∀ i, i < 8 → tm_sh (tm_alu F q R i) := by
  unfold tm_alu
  refine ⟨tm_set_0 h0 _ _ (by rw [ha]; exact nI_pos (by omega)), tm_set_sh hs (tm_calc_sh ?_ ?_)⟩
  · rw [hb, nI_clamp (by omega)]; exact hs b hb8
  · split
    · rename_i h; exact ht h
    · obtain ⟨j, hj, e⟩ := tm_and7 (F (4 * q + 3))
      rw [e, nI_clamp (by omega)]; exact hs j hj
theorem tm_mem_st {F R C : tF} {q a b N dd : Nat} (h0 : R 0 = 0) (hs : ∀ i, i < 8 → tm_sh (R i)) (hC : ∀ i, i < N → tm_sh (C i)) (ha : F (4 * q + 1) = nI a) (ha8 : a < 8) (hd : tm_adr F q R = nI dd) (hdN : dd < N) (hN : N < 2 ^ 31) : (tm_mR F q R C 0 = 0 ∧ ∀ i, i < 8 → tm_sh (tm_mR F q R C i)) ∧ ∀ i, i < N → tm_sh (tm_mC F q R C i) := by
  have hdc : (nI dd).toNatClampNeg = dd := nI_clamp (by omega)
  refine ⟨?_, ?_⟩
  · unfold tm_mR
    split
    · exact ⟨h0, hs⟩
    · refine ⟨tm_set_0 h0 _ _ (by rw [ha]; exact nI_pos (by omega)), tm_set_sh hs ?_⟩
      rw [hd, hdc]; exact hC dd hdN
  · intro i hi
    unfold tm_mC
    split
    · rw [hd, hdc]
      unfold upd
      split
      · rw [ha, nI_clamp (by omega)]; exact hs a ha8
      · exact hC i hi
    · exact hC i hi
def tm_jsJ (S : tM) : Prop := tm_st 32 S
theorem tm_js_of {P : Nat → Int32} {n : Nat} (hn : n ≤ 24) (hin : tm_in P n) : tm_js P n tm_jsJ := by
  intro S hJ he
  obtain ⟨R, C, A, k, h, d, e, x⟩ := S
  obtain ⟨h0, hs, hC, hk⟩ := hJ
  dsimp only at h0 hs hC hk he
  by_cases hh : tm_hs n h = 0
  · exact Or.inl ⟨hh, h0, hs, hC, hk⟩
  · right
    obtain ⟨q, hq, eh⟩ := tm_hs_1 (by omega) hh
    obtain ⟨v, a, b, hv, hv15, ha, ha8, hb, hb8, hsh⟩ := tm_in_at hin hq
    refine ⟨q, v, a, b, eh, hq, hv, hv15, ha, ha8, hb, hb8, hsh, h0, hs, hk, ?_⟩
    obtain ⟨al0, als⟩ := tm_alu_st (F := P) (q := q) h0 hs ha ha8 hb hb8 (fun _ => hsh)
    unfold tm_ss
    dsimp only
    split
    · exact ⟨⟨h0, hs, hC, hk⟩, fun z => absurd z (show ¬ (2 : Int32) = 0 by decide)⟩
    · split
      · exact ⟨⟨h0, hs, hC, hk⟩, fun z => absurd z (show ¬ (1 : Int32) = 0 by decide)⟩
      · split
        · exact ⟨⟨al0, als, hC, hk⟩, fun _ => rfl⟩
        · split
          · split
            · exact ⟨⟨h0, hs, hC, hk⟩, fun z => absurd z (show ¬ (2 : Int32) = 0 by decide)⟩
            · rename_i hno
              obtain ⟨hn1, hn2⟩ := not_or.mp hno
              obtain ⟨dd, hdd, ed⟩ := nI_of hn1
              have hd32 : dd < 32 := by
                rw [ed] at hn2
                rcases Nat.lt_or_ge dd 32 with z | z
                · exact z
                · exact absurd (nI_le z hdd) hn2
              obtain ⟨⟨m0, ms⟩, mc⟩ := tm_mem_st (F := P) (b := b) h0 hs hC ha ha8 ed hd32 (by decide)
              exact ⟨⟨m0, ms, mc, tm_dk_le _ hk⟩, fun _ => rfl⟩
          · refine ⟨⟨?_, ?_, hC, hk⟩, fun _ => rfl⟩
            · dsimp only
              split
              · exact tm_set_0 h0 7 _ (by decide)
              · exact h0
            · dsimp only
              split
              · exact tm_set_sh hs (tm_sh_nI (by omega))
              · exact hs
