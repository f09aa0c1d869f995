/-! PURE: every place's code is a good stretch, and so is the whole -/
theorem sg_si {P : Nat → Int32} {n p v a b : Nat} (hn : n ≤ 24) (hv : P (4 * p) = nI v) (hv1 : 1 ≤ v) (hv8 : v ≤ 8) (ha : P (4 * p + 1) = nI a) (ha8 : a < 8) (hb : P (4 * p + 2) = nI b) (hb8 : b < 8) (hc : tm_sh (P (4 * p + 3))) : tm_sg n (tm_si P n p) := by
  obtain ⟨w, hw, ew⟩ := tm_and7 (P (4 * p + 3))
  obtain ⟨g4, hg4, e4⟩ := rg_at (h := 4) (r := b) (by omega) hb8
  obtain ⟨g5, hg5, e5⟩ := rg_at (h := 5) (r := w) (by omega) hw
  have e4 : tm_rg 4 (nI b) = nI g4 := e4
  have e5 : tm_rg 5 (nI w) = nI g5 := e5
  have r4 : tm_sg n (tm_rd 0 4 (nI b)) := sg_rd (h := 4) (by omega) hb8
  have r5 : tm_sg n (tm_rd 0 5 (nI w)) := sg_rd (h := 5) (by omega) hw
  unfold tm_si
  rw [hv, ha, hb, ew, e4, e5]
  split
  · exact sg_wt (o := 6) (s := 0) ha8 (fun g hg => fi_imm (v := 6) (b := 0) 0 (by omega) (by omega) hg (by omega) hc)
  · split
    · split
      · exact sg_app r4 (sg_wt (o := 5) ha8 (fun g hg => fi_imm (v := 5) 0 (by omega) (by omega) hg hg4 hc))
      · split
        · exact sg_app r4 (sg_ld hn hg4 ha8 hc)
        · exact sg_app r4 (sg_sw hn hg4 ha8 hc)
    · rename_i h6 h4
      have h44 : v ≤ 4 := by
        rcases Nat.lt_or_ge 4 v with z | z
        · exact absurd (nI_lt (a := 4) (b := v) z (by omega)) h4
        · exact z
      exact sg_app r4 (sg_app r5 (sg_wt ha8 (fun g hg => fi_alu 0 hv1 h44 hg hg4 hg5)))
theorem sg_pl {P : Nat → Int32} {n p : Nat} (hn : n ≤ 24) (hin : tm_in P n) (hok : tm_ok P n) (hp : p < n) : tm_sg n (tm_pl P n p) := by
  obtain ⟨v, hv13, hv, h8, h9, hld⟩ := tm_gp_of hn hin hok hp
  obtain ⟨v', a, b, hv', -, ha, ha8, hb, hb8, hc⟩ := tm_in_at hin hp
  have slot : 9 ≤ v → tm_sg n (tm_si P n (p + 1)) := fun h => by
    obtain ⟨v2, hv2, e2, -, h29⟩ := tm_gq_of hn hin hok hp
    have : v2 = v := (nI_eq (by omega) (by omega)).mp (e2.symm.trans hv)
    obtain ⟨s1, -, w, w1, w8, ew⟩ := h29 (by omega)
    obtain ⟨v3, a3, b3, -, -, ha3, ha38, hb3, hb38, hc3⟩ := tm_in_at hin s1
    exact sg_si hn ew w1 w8 ha3 ha38 hb3 hb38 hc3
  obtain ⟨g4, hg4, e4⟩ := rg_at (h := 4) (r := a) (by omega) ha8
  obtain ⟨g5, hg5, e5⟩ := rg_at (h := 5) (r := b) (by omega) hb8
  have e4 : tm_rg 4 (nI a) = nI g4 := e4
  have e5 : tm_rg 5 (nI b) = nI g5 := e5
  have r4 : tm_sg n (tm_rd 0 4 (nI a)) := sg_rd (h := 4) (by omega) ha8
  have r5 : tm_sg n (tm_rd 0 5 (nI b)) := sg_rd (h := 5) (by omega) hb8
  have jmp : ∀ j : Nat, j ≤ n → tm_sg n [(11, 0, 0, nI j, true, 0)] := fun j hj => sg_one (fi_br (v := 11) (a := 0) (b := 0) 0 (by omega) (by omega) (by omega) (by omega) hj) rfl
  have fork : 9 ≤ v → v ≤ 10 → tm_sg n (tm_fk P n p) := fun h1 h2 => by
    obtain ⟨j, hj, ej⟩ := hld h1 (by omega)
    obtain ⟨s1, -, -⟩ := h9 h1
    unfold tm_fk
    rw [ha, hb, hv, ej, e4, e5]
    refine sg_app r4 (sg_app r5 (sg_cons (fi_alu (v := 2) (a := 6) 0 (by omega) (by omega) (by omega) hg4 hg5) rfl (sg_app (slot h1) ?_)))
    exact sg_cons (fi_br (a := 6) (b := 0) 0 h1 (by omega) (by omega) (by omega) (by omega)) rfl (jmp (p + 2) (by omega))
  unfold tm_pl
  rw [hv]
  split
  · exact sg_one (fi_end 0 0) rfl
  · rename_i h0
    split
    · rename_i h; have := (nI_eq (a := v) (b := 9) (by omega) (by omega)).mp h; exact fork (by omega) (by omega)
    · split
      · rename_i h; have := (nI_eq (a := v) (b := 10) (by omega) (by omega)).mp h; exact fork (by omega) (by omega)
      · split
        · rename_i h
          have := (nI_eq (a := v) (b := 11) (by omega) (by omega)).mp h
          obtain ⟨j, hj, ej⟩ := hld (by omega) (by omega)
          rw [ej]
          exact sg_app (slot (by omega)) (jmp j (by omega))
        · split
          · rename_i h
            have := (nI_eq (a := v) (b := 12) (by omega) (by omega)).mp h
            obtain ⟨j, hj, ej⟩ := hld (by omega) (by omega)
            rw [ej]
            refine sg_app (sg_wt (r := 7) (o := 5) (s := 0) (by omega) (fun g hg => fi_imm (v := 5) (b := 0) 0 (by omega) (by omega) hg (by omega) (tm_sh_nI (by omega)))) (sg_app (slot (by omega)) (jmp j (by omega)))
          · split
            · rename_i h
              have := (nI_eq (a := v) (b := 13) (by omega) (by omega)).mp h
              unfold tm_to
              rw [ha, e4]
              refine sg_app r4 (sg_cons (fi_imm (v := 5) (a := 6) 0 (by omega) (by omega) (by omega) hg4 tm_sh_0) rfl (sg_app (slot (by omega)) ?_))
              refine ⟨fun y hy => ?_, ⟨Or.inr (Or.inr (Or.inr (Or.inr (Or.inr (Or.inr (Or.inl ⟨rfl, rfl, rfl, rfl, rfl, rfl⟩)))))), ⟨Or.inr (Or.inr (Or.inr (Or.inr (Or.inr (Or.inr (Or.inr (Or.inl ⟨rfl, rfl, rfl, rfl, rfl⟩))))))), ⟨Or.inr (Or.inr (Or.inr (Or.inr (Or.inr (Or.inr (Or.inr (Or.inr ⟨rfl, rfl, rfl, rfl, rfl, rfl, rfl⟩))))))), trivial, trivial⟩⟩⟩, rfl⟩
              rcases List.mem_cons.mp hy with h | h
              · rw [h]; exact fi_imm (v := 5) (a := 4) (b := 0) 0 (by omega) (by omega) (by omega) (by omega) (tm_sh_nI (by omega))
              · rcases List.mem_cons.mp h with h | h
                · rw [h]; exact fi_br (v := 12) (a := 6) (b := 4) 3 (by omega) (by omega) (by omega) (by omega) (by omega)
                · rcases List.mem_cons.mp h with h | h
                  · rw [h]; exact fi_bg
                  · rw [List.mem_singleton.mp h]; exact fi_to
            · rename_i h9' h10 h11 h12 h13
              have hv8 : v ≤ 8 := by
                rcases Nat.lt_or_ge 8 v with z | z
                · exfalso
                  rcases (show v = 9 ∨ v = 10 ∨ v = 11 ∨ v = 12 ∨ v = 13 by omega) with h | h | h | h | h <;> subst h
                  · exact h9' rfl
                  · exact h10 rfl
                  · exact h11 rfl
                  · exact h12 rfl
                  · exact h13 rfl
                · exact z
              have hv1 : 1 ≤ v := by
                rcases Nat.eq_zero_or_pos v with z | z
                · subst z; exact absurd rfl h0
                · exact z
              exact sg_si hn hv hv1 hv8 ha ha8 hb hb8 hc
theorem sg_cs {P : Nat → Int32} {n : Nat} (hn : n ≤ 24) (hin : tm_in P n) (hok : tm_ok P n) : ∀ k, k ≤ n → tm_sg n (tm_cs P n k) := by
  intro k
  induction k with
  | zero => intro _; exact sg_nil n
  | succ k ih => intro h; exact sg_app (ih (by omega)) (sg_pl hn hin hok (by omega))
theorem sg_all {P : Nat → Int32} {n : Nat} (hn : n ≤ 24) (hin : tm_in P n) (hok : tm_ok P n) : tm_sg n (tm_all P n) := sg_app (sg_cs hn hin hok n (Nat.le_refl n)) (sg_one (fi_end 1 0) rfl)
/-- where a place begins, nothing is asked -/
theorem tm_begin_rest {P : Nat → Int32} {n : Nat} (hn : n ≤ 24) (hin : tm_in P n) (hok : tm_ok P n) : ∀ g k, k + g = n → ∃ y r, tm_all P n = tm_cs P n k ++ y :: r ∧ y.2.2.2.2.2 = 0 := by
  intro g
  induction g with
  | zero =>
    intro k h
    have : k = n := by omega
    subst this
    exact ⟨_, _, rfl, rfl⟩
  | succ g ih =>
    intro k h
    obtain ⟨y, r, e, h0⟩ := ih (k + 1) (by omega)
    have s := sg_pl hn hin hok (p := k) (by omega)
    have e2 : tm_all P n = tm_cs P n k ++ (tm_pl P n k ++ y :: r) := by
      rw [e, ← List.append_assoc]; rfl
    cases hp : tm_pl P n k with
    | nil => exact ⟨y, r, by rw [e2, hp]; rfl, h0⟩
    | cons x t =>
      rw [hp] at s
      exact ⟨x, t ++ y :: r, by rw [e2, hp]; rfl, s.2.2⟩
theorem tm_begin_at {P : Nat → Int32} {n : Nat} (hn : n ≤ 24) (hin : tm_in P n) (hok : tm_ok P n) {j : Nat} (hj : j ≤ n) : ∃ y, (tm_all P n)[tm_of P n j]? = some y ∧ y.2.2.2.2.2 = 0 := by
  obtain ⟨y, r, e, h0⟩ := tm_begin_rest hn hin hok (n - j) j (by omega)
  refine ⟨y, ?_, h0⟩
  rw [e]
  unfold tm_of
  rw [List.getElem?_append_right (Nat.le_refl _), Nat.sub_self]
  rfl
/-- behind an instruction that isn't the end there is another one -/
theorem tm_next {P : Nat → Int32} {n i : Nat} {x : tI} (hx : (tm_all P n)[i]? = some x) (h : x.1 ≠ 0) : ∃ y, (tm_all P n)[i + 1]? = some y := by
  have hi : i < (tm_all P n).length := (List.getElem?_eq_some_iff.mp hx).1
  rw [tm_all_len] at hi
  by_cases e : i = tm_of P n n
  · exfalso
    subst e
    unfold tm_all tm_of at hx
    rw [List.getElem?_append_right (Nat.le_refl _), Nat.sub_self] at hx
    cases hx
    exact h rfl
  · exact ⟨_, List.getElem?_eq_getElem (by rw [tm_all_len]; omega)⟩
