/-! PURE: the shape of the code: every instruction fits, and each hands on what the next one asks -/
def tm_fi (n : Nat) (x : tI) : Prop := ∃ v a b : Nat, x.1 = nI v ∧ v ≤ 13 ∧ x.2.1 = nI a ∧ a < 8 ∧ x.2.2.1 = nI b ∧ b < 8 ∧ (1 ≤ v → v ≤ 4 → ∃ w : Nat, x.2.2.2.1 = nI w ∧ w < 8) ∧ (v ≤ 8 → x.2.2.2.2.1 = false) ∧ (5 ≤ v → v ≤ 6 → tm_sh x.2.2.2.1)
  ∧ (7 ≤ v → v ≤ 8 → (b = 0 ∧ ∃ r : Nat, x.2.2.2.1 = nI (32 + r) ∧ 4 ≤ r ∧ r < 8) ∨ (b = 5 ∧ x.2.2.2.1 = 0 ∧ x.2.2.2.2.2 = 2) ∨ (v = 7 ∧ b = 6 ∧ x.2.2.2.1 = 40 ∧ x.2.2.2.2.2 = 4))
  ∧ (9 ≤ v → v ≤ 12 → x.2.2.2.2.1 = true ∧ ∃ j : Nat, j ≤ n ∧ x.2.2.2.1 = nI j) ∧ (v = 13 → a = 4 ∧ x.2.2.2.2.1 = false ∧ x.2.2.2.2.2 = 5)
theorem tm_fi_op {n : Nat} {x : tI} (h : tm_fi n x) : tm_op n x := by
  obtain ⟨v, a, b, -, hv, -, -, -, -, -, h8, -, -, h9, h13⟩ := h
  intro ho
  by_cases h1 : v ≤ 8
  · rw [h8 h1] at ho; cases ho
  · by_cases h2 : v ≤ 12
    · exact (h9 (by omega) h2).2
    · rw [(h13 (by omega)).2.1] at ho; cases ho
theorem fi_alu {n v a b w : Nat} (an : Nat) (h1 : 1 ≤ v) (h2 : v ≤ 4) (ha : a < 8) (hb : b < 8) (hw : w < 8) : tm_fi n (nI v, nI a, nI b, nI w, false, an) :=
  ⟨v, a, b, rfl, by omega, rfl, ha, rfl, hb, fun _ _ => ⟨w, rfl, hw⟩, fun _ => rfl, fun _ _ => by omega, fun _ _ => by omega, fun _ _ => by omega, fun _ => by omega⟩
theorem fi_imm {n v a b : Nat} {t : Int32} (an : Nat) (h1 : 5 ≤ v) (h2 : v ≤ 6) (ha : a < 8) (hb : b < 8) (ht : tm_sh t) : tm_fi n (nI v, nI a, nI b, t, false, an) :=
  ⟨v, a, b, rfl, by omega, rfl, ha, rfl, hb, fun _ _ => by omega, fun _ => rfl, fun _ _ => ht, fun _ _ => by omega, fun _ _ => by omega, fun _ => by omega⟩
theorem fi_slot {n v a r : Nat} (an : Nat) (h1 : 7 ≤ v) (h2 : v ≤ 8) (ha : a < 8) (hr : 4 ≤ r) (hr8 : r < 8) : tm_fi n (nI v, nI a, 0, 32 + nI r, false, an) :=
  ⟨v, a, 0, rfl, by omega, rfl, ha, rfl, by omega, fun _ _ => by omega, fun _ => rfl, fun _ _ => by omega, fun _ _ => Or.inl ⟨rfl, r, nI_add 32 r, hr, hr8⟩, fun _ _ => by omega, fun _ => by omega⟩
theorem fi_dat {n v a : Nat} (h1 : 7 ≤ v) (h2 : v ≤ 8) (ha : a < 8) : tm_fi n (nI v, nI a, 5, 0, false, 2) :=
  ⟨v, a, 5, rfl, by omega, rfl, ha, rfl, by omega, fun _ _ => by omega, fun _ => rfl, fun _ _ => by omega, fun _ _ => Or.inr (Or.inl ⟨rfl, rfl, rfl⟩), fun _ _ => by omega, fun _ => by omega⟩
theorem fi_bg {n : Nat} : tm_fi n (7, 4, 6, 40, false, 4) :=
  ⟨7, 4, 6, rfl, by omega, rfl, by omega, rfl, by omega, fun _ _ => by omega, fun _ => rfl, fun _ _ => by omega, fun _ _ => Or.inr (Or.inr ⟨rfl, rfl, rfl, rfl⟩), fun _ _ => by omega, fun _ => by omega⟩
theorem fi_br {n v a b j : Nat} (an : Nat) (h1 : 9 ≤ v) (h2 : v ≤ 12) (ha : a < 8) (hb : b < 8) (hj : j ≤ n) : tm_fi n (nI v, nI a, nI b, nI j, true, an) :=
  ⟨v, a, b, rfl, by omega, rfl, ha, rfl, hb, fun _ _ => by omega, fun _ => by omega, fun _ _ => by omega, fun _ _ => by omega, fun _ _ => ⟨rfl, j, hj, rfl⟩, fun _ => by omega⟩
theorem fi_to {n : Nat} : tm_fi n (13, 4, 0, 0, false, 5) :=
  ⟨13, 4, 0, rfl, by omega, rfl, by omega, rfl, by omega, fun _ _ => by omega, fun _ => rfl, fun _ _ => by omega, fun _ _ => by omega, fun _ _ => by omega, fun _ => ⟨rfl, rfl, rfl⟩⟩
theorem fi_end {n : Nat} (t : Int32) (an : Nat) : tm_fi n (0, 0, 0, t, false, an) :=
  ⟨0, 0, 0, rfl, by omega, rfl, by omega, rfl, by omega, fun _ _ => by omega, fun _ => rfl, fun _ _ => by omega, fun _ _ => by omega, fun _ _ => by omega, fun _ => by omega⟩
/-- x hands on what y asks -/
def tm_ch (n : Nat) (x y : tI) : Prop := x.1 = 0 ∨ x.1 = 11 ∨ x.1 = 13 ∨ y.2.2.2.2.2 = 0 ∨ (y.2.2.2.2.2 = 1 ∧ x.1 = 5 ∧ x.2.1 = 4 ∧ x.2.2.1 = 0 ∧ x.2.2.2.1 = 32 ∧ x.2.2.2.2.1 = false)
  ∨ (y.2.2.2.2.2 = 2 ∧ ((x.1 = 12 ∧ x.2.1 = 5 ∧ x.2.2.1 = 4 ∧ x.2.2.2.2.2 = 1) ∨ (x.1 = 7 ∧ x.2.1 = 4 ∧ x.2.2.2.2.2 = 2)))
  ∨ (y.2.2.2.2.2 = 3 ∧ x.1 = 5 ∧ x.2.1 = 4 ∧ x.2.2.1 = 0 ∧ x.2.2.2.1 = nI n ∧ x.2.2.2.2.1 = false) ∨ (y.2.2.2.2.2 = 4 ∧ x.1 = 12 ∧ x.2.1 = 6 ∧ x.2.2.1 = 4 ∧ x.2.2.2.2.2 = 3) ∨ (y.2.2.2.2.2 = 5 ∧ x.1 = 7 ∧ x.2.1 = 4 ∧ x.2.2.1 = 6 ∧ x.2.2.2.1 = 40 ∧ x.2.2.2.2.1 = false ∧ x.2.2.2.2.2 = 4)
def tm_cn (n : Nat) : List tI → Prop
  | [] => True
  | x :: r => (match r with | [] => True | y :: _ => tm_ch n x y) ∧ tm_cn n r
def tm_h0 : List tI → Prop
  | [] => True
  | x :: _ => x.2.2.2.2.2 = 0
theorem ch_0 {n : Nat} {x y : tI} (h : y.2.2.2.2.2 = 0) : tm_ch n x y := Or.inr (Or.inr (Or.inr (Or.inl h)))
theorem cn_app {n : Nat} : ∀ (xs ys : List tI), tm_cn n xs → tm_cn n ys → tm_h0 ys → tm_cn n (xs ++ ys) := by
  intro xs
  induction xs with
  | nil => intro ys _ h _; exact h
  | cons x r ih =>
    intro ys h1 h2 h3
    refine ⟨?_, ih ys h1.2 h2 h3⟩
    cases r with
    | nil =>
      cases ys with
      | nil => trivial
      | cons y ys => exact ch_0 h3
    | cons z r => exact h1.1
theorem cn_at {n : Nat} : ∀ (xs : List tI), tm_cn n xs → ∀ (i : Nat) (x y : tI), xs[i]? = some x → xs[i + 1]? = some y → tm_ch n x y := by
  intro xs
  induction xs with
  | nil => intro _ i x y h; cases h
  | cons z r ih =>
    intro h i x y hx hy
    cases i with
    | zero =>
      cases hx
      cases r with
      | nil => cases hy
      | cons w r => cases hy; exact h.1
    | succ i => exact ih h.2 i x y hx hy
/-- a stretch of code -/
def tm_sg (n : Nat) (xs : List tI) : Prop := (∀ x ∈ xs, tm_fi n x) ∧ tm_cn n xs ∧ tm_h0 xs
theorem sg_app {n : Nat} {xs ys : List tI} (h1 : tm_sg n xs) (h2 : tm_sg n ys) : tm_sg n (xs ++ ys) := by
  refine ⟨fun x hx => (List.mem_append.mp hx).elim (h1.1 x) (h2.1 x), cn_app xs ys h1.2.1 h2.2.1 h2.2.2, ?_⟩
  cases xs with
  | nil => exact h2.2.2
  | cons x r => exact h1.2.2
theorem sg_nil (n : Nat) : tm_sg n [] := ⟨fun _ h => absurd h List.not_mem_nil, trivial, trivial⟩
theorem sg_one {n : Nat} {x : tI} (h : tm_fi n x) (h0 : x.2.2.2.2.2 = 0) : tm_sg n [x] := ⟨fun y hy => by rw [List.mem_singleton.mp hy]; exact h, ⟨trivial, trivial⟩, h0⟩
theorem sg_cons {n : Nat} {x : tI} {r : List tI} (h : tm_fi n x) (h0 : x.2.2.2.2.2 = 0) (hr : tm_sg n r) : tm_sg n (x :: r) := sg_app (sg_one h h0) hr
theorem xn_4r {r : Nat} (hr : r < 8) : (4 : Int32) ≤ nI r ↔ 4 ≤ r := nI_leI (a := 4) (by decide) (by omega)
theorem sg_rd {n h r : Nat} (hh : h < 8) (hr : r < 8) : tm_sg n (tm_rd 0 (nI h) (nI r)) := by
  unfold tm_rd
  split
  · rename_i h4; exact sg_one (fi_slot (v := 7) 0 (by omega) (by omega) hh ((xn_4r hr).mp h4) hr) rfl
  · exact sg_nil n
theorem rg_at {h r : Nat} (hh : h < 8) (hr : r < 8) : ∃ g : Nat, g < 8 ∧ tm_rg (nI h) (nI r) = nI g := by
  unfold tm_rg
  split
  · exact ⟨h, hh, rfl⟩
  · exact ⟨r, hr, rfl⟩
theorem wd_at {r : Nat} (hr : r < 8) : ∃ g : Nat, g < 8 ∧ (if nI r ≤ 0 then (4 : Int32) else if 4 ≤ nI r then 4 else nI r) = nI g := by
  split
  · exact ⟨4, by omega, rfl⟩
  · split
    · exact ⟨4, by omega, rfl⟩
    · exact ⟨r, hr, rfl⟩
theorem sg_wtail {n r : Nat} (hr : r < 8) : tm_sg n (if nI r < 4 then [] else [((8 : Int32), (4 : Int32), (0 : Int32), 32 + nI r, false, 0)]) := by
  split
  · exact sg_nil n
  · rename_i h
    have h4 : 4 ≤ r := by
      rcases Nat.lt_or_ge r 4 with z | z
      · exact absurd (nI_lt (a := r) (b := 4) z (by decide)) h
      · exact z
    exact sg_one (fi_slot (v := 8) (a := 4) 0 (by omega) (by omega) (by omega) h4 hr) rfl
theorem sg_wt {n r : Nat} {o s t : Int32} (hr : r < 8) (h : ∀ g : Nat, g < 8 → tm_fi n (o, nI g, s, t, false, 0)) : tm_sg n (tm_wt 0 o (nI r) s t) := by
  unfold tm_wt
  obtain ⟨g, hg, e⟩ := wd_at hr
  rw [e]
  exact sg_cons (h g hg) rfl (sg_wtail hr)
/-- the address of LOAD and STORE, and what reads or writes the cell there -/
theorem sg_ad {n x : Nat} {c : Int32} {r : List tI} (hn : n ≤ 24) (hx : x < 8) (hc : tm_sh c) (hr : (∀ y ∈ r, tm_fi n y) ∧ tm_cn n r ∧ (match r with | [] => False | y :: _ => y.2.2.2.2.2 = 2)) : tm_sg n (tm_ad n (nI x) c ++ r) := by
  have f1 : tm_fi n (5, 5, nI x, c, false, 0) := fi_imm (v := 5) (a := 5) 0 (by omega) (by omega) (by omega) hx hc
  have f2 : tm_fi n (5, 4, 0, 32, false, 0) := fi_imm (v := 5) (a := 4) (b := 0) 0 (by omega) (by omega) (by omega) (by omega) (tm_sh_nI (n := 32) (by omega))
  have f3 : tm_fi n (12, 5, 4, nI n, true, 1) := fi_br (v := 12) (a := 5) (b := 4) 1 (by omega) (by omega) (by omega) (by omega) (by omega)
  cases r with
  | nil => exact hr.2.2.elim
  | cons y r =>
    refine ⟨fun z hz => ?_, ⟨ch_0 rfl, ⟨Or.inr (Or.inr (Or.inr (Or.inr (Or.inl ⟨rfl, rfl, rfl, rfl, rfl, rfl⟩)))), ⟨Or.inr (Or.inr (Or.inr (Or.inr (Or.inr (Or.inl ⟨hr.2.2, Or.inl ⟨rfl, rfl, rfl, rfl⟩⟩))))), hr.2.1⟩⟩⟩, rfl⟩
    rcases List.mem_append.mp hz with h | h
    · unfold tm_ad at h
      rcases List.mem_cons.mp h with h | h
      · rw [h]; exact f1
      · rcases List.mem_cons.mp h with h | h
        · rw [h]; exact f2
        · rw [List.mem_singleton.mp h]; exact f3
    · exact hr.1 z h
theorem sg_ld {n x a : Nat} {c : Int32} (hn : n ≤ 24) (hx : x < 8) (ha : a < 8) (hc : tm_sh c) : tm_sg n (tm_ad n (nI x) c ++ tm_wt 2 7 (nI a) 5 0) := by
  refine sg_ad hn hx hc ?_
  unfold tm_wt
  obtain ⟨g, hg, e⟩ := wd_at ha
  rw [e]
  have t := sg_wtail (n := n) ha
  have f : tm_fi n (7, nI g, 5, 0, false, 2) := fi_dat (v := 7) (by omega) (by omega) hg
  refine ⟨fun y hy => ?_, ?_, rfl⟩
  · rcases List.mem_cons.mp hy with h | h
    · rw [h]; exact f
    · exact t.1 y h
  · refine ⟨?_, t.2.1⟩
    have t3 := t.2.2
    revert t3
    cases (if nI a < 4 then [] else [((8 : Int32), (4 : Int32), (0 : Int32), 32 + nI a, false, 0)] : List tI) with
    | nil => intro _; trivial
    | cons y r => intro h; exact ch_0 h
theorem sg_sw {n x a : Nat} {c : Int32} (hn : n ≤ 24) (hx : x < 8) (ha : a < 8) (hc : tm_sh c) : tm_sg n (tm_ad n (nI x) c ++ (tm_rd 2 4 (nI a) ++ [(8, tm_rg 4 (nI a), 5, 0, false, 2)])) := by
  refine sg_ad hn hx hc ?_
  obtain ⟨g, hg, e⟩ := rg_at (h := 4) (r := a) (by omega) ha
  rw [show tm_rg 4 (nI a) = nI g from e]
  have f : tm_fi n (8, nI g, 5, 0, false, 2) := fi_dat (v := 8) (by omega) (by omega) hg
  unfold tm_rd
  split
  · rename_i h4
    refine ⟨fun y hy => ?_, ⟨Or.inr (Or.inr (Or.inr (Or.inr (Or.inr (Or.inl ⟨rfl, Or.inr ⟨rfl, rfl, rfl⟩⟩))))), trivial, trivial⟩, rfl⟩
    rcases List.mem_cons.mp hy with h | h
    · rw [h]; exact fi_slot (v := 7) (a := 4) 2 (by omega) (by omega) (by omega) ((xn_4r ha).mp h4) ha
    · rw [List.mem_singleton.mp h]; exact f
  · exact ⟨fun y hy => by rw [List.mem_singleton.mp hy]; exact f, ⟨trivial, trivial⟩, rfl⟩
