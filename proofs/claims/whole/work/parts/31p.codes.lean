/-! PURE: the two codes are one -/
theorem tm_bg_at (P : Nat → Int32) (n : Nat) (B : Nat → Int32) : ∀ m x, x < m → tm_bg P n B m x = nI (tm_of P n x) := by
  intro m
  induction m with
  | zero => intro x h; omega
  | succ m ih =>
    intro x h
    show upd (tm_bg P n B m) m (nI (tm_of P n m)) x = _
    unfold upd
    by_cases e : x = m
    · rw [if_pos e, e]
    · rw [if_neg e]; exact ih x (by omega)
theorem tm_bg_id (P : Nat → Int32) (n : Nat) (B : Nat → Int32) (M : Nat) : ∀ m, m ≤ M → tm_bg P n (tm_bg P n B M) m = tm_bg P n B M := by
  intro m
  induction m with
  | zero => intro _; rfl
  | succ m ih =>
    intro h
    show upd (tm_bg P n (tm_bg P n B M) m) m (nI (tm_of P n m)) = _
    rw [ih (by omega)]
    funext x
    unfold upd
    by_cases e : x = m
    · rw [if_pos e, e, tm_bg_at P n B M m (by omega)]
    · rw [if_neg e]
theorem tm_ps_id (P : Nat → Int32) (n : Nat) (B F : Nat → Int32) (M : Nat) : ∀ j, j ≤ M → tm_ps P n (tm_bg P n B M) F j = tm_pa (tm_rs (tm_bg P n B M)) F 0 (tm_cs P n j) := by
  intro j
  induction j with
  | zero => intro _; rfl
  | succ j ih =>
    intro h
    show tm_pa (tm_rs (tm_bg P n (tm_bg P n B M) (j + 1))) (tm_ps P n (tm_bg P n B M) F j) (tm_of P n j) (tm_pl P n j) = tm_pa _ F 0 (tm_cs P n j ++ tm_pl P n j)
    rw [ih (by omega), tm_bg_id P n B M (j + 1) h, tm_pa_app, Nat.zero_add]; rfl
theorem tm_p1_id (P : Nat → Int32) (n : Nat) (B F : Nat → Int32) : tm_p1 P n (tm_bg P n B (n + 1)) F = tm_pa (tm_rs (tm_bg P n B (n + 1))) F 0 (tm_all P n) := by
  unfold tm_p1 tm_all
  rw [tm_ps_id P n B F (n + 1) n (by omega), tm_pa_app, Nat.zero_add]; rfl
theorem tm_w4_out {F : Nat → Int32} {k j : Nat} {o d s t : Int32} (h : j < 4 * k ∨ 4 * k + 4 ≤ j) : tm_w4 F k o d s t j = F j := by
  unfold tm_w4 upd
  rw [if_neg (by omega), if_neg (by omega), if_neg (by omega), if_neg (by omega)]
theorem tm_w4_in (F : Nat → Int32) (k : Nat) (o d s t : Int32) : tm_w4 F k o d s t (4 * k) = o ∧ tm_w4 F k o d s t (4 * k + 1) = d ∧ tm_w4 F k o d s t (4 * k + 2) = s ∧ tm_w4 F k o d s t (4 * k + 3) = t := by
  unfold tm_w4 upd
  refine ⟨?_, ?_, ?_, ?_⟩
  · rw [if_neg (by omega), if_neg (by omega), if_neg (by omega), if_pos rfl]
  · rw [if_neg (by omega), if_neg (by omega), if_pos rfl]
  · rw [if_neg (by omega), if_pos rfl]
  · rw [if_pos rfl]
theorem tm_pa_out (f : tI → Int32) : ∀ (is : List tI) (F : Nat → Int32) (k j : Nat), j < 4 * k ∨ 4 * (k + is.length) ≤ j → tm_pa f F k is j = F j := by
  intro is
  induction is with
  | nil => intro F k j _; rfl
  | cons i r ih =>
    intro F k j h
    show tm_pa f (tm_w4 F k i.1 i.2.1 i.2.2.1 (f i)) (k + 1) r j = F j
    simp only [List.length_cons] at h
    rw [ih _ _ _ (by omega), tm_w4_out (by omega)]
theorem tm_pa_in (f : tI → Int32) : ∀ (is : List tI) (F : Nat → Int32) (k i : Nat) (x : tI), is[i]? = some x → tm_pa f F k is (4 * (k + i)) = x.1 ∧ tm_pa f F k is (4 * (k + i) + 1) = x.2.1 ∧ tm_pa f F k is (4 * (k + i) + 2) = x.2.2.1 ∧ tm_pa f F k is (4 * (k + i) + 3) = f x := by
  intro is
  induction is with
  | nil => intro F k i x h; cases h
  | cons y r ih =>
    intro F k i x h
    cases i with
    | zero =>
      cases h
      obtain ⟨a, b, c, d⟩ := tm_w4_in F k y.1 y.2.1 y.2.2.1 (f y)
      refine ⟨?_, ?_, ?_, ?_⟩
      · exact (tm_pa_out f r _ (k + 1) _ (by omega)).trans a
      · exact (tm_pa_out f r _ (k + 1) _ (by omega)).trans b
      · exact (tm_pa_out f r _ (k + 1) _ (by omega)).trans c
      · exact (tm_pa_out f r _ (k + 1) _ (by omega)).trans d
    | succ i =>
      have := ih (tm_w4 F k y.1 y.2.1 y.2.2.1 (f y)) (k + 1) i x h
      rwa [show k + 1 + i = k + (i + 1) by omega] at this
theorem tm_po_out : ∀ (is : List tI) (O : Nat → Int32) (k j : Nat), j < k → tm_po O k is j = O j := by
  intro is
  induction is with
  | nil => intro O k j _; rfl
  | cons i r ih =>
    intro O k j h
    show tm_po (upd O k _) (k + 1) r j = O j
    rw [ih _ _ _ (by omega)]
    unfold upd
    rw [if_neg (by omega)]
theorem tm_po_in : ∀ (is : List tI) (O : Nat → Int32) (k i : Nat) (x : tI), is[i]? = some x → tm_po O k is (k + i) = if x.2.2.2.2.1 then 1 else 0 := by
  intro is
  induction is with
  | nil => intro O k i x h; cases h
  | cons y r ih =>
    intro O k i x h
    cases i with
    | zero =>
      cases h
      show tm_po (upd O k _) (k + 1) r k = _
      rw [tm_po_out r _ _ _ (by omega)]
      unfold upd
      rw [if_pos rfl]
    | succ i =>
      have := ih (upd O k (if y.2.2.2.2.1 then 1 else 0)) (k + 1) i x h
      rwa [show k + 1 + i = k + (i + 1) by omega] at this
theorem tm_pt_c {B O G : Nat → Int32} : ∀ (m i c : Nat), c < 3 → tm_pt B O G m (4 * i + c) = G (4 * i + c) := by
  intro m
  induction m with
  | zero => intro i c _; rfl
  | succ m ih =>
    intro i c h
    unfold tm_pt
    split
    · exact ih i c h
    · rw [pk_un (by omega)]; exact ih i c h
theorem tm_pt_3 {B O G : Nat → Int32} : ∀ (m i : Nat), i < m → tm_pt B O G m (4 * i + 3) = if O i = 0 then G (4 * i + 3) else B (G (4 * i + 3)).toNatClampNeg := by
  intro m
  induction m with
  | zero => intro i h; omega
  | succ m ih =>
    intro i h
    by_cases e : i = m
    · subst e
      have h0 := tm_pt_hi B O G i (4 * i + 3) (by omega)
      unfold tm_pt
      split
      · exact h0
      · rw [h0]; unfold upd; rw [if_pos rfl]
    · unfold tm_pt
      split
      · exact ih i (by omega)
      · rw [pk_un (by omega)]; exact ih i (by omega)
/-- an instruction that is led is led to a place -/
def tm_op (n : Nat) (x : tI) : Prop := x.2.2.2.2.1 = true → ∃ j : Nat, j ≤ n ∧ x.2.2.2.1 = nI j
/-- the code itself -/
def tm_kb (P : Nat → Int32) (n : Nat) : tF := fun x => nI (tm_of P n x)
def tm_K (P : Nat → Int32) (n : Nat) : tF := tm_pa (tm_rs (tm_kb P n)) (fun _ => 0) 0 (tm_all P n)
theorem tm_all_len (P : Nat → Int32) (n : Nat) : (tm_all P n).length = tm_of P n n + 1 := by simp [tm_all, tm_of]
theorem tm_split4 {F G : tF} {L : Nat} (h : ∀ i, i < L → F (4 * i) = G (4 * i) ∧ F (4 * i + 1) = G (4 * i + 1) ∧ F (4 * i + 2) = G (4 * i + 2) ∧ F (4 * i + 3) = G (4 * i + 3)) : ∀ j, j < 4 * L → F j = G j := by
  intro j hj
  obtain ⟨a, b, c, d⟩ := h (j / 4) (by omega)
  rcases (show j = 4 * (j / 4) ∨ j = 4 * (j / 4) + 1 ∨ j = 4 * (j / 4) + 2 ∨ j = 4 * (j / 4) + 3 by omega) with e | e | e | e
  · rw [e]; exact a
  · rw [e]; exact b
  · rw [e]; exact c
  · rw [e]; exact d
theorem tm_rs_eq {P : Nat → Int32} {n : Nat} (hn : n ≤ 24) {B B2 : tF} (hB : ∀ x, x ≤ n → B x = B2 x) {x : tI} (hx : tm_op n x) : tm_rs B x = tm_rs B2 x := by
  unfold tm_rs
  cases ho : x.2.2.2.2.1 with
  | false => rfl
  | true =>
    obtain ⟨j, hj, e⟩ := hx ho
    simp only [if_true]
    rw [e, nI_clamp (by omega)]
    exact hB j hj
theorem tm_K_F {P : Nat → Int32} {n : Nat} (hn : n ≤ 24) (hop : ∀ x ∈ tm_all P n, tm_op n x) (B F : tF) : ∀ j, j < 4 * (tm_of P n n + 1) → tm_p1 P n (tm_bg P n B (n + 1)) F j = tm_K P n j := by
  rw [tm_p1_id]
  apply tm_split4
  intro i hi
  have hl : i < (tm_all P n).length := by rw [tm_all_len]; exact hi
  have hx := List.getElem?_eq_getElem hl
  obtain ⟨a1, b1, c1, d1⟩ := tm_pa_in (tm_rs (tm_bg P n B (n + 1))) (tm_all P n) F 0 i _ hx
  obtain ⟨a2, b2, c2, d2⟩ := tm_pa_in (tm_rs (tm_kb P n)) (tm_all P n) (fun _ => 0) 0 i _ hx
  rw [Nat.zero_add] at a1 b1 c1 d1 a2 b2 c2 d2
  have e := tm_rs_eq (P := P) hn (B := tm_bg P n B (n + 1)) (B2 := tm_kb P n) (fun x hx => tm_bg_at P n B (n + 1) x (by omega)) (hop _ (List.getElem_mem hl))
  exact ⟨a1.trans a2.symm, b1.trans b2.symm, c1.trans c2.symm, d1.trans (e.trans d2.symm)⟩
theorem tm_K_G {P : Nat → Int32} {n : Nat} (hn : n ≤ 24) (hop : ∀ x ∈ tm_all P n, tm_op n x) (B O G : tF) : ∀ j, j < 4 * (tm_of P n n + 1) → tm_pt (tm_bg P n B (n + 1)) (tm_po O 0 (tm_all P n)) (tm_pa tm_rw G 0 (tm_all P n)) (tm_of P n n + 1) j = tm_K P n j := by
  apply tm_split4
  intro i hi
  have hl : i < (tm_all P n).length := by rw [tm_all_len]; exact hi
  have hx := List.getElem?_eq_getElem hl
  obtain ⟨a1, b1, c1, d1⟩ := tm_pa_in tm_rw (tm_all P n) G 0 i _ hx
  obtain ⟨a2, b2, c2, d2⟩ := tm_pa_in (tm_rs (tm_kb P n)) (tm_all P n) (fun _ => 0) 0 i _ hx
  have po := tm_po_in (tm_all P n) O 0 i _ hx
  rw [Nat.zero_add] at a1 b1 c1 d1 a2 b2 c2 d2 po
  have e := tm_rs_eq (P := P) hn (B := tm_bg P n B (n + 1)) (B2 := tm_kb P n) (fun x hx => tm_bg_at P n B (n + 1) x (by omega)) (hop _ (List.getElem_mem hl))
  refine ⟨(tm_pt_c _ i 0 (by omega)).trans (a1.trans a2.symm), (tm_pt_c _ i 1 (by omega)).trans (b1.trans b2.symm), (tm_pt_c _ i 2 (by omega)).trans (c1.trans c2.symm), ?_⟩
  rw [tm_pt_3 _ i hi, po, d1, show tm_K P n (4 * i + 3) = _ from d2, ← e]
  unfold tm_rs tm_rw
  cases (tm_all P n)[i].2.2.2.2.1 <;> simp
theorem tm_hop {P : Nat → Int32} {n : Nat} (hop : ∀ x ∈ tm_all P n, tm_op n x) (O G : tF) : ∀ i, i < tm_of P n n + 1 → ¬ tm_po O 0 (tm_all P n) i = 0 → ∃ j : Nat, j ≤ n ∧ tm_pa tm_rw G 0 (tm_all P n) (4 * i + 3) = nI j := by
  intro i hi h
  have hl : i < (tm_all P n).length := by rw [tm_all_len]; exact hi
  have hx := List.getElem?_eq_getElem hl
  obtain ⟨-, -, -, d1⟩ := tm_pa_in tm_rw (tm_all P n) G 0 i _ hx
  have po := tm_po_in (tm_all P n) O 0 i _ hx
  rw [Nat.zero_add] at d1 po
  rw [po] at h
  have ho : (tm_all P n)[i].2.2.2.2.1 = true := by
    cases hb : (tm_all P n)[i].2.2.2.2.1 with
    | true => rfl
    | false => rw [hb] at h; exact absurd rfl h
  obtain ⟨j, hj, e⟩ := hop _ (List.getElem_mem hl) ho
  exact ⟨j, hj, d1.trans e⟩
