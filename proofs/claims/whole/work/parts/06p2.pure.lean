/-! PURE: the translation as lists. An instruction: operation, d, s, t, is t a place yet to be led to, and what holds ahead of it in a run (a number, tm_ann). -/
abbrev tI : Type := Int32 × Int32 × Int32 × Int32 × Bool × Nat
def tm_rg (h r : Int32) : Int32 := if 4 ≤ r then h else r
def tm_rd (an : Nat) (h r : Int32) : List tI := if 4 ≤ r then [(7, h, 0, 32 + r, false, an)] else []
def tm_wt (an : Nat) (o r s t : Int32) : List tI := (o, if r ≤ 0 then 4 else if 4 ≤ r then 4 else r, s, t, false, an) :: (if r < 4 then [] else [(8, 4, 0, 32 + r, false, 0)])
def tm_ad (n : Nat) (x c : Int32) : List tI := [(5, 5, x, c, false, 0), (5, 4, 0, 32, false, 0), (12, 5, 4, nI n, true, 1)]
/-- an operation 1 to 8 at the place p -/
def tm_si (P : Nat → Int32) (n p : Nat) : List tI :=
  if P (4 * p) = 6 then tm_wt 0 6 (P (4 * p + 1)) 0 (P (4 * p + 3))
  else if 4 < P (4 * p) then
    (if P (4 * p) = 5 then tm_rd 0 4 (P (4 * p + 2)) ++ tm_wt 0 5 (P (4 * p + 1)) (tm_rg 4 (P (4 * p + 2))) (P (4 * p + 3))
     else if P (4 * p) = 7 then tm_rd 0 4 (P (4 * p + 2)) ++ (tm_ad n (tm_rg 4 (P (4 * p + 2))) (P (4 * p + 3)) ++ tm_wt 2 7 (P (4 * p + 1)) 5 0)
     else tm_rd 0 4 (P (4 * p + 2)) ++ (tm_ad n (tm_rg 4 (P (4 * p + 2))) (P (4 * p + 3)) ++ (tm_rd 2 4 (P (4 * p + 1)) ++ [(8, tm_rg 4 (P (4 * p + 1)), 5, 0, false, 2)])))
  else tm_rd 0 4 (P (4 * p + 2)) ++ (tm_rd 0 5 (P (4 * p + 3) &&& 7) ++ tm_wt 0 (P (4 * p)) (P (4 * p + 1)) (tm_rg 4 (P (4 * p + 2))) (tm_rg 5 (P (4 * p + 3) &&& 7)))
/-- where a branch leads -/
def tm_ld (P : Nat → Int32) (p : Nat) : Int32 := if 10 < P (4 * p) then P (4 * p + 3) else nI (p + 1) + P (4 * p + 3)
def tm_fk (P : Nat → Int32) (n p : Nat) : List tI := tm_rd 0 4 (P (4 * p + 1)) ++ (tm_rd 0 5 (P (4 * p + 2)) ++ ((2, 6, tm_rg 4 (P (4 * p + 1)), tm_rg 5 (P (4 * p + 2)), false, 0) :: (tm_si P n (p + 1) ++ [(P (4 * p), 6, 0, tm_ld P p, true, 0), (11, 0, 0, nI (p + 2), true, 0)])))
def tm_to (P : Nat → Int32) (n p : Nat) : List tI := tm_rd 0 4 (P (4 * p + 1)) ++ ((5, 6, tm_rg 4 (P (4 * p + 1)), 0, false, 0) :: (tm_si P n (p + 1) ++ [(5, 4, 0, nI n, false, 0), (12, 6, 4, nI n, true, 3), (7, 4, 6, 40, false, 4), (13, 4, 0, 0, false, 5)]))
def tm_pl (P : Nat → Int32) (n p : Nat) : List tI :=
  if P (4 * p) = 0 then [(0, 0, 0, 0, false, 0)]
  else if P (4 * p) = 9 then tm_fk P n p
  else if P (4 * p) = 10 then tm_fk P n p
  else if P (4 * p) = 11 then tm_si P n (p + 1) ++ [(11, 0, 0, tm_ld P p, true, 0)]
  else if P (4 * p) = 12 then tm_wt 0 5 7 0 (nI (p + 2)) ++ (tm_si P n (p + 1) ++ [(11, 0, 0, tm_ld P p, true, 0)])
  else if P (4 * p) = 13 then tm_to P n p
  else tm_si P n p
/-- the first k places' code -/
def tm_cs (P : Nat → Int32) (n : Nat) : Nat → List tI
  | 0 => []
  | k + 1 => tm_cs P n k ++ tm_pl P n k
def tm_of (P : Nat → Int32) (n k : Nat) : Nat := (tm_cs P n k).length
def tm_all (P : Nat → Int32) (n : Nat) : List tI := tm_cs P n n ++ [(0, 0, 0, 1, false, 0)]
/-- is the number x one of the n places -/
def tm_hs (n : Nat) (x : Int32) : Int32 := if x < 0 then 0 else if nI n ≤ x then 0 else 1
/-- can the place q be a slot -/
def tm_cb (P : Nat → Int32) (n q : Nat) : Int32 :=
  if q < n then (if P (4 * q) < 9 then (if P (4 * q) = 0 then 0 else 1) else if 13 < P (4 * q) then (if P (4 * q) = 0 then 0 else 1) else 0) else 0
/-- what refuses a place: 0, or the reason -/
def tm_re (P : Nat → Int32) (n p : Nat) : Int32 :=
  if P (4 * p) ≤ 13 then (if 9 ≤ P (4 * p) then (if tm_cb P n (p + 1) = 0 then 2 else if P (4 * p) = 13 then 0 else if tm_hs n (tm_ld P p) = 0 then 3 else 0) else 0) else 1
/-- a program as add lets it in -/
def tm_in (P : Nat → Int32) (n : Nat) : Prop := ∀ p, p < n → (0 ≤ P (4 * p) ∧ P (4 * p) ≤ 15) ∧ (0 ≤ P (4 * p + 1) ∧ P (4 * p + 1) ≤ 7) ∧ (0 ≤ P (4 * p + 2) ∧ P (4 * p + 2) ≤ 7) ∧ ((-128 : Int32) ≤ P (4 * p + 3) ∧ P (4 * p + 3) ≤ 127)
def tm_ok (P : Nat → Int32) (n : Nat) : Prop := ∀ p, p < n → tm_re P n p = 0
theorem tm_rd_len (an : Nat) (h r : Int32) : (tm_rd an h r).length ≤ 1 := by unfold tm_rd; split <;> simp
theorem tm_wt_len (an : Nat) (o r s t : Int32) : (tm_wt an o r s t).length ≤ 2 := by unfold tm_wt; simp only [List.length_cons]; split <;> simp
theorem tm_si_len (P : Nat → Int32) (n p : Nat) : (tm_si P n p).length ≤ 6 := by
  have r1 := tm_rd_len 0 4 (P (4 * p + 2))
  have r2 := tm_rd_len 0 5 (P (4 * p + 3) &&& 7)
  have r3 := tm_rd_len 2 4 (P (4 * p + 1))
  have w1 := tm_wt_len 0 6 (P (4 * p + 1)) 0 (P (4 * p + 3))
  have w2 := tm_wt_len 0 (P (4 * p)) (P (4 * p + 1)) (tm_rg 4 (P (4 * p + 2))) (tm_rg 5 (P (4 * p + 3) &&& 7))
  have w3 := tm_wt_len 0 5 (P (4 * p + 1)) (tm_rg 4 (P (4 * p + 2))) (P (4 * p + 3))
  have w4 := tm_wt_len 2 7 (P (4 * p + 1)) 5 0
  unfold tm_si
  repeat' split
  all_goals try simp only [List.length_append, List.length_cons, List.length_nil, tm_ad]
  all_goals omega
/-- is the place a branch's -/
def tm_br (P : Nat → Int32) (p : Nat) : Bool := decide (9 ≤ P (4 * p))
theorem tm_fk_len (P : Nat → Int32) (n p : Nat) : (tm_fk P n p).length ≤ 11 := by
  have r1 := tm_rd_len 0 4 (P (4 * p + 1))
  have r2 := tm_rd_len 0 5 (P (4 * p + 2))
  have s2 := tm_si_len P n (p + 1)
  unfold tm_fk
  simp only [List.length_append, List.length_cons, List.length_nil]
  omega
theorem tm_to_len (P : Nat → Int32) (n p : Nat) : (tm_to P n p).length ≤ 12 := by
  have r1 := tm_rd_len 0 4 (P (4 * p + 1))
  have s2 := tm_si_len P n (p + 1)
  unfold tm_to
  simp only [List.length_append, List.length_cons, List.length_nil]
  omega
theorem tm_pl_len (P : Nat → Int32) (n p : Nat) : (tm_pl P n p).length ≤ 6 + (if tm_br P p then 6 else 0) := by
  have w1 := tm_wt_len 0 5 7 0 (nI (p + 2))
  have f1 := tm_fk_len P n p
  have t1 := tm_to_len P n p
  have s1 := tm_si_len P n p
  have s2 := tm_si_len P n (p + 1)
  have h9 : (9 : Int32) ≤ 9 := by decide
  have h10 : (9 : Int32) ≤ 10 := by decide
  have h11 : (9 : Int32) ≤ 11 := by decide
  have h12 : (9 : Int32) ≤ 12 := by decide
  have h13 : (9 : Int32) ≤ 13 := by decide
  unfold tm_pl tm_br
  split
  · simp; split <;> omega
  · split
    · rename_i h; simp only [h, h9, decide_true, if_true]; omega
    · split
      · rename_i h; simp only [h, h10, decide_true, if_true]; omega
      · split
        · rename_i h; simp only [h, h11, decide_true, if_true, List.length_append, List.length_cons, List.length_nil]; omega
        · split
          · rename_i h; simp only [h, h12, decide_true, if_true, List.length_append, List.length_cons, List.length_nil]; omega
          · split
            · rename_i h; simp only [h, h13, decide_true, if_true]; omega
            · split <;> omega
/-- a branch's slot is no branch, and a branch other than TO leads to a place -/
theorem tm_slot {P : Nat → Int32} {n p : Nat} (hok : tm_ok P n) (hp : p < n) (hb : tm_br P p = true) : p + 1 < n ∧ tm_br P (p + 1) = false ∧ P (4 * (p + 1)) ≠ 0 ∧ P (4 * p) ≤ 13 := by
  have h := hok p hp
  unfold tm_br at hb ⊢
  simp only [decide_eq_true_eq, decide_eq_false_iff_not] at hb ⊢
  unfold tm_re at h
  by_cases h13 : P (4 * p) ≤ 13
  · rw [if_pos h13, if_pos hb] at h
    split at h
    · exact absurd h (by decide)
    · rename_i hc
      unfold tm_cb at hc
      split at hc
      · rename_i hlt
        have h2 := hok (p + 1) hlt
        unfold tm_re at h2
        refine ⟨hlt, ?_, ?_, h13⟩
        · intro h9
          split at h2
          · rename_i h13'
            have n1 : ¬ P (4 * (p + 1)) < 9 := Int32.not_lt.mpr h9
            have n2 : ¬ 13 < P (4 * (p + 1)) := Int32.not_lt.mpr h13'
            simp [n1, n2] at hc
          · exact absurd h2 (by decide)
        · intro h0
          simp [h0] at hc
      · exact absurd rfl hc
  · rw [if_neg h13] at h
    exact absurd h (by decide)
/-- where the code of the places ends: nine for a place, and three more behind a branch -/
theorem tm_of_le {P : Nat → Int32} {n : Nat} (hok : tm_ok P n) : ∀ k, k ≤ n → tm_of P n k ≤ 9 * k + (if 0 < k ∧ tm_br P (k - 1) = true then 3 else 0) := by
  intro k
  induction k with
  | zero => intro _; simp [tm_of, tm_cs]
  | succ k ih =>
    intro hk
    have h1 := ih (by omega)
    have h2 := tm_pl_len P n k
    have h3 : tm_of P n (k + 1) = tm_of P n k + (tm_pl P n k).length := by simp [tm_of, tm_cs]
    have h4 : 0 < k → tm_br P (k - 1) = true → tm_br P k = false := fun h0 hb => by
      have := (tm_slot hok (p := k - 1) (by omega) hb).2.1
      rwa [Nat.sub_add_cancel (by omega)] at this
    simp only [Nat.add_sub_cancel, Nat.zero_lt_succ, true_and]
    by_cases hb : tm_br P k = true
    · simp only [hb, if_true] at h2 ⊢
      have : ¬ (0 < k ∧ tm_br P (k - 1) = true) := fun ⟨a, b⟩ => by rw [h4 a b] at hb; cases hb
      simp only [this, if_false] at h1
      omega
    · simp only [hb] at h2 ⊢
      split at h1 <;> simp at h2 ⊢ <;> omega
/-- a place's code fits: with twelve where it is a branch, with six where it is none -/
theorem tm_fit {P : Nat → Int32} {n : Nat} (hn : n ≤ 24) (hok : tm_ok P n) {k : Nat} (hk : k < n) : tm_of P n k + 12 ≤ 217 ∨ (tm_br P k = false ∧ tm_of P n k + 6 ≤ 217) := by
  have h1 := tm_of_le hok k (by omega)
  by_cases hb : tm_br P k = true
  · left
    have h2 := tm_slot hok hk hb
    have h3 : ¬ (0 < k ∧ tm_br P (k - 1) = true) := fun ⟨a, b⟩ => by
      have := (tm_slot hok (p := k - 1) (by omega) b).2.1
      rw [Nat.sub_add_cancel (by omega)] at this
      rw [this] at hb; cases hb
    simp only [h3, if_false] at h1
    omega
  · right
    refine ⟨by simpa using hb, ?_⟩
    split at h1 <;> omega
/-- the whole code fits -/
theorem tm_fits {P : Nat → Int32} {n : Nat} (hn : n ≤ 24) (hok : tm_ok P n) : tm_of P n n + 1 ≤ 217 := by
  have h1 := tm_of_le hok n (by omega)
  have h3 : ¬ (0 < n ∧ tm_br P (n - 1) = true) := fun ⟨a, b⟩ => by
    have := (tm_slot hok (p := n - 1) (by omega) b).1
    omega
  simp only [h3, if_false] at h1
  omega
/-- what refuses the program: 0, or the reason with its place -/
def tm_rfl (P : Nat → Int32) (n : Nat) : Nat → Nat → Int32
  | 0, _ => 0
  | g + 1, j => if tm_re P n j = 0 then tm_rfl P n g (j + 1) else tm_re P n j + nI (16 * j)
def tm_ref (P : Nat → Int32) (n : Nat) : Int32 := tm_rfl P n n 0
/-- writing instructions one behind the other; f: what goes into the last field -/
def tm_pa (f : tI → Int32) (F : Nat → Int32) (k : Nat) : List tI → Nat → Int32
  | [] => F
  | i :: r => tm_pa f (tm_w4 F k i.1 i.2.1 i.2.2.1 (f i)) (k + 1) r
theorem tm_pa_app (f : tI → Int32) (xs ys : List tI) : ∀ (F : Nat → Int32) (k : Nat), tm_pa f F k (xs ++ ys) = tm_pa f (tm_pa f F k xs) (k + xs.length) ys := by
  induction xs with
  | nil => intro F k; rfl
  | cons i r ih =>
    intro F k
    show tm_pa f (tm_w4 F k i.1 i.2.1 i.2.2.1 (f i)) (k + 1) (r ++ ys) = _
    rw [ih]
    show _ = tm_pa f (tm_pa f (tm_w4 F k i.1 i.2.1 i.2.2.1 (f i)) (k + 1) r) (k + (r.length + 1)) ys
    rw [Nat.add_assoc, Nat.add_comm 1]
/-- the last field led by the beginnings B -/
def tm_rs (B : Nat → Int32) (i : tI) : Int32 := if i.2.2.2.2.1 then B i.2.2.2.1.toNatClampNeg else i.2.2.2.1
