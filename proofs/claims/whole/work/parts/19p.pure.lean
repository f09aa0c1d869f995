/-! PURE: what the reference writes: the fields as they are, and which are open -/
def tm_rw (i : tI) : Int32 := i.2.2.2.1
def tm_po (O : Nat → Int32) (k : Nat) : List tI → Nat → Int32
  | [] => O
  | i :: r => tm_po (upd O k (if i.2.2.2.2.1 then 1 else 0)) (k + 1) r
theorem tm_po_app (xs ys : List tI) : ∀ (O : Nat → Int32) (k : Nat), tm_po O k (xs ++ ys) = tm_po (tm_po O k xs) (k + xs.length) ys := by
  induction xs with
  | nil => intro O k; rfl
  | cons i r ih =>
    intro O k
    show tm_po (upd O k _) (k + 1) (r ++ ys) = _
    rw [ih]
    show _ = tm_po (tm_po (upd O k _) (k + 1) r) (k + (r.length + 1)) ys
    rw [Nat.add_assoc, Nat.add_comm 1]
theorem xn_uu (O : Nat → Int32) (k : Nat) (x y : Int32) : upd (upd O k x) k y = upd O k y := by funext j; unfold upd; split <;> rfl
theorem tm_wi_0 {x lo hi : Int32} (h : x < lo ∨ hi < x) : tm_wi x lo hi = 0 := by
  unfold tm_wi
  by_cases h1 : x < lo
  · rw [if_pos h1]
  · rw [if_neg h1, if_pos (h.resolve_left h1)]
theorem xn_w13t {r : Int32} (h : tm_wi r 1 3 = 0) : (if r ≤ 0 then (4 : Int32) else if 4 ≤ r then 4 else r) = 4 := by
  by_cases h0 : r ≤ 0
  · rw [if_pos h0]
  · by_cases h4 : 4 ≤ r
    · rw [if_neg h0, if_pos h4]
    · exfalso
      refine tm_wi_y ?_ ?_ h
      · rw [Int32.le_iff_toInt_le] at h0 ⊢
        have e0 : (0 : Int32).toInt = 0 := rfl
        have e1 : (1 : Int32).toInt = 1 := rfl
        omega
      · rw [Int32.le_iff_toInt_le] at h4 ⊢
        have e0 : (4 : Int32).toInt = 4 := rfl
        have e1 : (3 : Int32).toInt = 3 := rfl
        omega
theorem xn_w13f {r : Int32} (h : ¬ tm_wi r 1 3 = 0) : (if r ≤ 0 then (4 : Int32) else if 4 ≤ r then 4 else r) = r := by
  obtain ⟨a, b⟩ := tm_wi_n h
  have h0 : ¬ r ≤ 0 := by
    rw [Int32.le_iff_toInt_le] at a ⊢
    have e0 : (0 : Int32).toInt = 0 := rfl
    have e1 : (1 : Int32).toInt = 1 := rfl
    omega
  have h4 : ¬ 4 ≤ r := by
    rw [Int32.le_iff_toInt_le] at b ⊢
    have e0 : (4 : Int32).toInt = 4 := rfl
    have e1 : (3 : Int32).toInt = 3 := rfl
    omega
  rw [if_neg h0, if_neg h4]
theorem xn_lt4 {r : Int32} : r ≤ 3 ↔ r < 4 := by
  rw [Int32.le_iff_toInt_le, Int32.lt_iff_toInt_lt]
  have e0 : (4 : Int32).toInt = 4 := rfl
  have e1 : (3 : Int32).toInt = 3 := rfl
  omega
