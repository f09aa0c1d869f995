/-! NUMBERS that the walks meet -/
theorem xn_4 (q w : Nat) : (4 : Int32) * nI q + nI w = nI (4 * q + w) := by rw [show (4 : Int32) = nI 4 from rfl, pk_mul, nI_add]
/-- four fields of an instruction at the place k -/
def tm_w4 (F : Nat → Int32) (k : Nat) (o d s t : Int32) : Nat → Int32 := upd (upd (upd (upd F (4 * k) o) (4 * k + 1) d) (4 * k + 2) s) (4 * k + 3) t
theorem xq_n {C : Prop} [Decidable C] (h : (if C then (1 : Int32) else 0) = 0) : ¬ C := fun hc => by rw [if_pos hc] at h; exact absurd h (by decide)
theorem xq_y {C : Prop} [Decidable C] (h : ¬ (if C then (1 : Int32) else 0) = 0) : C := by
  by_cases hc : C
  · exact hc
  · rw [if_neg hc] at h; exact absurd rfl h
theorem xn_inc (j k : Nat) (h : Int32.ofInt (k : Int) = nI k) : nI j + Int32.ofInt (k : Int) = nI (j + k) := by rw [h, nI_add]
