/-! NUMBERS that the walks meet -/
theorem xn_4 (q w : Nat) : (4 : Int32) * nI q + nI w = nI (4 * q + w) := by rw [show (4 : Int32) = nI 4 from rfl, pk_mul, nI_add]
/-- four fields of an instruction at the place k -/
def tm_w4 (F : Nat → Int32) (k : Nat) (o d s t : Int32) : Nat → Int32 := upd (upd (upd (upd F (4 * k) o) (4 * k + 1) d) (4 * k + 2) s) (4 * k + 3) t
