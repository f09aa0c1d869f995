/-! PURE: the numbers, the two machines' steps as each program writes them, the translation as lists of instructions. No machine of the kit here. -/
/-- (short) v -/
def tm_wr (v : Int32) : Int32 := v.toInt16.toInt32
/-- a number of the document: sixteen bits with sign -/
def tm_sh (v : Int32) : Prop := -32768 ≤ v.toInt ∧ v.toInt ≤ 32767
theorem tm_wr_toInt (v : Int32) : (tm_wr v).toInt = v.toInt.bmod 65536 := by
  unfold tm_wr
  rw [Int16.toInt_toInt32, Int32.toInt_toInt16]
theorem tm_wr_sh (v : Int32) : tm_sh (tm_wr v) := by
  unfold tm_sh
  rw [tm_wr_toInt]
  have h1 := Int.le_bmod (x := v.toInt) (m := 65536) (by decide)
  have h2 := Int.bmod_lt (x := v.toInt) (m := 65536) (by decide)
  omega
theorem tm_wr_id {v : Int32} (h : tm_sh v) : tm_wr v = v := by
  apply Int32.toInt_inj.mp
  rw [tm_wr_toInt]
  obtain ⟨h1, h2⟩ := h
  apply Int.bmod_eq_of_le <;> omega
theorem tm_sh_nI {n : Nat} (h : n < 32768) : tm_sh (nI n) := by
  unfold tm_sh
  rw [nI_toInt (by omega)]
  omega
theorem tm_sh_0 : tm_sh 0 := by unfold tm_sh; decide
theorem tm_sh_1 : tm_sh 1 := by unfold tm_sh; decide
/-- both bounds of isNumber, as the programs ask them -/
theorem tm_sh_of {v : Int32} (h1 : (-32768 : Int32) ≤ v) (h2 : v ≤ 32767) : tm_sh v := by
  rw [Int32.le_iff_toInt_le] at h1 h2
  exact ⟨h1, h2⟩
theorem tm_and_sh {x y : Int32} (hx : tm_sh x) (hy : tm_sh y) : tm_wr (x &&& y) = x &&& y := by
  have e1 := tm_wr_id hx
  have e2 := tm_wr_id hy
  unfold tm_wr at *
  apply Int32.toBitVec_inj.mp
  rw [Int16.toBitVec_toInt32, Int32.toBitVec_toInt16, Int32.toBitVec_and, BitVec.signExtend_and, BitVec.signExtend_and]
  have e1' := congrArg Int32.toBitVec e1
  have e2' := congrArg Int32.toBitVec e2
  rw [Int16.toBitVec_toInt32, Int32.toBitVec_toInt16] at e1' e2'
  rw [e1', e2']
/-- both programs' way to a register's number out of c -/
theorem tm_fm8 : ∀ k, k < 256 → fmv (nI k - 128) 8 = (nI k - 128) &&& 7 := by decide +kernel
theorem tm_and7 (c : Int32) : ∃ j : Nat, j < 8 ∧ c &&& 7 = nI j := pk_andE c 3 (by decide)
