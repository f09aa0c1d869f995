/-! PURE: Math.floorMod by 8 is the last three bits, for every int -/
theorem xn_sgn (x : Int32) : 0 ≤ x ^^^ 8 ↔ 0 ≤ x := by
  rw [Int32.le_iff_toInt_le, Int32.le_iff_toInt_le]
  have h1 := BitVec.msb_eq_toInt (x := (x ^^^ 8).toBitVec)
  have h2 := BitVec.msb_eq_toInt (x := x.toBitVec)
  rw [Int32.toBitVec_xor, BitVec.msb_xor, h2] at h1
  have h3 : (8 : Int32).toBitVec.msb = false := by decide
  rw [h3] at h1
  have e1 : (x ^^^ 8).toInt = (x.toBitVec ^^^ (8 : Int32).toBitVec).toInt := rfl
  have e2 : x.toInt = x.toBitVec.toInt := rfl
  have e3 : (0 : Int32).toInt = 0 := rfl
  rw [e1, e2, e3]
  by_cases a : x.toBitVec.toInt < 0
  · by_cases b : (x.toBitVec ^^^ (8 : Int32).toBitVec).toInt < 0
    · omega
    · rw [decide_eq_true a, decide_eq_false b] at h1; exact absurd h1 (by decide)
  · by_cases b : (x.toBitVec ^^^ (8 : Int32).toBitVec).toInt < 0
    · rw [decide_eq_false a, decide_eq_true b] at h1; exact absurd h1 (by decide)
    · omega
theorem tm_fm_eq (x : Int32) : tm_fm x = x &&& 7 := by
  have hr : (x - x / 8 * 8).toInt = x.toInt.tmod 8 := rem_toInt x 8
  have hand : x &&& 7 = nI (x.toBitVec.toNat % 8) := pk_and x 3 (by decide)
  have hti : x.toInt = x.toBitVec.toInt := rfl
  have hbt := BitVec.toInt_eq_toNat_cond x.toBitVec
  have hlt := x.toBitVec.isLt
  have hin : (x &&& 7).toInt = (x.toBitVec.toNat % 8 : Nat) := by rw [hand]; exact nI_toInt (by omega)
  apply Int32.toInt_inj.mp
  rw [hin]
  unfold tm_fm
  by_cases h0 : 0 ≤ x
  · rw [if_pos ((xn_sgn x).mpr h0), hr]
    rw [Int32.le_iff_toInt_le] at h0
    have e3 : (0 : Int32).toInt = 0 := rfl
    rw [e3] at h0
    rw [Int.tmod_eq_emod_of_nonneg h0]
    rw [hti, hbt] at h0 ⊢
    split at h0 <;> split <;> omega
  · rw [if_neg (mt (xn_sgn x).mp h0)]
    rw [Int32.le_iff_toInt_le] at h0
    have e3 : (0 : Int32).toInt = 0 := rfl
    rw [e3] at h0
    have htm : x.toInt.tmod 8 = -((-x.toInt) % 8) := by
      have h1 : (-x.toInt).tmod 8 = (-x.toInt) % 8 := Int.tmod_eq_emod_of_nonneg (by omega)
      rw [← h1, Int.neg_tmod, Int.neg_neg]
    have hnat : (x.toBitVec.toNat : Int) = x.toInt + 4294967296 := by
      rw [hti, hbt] at h0 ⊢
      split at h0 <;> split <;> omega
    by_cases hz : x - x / 8 * 8 = 0
    · rw [if_pos hz, hz]
      rw [hz] at hr
      rw [e3] at hr ⊢
      omega
    · rw [if_neg hz]
      have hnz : ¬ x.toInt.tmod 8 = 0 := fun h => hz (by apply Int32.toInt_inj.mp; rw [hr, h]; rfl)
      rw [Int32.toInt_add, hr]
      have e8 : (8 : Int32).toInt = 8 := rfl
      rw [e8, Int.bmod_eq_of_le (by omega) (by omega)]
      omega
theorem tm_fm_ix (x : Int32) : ∃ w : Nat, w < 8 ∧ tm_fm x = nI w := by rw [tm_fm_eq]; exact pk_andE x 3 (by decide)
