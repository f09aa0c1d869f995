/-! PURE: two machines' arrays side by side; the reference's numbers -/
def tm_jn (w : Nat) (f g : tF) : tF := fun i => if i < w then f i else g (i - w)
def tm_tw (a b : Int32) : tF := fun i => if i = 0 then a else b
theorem tm_jn_lo {w i : Nat} {f g : tF} (h : i < w) : tm_jn w f g i = f i := by unfold tm_jn; rw [if_pos h]
theorem tm_jn_hi {w i : Nat} {f g : tF} : tm_jn w f g (w + i) = g i := by unfold tm_jn; rw [if_neg (by omega), Nat.add_sub_cancel_left]
theorem tm_jn_ul {w i : Nat} {f g : tF} {v : Int32} (h : i < w) : upd (tm_jn w f g) i v = tm_jn w (upd f i v) g := by
  funext j
  unfold upd tm_jn
  by_cases e : j = i
  · subst e; simp [h]
  · by_cases hj : j < w
    · simp [e, hj]
    · simp [e, hj]
theorem tm_jn_uh {w i : Nat} {f g : tF} {v : Int32} : upd (tm_jn w f g) (w + i) v = tm_jn w f (upd g i v) := by
  funext j
  unfold upd tm_jn
  by_cases e : j = w + i
  · subst e
    have : ¬ w + i < w := by omega
    simp [this]
  · by_cases hj : j < w
    · simp [e, hj]
    · have : ¬ j - w = i := by omega
      simp [e, hj, this]
theorem tm_tw_0 {a b v : Int32} : upd (tm_tw a b) 0 v = tm_tw v b := by funext j; unfold upd tm_tw; split <;> rfl
theorem tm_tw_c {a b v : Int32} : ∀ j, j < 2 → upd (tm_tw a b) 1 v j = tm_tw a v j := by
  intro j hj
  rcases (show j = 0 ∨ j = 1 by omega) with h | h <;> subst h <;> rfl
/-- a register written, and register 0 set back -/
theorem tm_set_m {R : tF} {a : Nat} {v : Int32} (h0 : R 0 = 0) (ha : a < 8) : upd (upd R a v) 0 0 = tm_set R (nI a) v := by
  unfold tm_set
  by_cases h : a = 0
  · subst h
    rw [if_pos (show nI 0 = 0 from rfl), xn_uu]
    funext j
    unfold upd
    by_cases e : j = 0
    · rw [if_pos e, e, h0]
    · rw [if_neg e]
  · rw [if_neg (show ¬ nI a = 0 from xn_ne (w := 0) (by omega) (by decide) h), nI_clamp (by omega)]
    funext j
    unfold upd
    by_cases e : j = 0
    · rw [if_pos e, if_neg (by omega), e, h0]
    · rw [if_neg e]
theorem tm_upd0 {R : tF} (h0 : R 0 = 0) : upd R 0 0 = R := by
  funext j
  unfold upd
  by_cases e : j = 0
  · rw [if_pos e, e, h0]
  · rw [if_neg e]
def tm_mk (o x y : Int32) : Int32 := if o = 2 then tm_wr (x - y) else if o = 3 then tm_wr (x &&& y) else if o = 4 then (if x < y then tm_wr 1 else tm_wr 0) else tm_wr (x + y)
theorem tm_mk_calc {v : Nat} {x y : Int32} (hv : v ≤ 5) (hx : tm_sh x) (hy : tm_sh y) : tm_mk (nI v) x y = tm_calc (nI v) x y := by
  unfold tm_mk tm_calc
  rw [tm_and_sh hx hy, tm_wr_id tm_sh_0, tm_wr_id tm_sh_1, if_neg (show ¬ nI v = 6 from xn_ne (w := 6) (by omega) (by decide) (by omega))]
theorem xn_31 {x : Int32} (h : nI 32 ≤ x) : 31 < x := by
  rw [Int32.le_iff_toInt_le] at h
  rw [Int32.lt_iff_toInt_lt]
  have e0 : (nI 32).toInt = 32 := rfl
  have e1 : (31 : Int32).toInt = 31 := rfl
  omega
