/-! ROWS: a reader that answers an object; what a thrower starts from -/
def xq_Met (l : Launch) (y : MethodName) (b : ByteArray) (ml : Nat) (ret : Option FieldType) (rm : Room) (vs : List Value) (B : State → Prop) (r : Nat) : Prop :=
  Met l y (Cond.code y b ml ret :: gG) rm (va_Pc vs B) (va_Sr (fun z => z = r) (fun z => Value.ref z)) 0 0 (fun _ => False)
section XQ
variable {p : Program} {l : Launch} {e : Env} {R : Room} {s : State} {m : MethodId} {args : Array Value} {below : List Frame} {meth : Method} {c : Code} {H : Heap} {locs : List Loc} {cells slots : Nat} {Q : State → Prop}
variable {D : va_G} {cl : List vw_C} {ws wc : va_W} {tys : List (ClassId × FieldType)} {y : MethodName} {b cc : ByteArray} {ml n nL index pc : Nat} {ret : Option FieldType} {rm : Room} {own C : String} {a r : Nat} {As rest st : List Value} {ls : Array Slot}
theorem xq_V (S : CallFix p m c cc nL s args gG own) (hM : xq_Met l y b ml ret rm (.ref a :: As) (xb D cl wc tys) r) (M : xm_I y b ml ret n) (hl : Cond.methodLink own index y ∈ gG) (hs : Cond.selects C y y ∈ gG) (h0 : rm.cells = 0 ∧ rm.slots = 0) (hR : rm.frames + 1 ≤ R.frames ∧ 8 + (ml + 11) + rm.locals ≤ R.locals)
    (hK : xK D cl tys s) (hP : va_P D cl ws H) (is : List Nat) (hw : is.filterMap (fun i => ws[i]?) = wc) (hrec : ∃ cell : Cell, H[a]? = some cell ∧ cell.vm.isStatics = false ∧ s.vm.findClass C = some cell.cls)
    (hn : As.length = n) (hls : ls.size = nL) (hst : st = As.reverse ++ .ref a :: rest) (hW : (rest.map fun v => v.category).sum ≤ 8) (hd : decode cc pc = .ok (.invokevirtual index, 3)) (hf : cells ≤ R.cells ∧ slots ≤ R.slots)
    (k : W p l e R s m args below meth c H locs cells slots Q (F0 m (pc + 3) ls (.ref r :: rest))) : W p l e R s m args below meth c H locs cells slots Q (F0 m pc ls st) := by
  refine va_csr (rest := rest) (va_Run.run (va_runV (g := F0 m pc ls st) S hM ⟨xg_B S.2.2.2.2 M.1 M.2.2.1 M.2.2.2.1 M.2.2.2.2 hl h0.1 h0.2 hR, S.2.2.2.2 _ M.2.1, S.2.2.2.2 _ hs⟩ ⟨xb_blind, hrec, fun U hU hW => ⟨rfl, by rw [hU]; exact hP.sub is hw, hK.warm hW⟩⟩ rfl hn hls hst (by simpa [JFrame.monitorRoom] using hW) hd hf)) (fun z hz => ?_)
  rw [hz]; exact k
end XQ
/-- a thrower's start: the world, and the words of its exception -/
def xtb (D : va_G) (cl : List vw_C) (ws : va_W) (tys : List (ClassId × FieldType)) : State → Prop := fun U => xb D cl ws tys U ∧ xT U
def xt_Met (l : Launch) (y : MethodName) (b : ByteArray) (ml : Nat) (ret : Option FieldType) (rm : Room) (vs : List Value) (B : State → Prop) (C : String) : Prop := xe_Met l y (Cond.code y b ml ret :: gG) rm (va_Pc vs B) C 1 6
/-- is the number within -/
def tm_wi (x lo hi : Int32) : Int32 := if x < lo then 0 else if hi < x then 0 else 1
def tm_im (x : Int32) : Int32 := if x = 0 then 1 else if x = 1 then 1 else 0
theorem xz_wi (x lo hi : Int32) : narrow .boolean (.int (tm_wi x lo hi)) = .int (tm_wi x lo hi) := by
  unfold tm_wi
  split
  · rfl
  · split <;> rfl
theorem tm_wi_y {x lo hi : Int32} (h1 : lo ≤ x) (h2 : x ≤ hi) : ¬ tm_wi x lo hi = 0 := by
  unfold tm_wi
  rw [if_neg (Int32.not_lt.mpr h1), if_neg (Int32.not_lt.mpr h2)]
  decide
theorem tm_wi_n {x lo hi : Int32} (h : ¬ tm_wi x lo hi = 0) : lo ≤ x ∧ x ≤ hi := by
  unfold tm_wi at h
  by_cases h1 : x < lo
  · rw [if_pos h1] at h; exact absurd rfl h
  · by_cases h2 : hi < x
    · rw [if_neg h1, if_pos h2] at h; exact absurd rfl h
    · exact ⟨Int32.not_lt.mp h1, Int32.not_lt.mp h2⟩
/-- what result tells of numbers 8 to 11 -/
def tm_q4 (y e h d k : Int32) : Int32 := if y = 8 then e else if y = 9 then h else if y = 10 then d else if y = 11 then k else -1
theorem xn_q4 {y : Int32} (h8 : ¬ y = 8) (h9 : ¬ y = 9) (h10 : ¬ y = 10) (h11 : ¬ y = 11) : y.toInt < 8 ∨ 11 < y.toInt := by
  have a : ∀ z : Int32, ¬ y = z → y.toInt ≠ z.toInt := fun z h e => h (Int32.toInt_inj.mp e)
  have b8 := a 8 h8
  have b9 := a 9 h9
  have b10 := a 10 h10
  have b11 := a 11 h11
  have e8 : (8 : Int32).toInt = 8 := rfl
  have e9 : (9 : Int32).toInt = 9 := rfl
  have e10 : (10 : Int32).toInt = 10 := rfl
  have e11 : (11 : Int32).toInt = 11 := rfl
  omega
