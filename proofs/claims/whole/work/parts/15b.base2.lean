/-! ROWS: an array's contents as any function that agrees; System.arraycopy by its numbers -/
theorem xa_cell {cA : ClassId} {n : Nat} {f g : Nat → Int32} (h : ∀ j, j < n → f j = g j) : vp_cell cA (n, .inl f) = vp_cell cA (n, .inl g) := by
  unfold vp_cell arrV
  have : (Array.ofFn (n := n) fun j => Value.int (f j.val)) = Array.ofFn (n := n) fun j => Value.int (g j.val) := by
    congr 1
    funext j
    rw [h j.val j.isLt]
  simp only [this]
theorem xa_P {D : va_G} {cl : List vw_C} {ws : va_W} {H : Heap} (hP : va_P D cl ws H) (q0 : Nat) {a : Nat} {cA : ClassId} {n : Nat} {f g : Nat → Int32} (ha : ws[q0]? = some (a, .inl (cA, n, .inl f))) (h : ∀ j, j < n → f j = g j) : va_P D cl (ws.set q0 (a, .inl (cA, n, .inl g))) H := by
  intro k q hk
  by_cases e : q0 = k
  · subst e
    have hlt : q0 < ws.length := (List.getElem?_eq_some_iff.mp ha).1
    rw [List.getElem?_set_self hlt] at hk
    cases hk
    have := hP q0 _ ha
    unfold va_at at this ⊢
    simp only at this ⊢
    rw [← xa_cell h]
    exact this
  · rw [List.getElem?_set_ne e] at hk
    exact hP k q hk
theorem xa_D {A : Nat → Prop} {ws : va_W} (hD : va_D A ws) (q0 : Nat) {a : Nat} {e1 e2 : va_E} (ha : ws[q0]? = some (a, e1)) : va_D A (ws.set q0 (a, e2)) := by
  have hlt : q0 < ws.length := (List.getElem?_eq_some_iff.mp ha).1
  have key : ∀ (k : Nat) (q : Nat × va_E), (ws.set q0 (a, e2))[k]? = some q → ∃ q' : Nat × va_E, ws[k]? = some q' ∧ q'.1 = q.1 := by
    intro k q hk
    by_cases e : q0 = k
    · subst e
      rw [List.getElem?_set_self hlt] at hk
      cases hk
      exact ⟨_, ha, rfl⟩
    · rw [List.getElem?_set_ne e] at hk
      exact ⟨q, hk, rfl⟩
  refine ⟨fun i j p q hi hj hpq => ?_, fun k q hk => ?_⟩
  · obtain ⟨p', h1, e1⟩ := key i p hi
    obtain ⟨q', h2, e2⟩ := key j q hj
    exact hD.1 i j p' q' h1 h2 (by rw [e1, e2, hpq])
  · obtain ⟨q', h1, e1⟩ := key k q hk
    have := hD.2 k q' h1
    rwa [e1] at this
section CP
variable {p : Program} {l : Launch} {e : Env} {R : Room} {s : State} {m : MethodId} {args : Array Value} {below : List Frame} {meth : Method} {c : Code} {H : Heap} {locs : List Loc} {cells slots : Nat} {Q : State → Prop}
variable {D : va_G} {cl : List vw_C} {ws : va_W} {tys : List (ClassId × FieldType)} {A : Nat → Prop} {H0 : Heap} {pc : Nat} {rest : List Value} {ls : Array Slot} {cc : ByteArray} {a a0 : Nat}
theorem xa_cp (hx : p.tables.exec = Jvm.exec) (hb : c.code = cc) (hml : c.maxLocals = ls.size) {own : String} {index : Nat} (hown : s.vm.findClass own = some m.cls) (hg : ∀ w ∈ gG, w.before args s = true) (hlink : Cond.methodLink own index arraycopyName ∈ gG)
    (hK : xK D cl tys s) (hP : va_P D cl ws H) (hD : va_D A ws) (hS : va_S A H0 H locs) (q0 q1 t0 : Nat) {c0 : ClassId} {n0 n1 : Nat} {f g : Nat → Int32} (ha0 : ws[q0]? = some (a0, .inl (c0, n0, .inl f))) (ha1 : ws[q1]? = some (a, .inl (c0, n1, .inl g))) (ht0 : tys[t0]? = some (c0, .int))
    {sp dp n : Int32} (sn dk kn : Nat) (hs : sp = nI sn) (hd : dp = nI dk) (hn : n = nI kn) (h0 : n0 < 2 ^ 31) (h1 : n1 < 2 ^ 31) (h4 : sn + kn ≤ n0) (h5 : dk + kn ≤ n1)
    (hframes : 1 ≤ R.frames) (hlocals : (rest.map fun v => v.category).sum + (nativeFrameWords "java/lang/System" "arraycopy" 5 + 11) ≤ R.locals) (hdg : decode cc pc = .ok (.invokestatic index, 3))
    (kk : ∀ (H1 : Heap) (locs1 : List Loc), va_P D cl (ws.set q1 (a, .inl (c0, n1, .inl (va_cpy f g sn dk kn)))) H1 → va_D A (ws.set q1 (a, .inl (c0, n1, .inl (va_cpy f g sn dk kn)))) → va_S A H0 H1 locs1 → W p l e R s m args below meth c H1 locs1 cells slots Q (F0 m (pc + 3) ls rest)) : W p l e R s m args below meth c H locs cells slots Q (F0 m pc ls (.int n :: .int dp :: .ref a :: .int sp :: .ref a0 :: rest)) := by
  subst hs; subst hd; subst hn
  refine va_copyi hx hb hml hown (hg _ hlink) (hg _ q454) (hg _ q453) (hg _ q16) hK.1 hP hD hS q0 q1 t0 t0 ha0 ha1 ht0 ht0 rfl (nI_pos (by omega)) (nI_pos (by omega)) (nI_pos (by omega)) (by rw [nI_clamp (by omega), nI_clamp (by omega)]; exact h4) (by rw [nI_clamp (by omega), nI_clamp (by omega)]; exact h5) (fun _ _ => rfl) hframes hlocals hdg ?_
  rw [nI_clamp (n := sn) (by omega), nI_clamp (n := dk) (by omega), nI_clamp (n := kn) (by omega)]
  exact kk
end CP
