/-! THROWS: the words of the exceptions' constructors hold on while what was there stays -/
theorem xT_face {s U : State} (hW : s.WarmedH U.vm) {w : Cond} (hk : w.keepsFace = true) (h : ∀ a : Array Value, w.before a s = true) : ∀ a : Array Value, w.before a (s.setVm U.vm) = true := fun a => Cond.before_shiftedFace (State.Shifted.of_warmed hW) _ hk (h a)
theorem xT_heap {s U : State} (hH : ∀ q : Nat, q < s.heap.size → U.heap[q]? = s.heap[q]?) {C n d : String} (h : ∀ a : Array Value, (Cond.laysStatic C n d).before a (s.setVm U.vm) = true) : ∀ a : Array Value, (Cond.laysStatic C n d).before a U = true := by
  intro a
  obtain ⟨c, k, i, f, ad, cell, h1, h2, h3, h4, h5, h6, h7, h8, h9⟩ := Cond.laysStatic_spec (h a)
  have h5' : s.heap[ad]? = some cell := h5
  have hu : U.heap[ad]? = some cell := (hH ad (Array.getElem?_eq_some_iff.mp h5').1).trans h5'
  have h1' : U.vm.findClass C = some c := h1
  have h2' : U.fieldFound? C n d = some (c, k, i, f) := h2
  simp [Cond.before, Cond.holds, Cond.value, h1', h2', h3, h4, hu, h6, h7, h8, h9]
theorem xT_stat {s U : State} (hH : ∀ q : Nat, q < s.heap.size → U.heap[q]? = s.heap[q]?) {C n d : String} (hl : ∀ a : Array Value, (Cond.laysStatic C n d).before a (s.setVm U.vm) = true) (h : ∀ a : Array Value, (Cond.isRef (.static C n d)).before a (s.setVm U.vm) = true) : ∀ a : Array Value, (Cond.isRef (.static C n d)).before a U = true := by
  intro a
  obtain ⟨c, k, i, f, ad, cell, h1, h2, h3, h4, h5, h6, h7, h8, h9⟩ := Cond.laysStatic_spec (hl a)
  have h5' : s.heap[ad]? = some cell := h5
  have hu : U.heap[ad]? = some cell := (hH ad (Array.getElem?_eq_some_iff.mp h5').1).trans h5'
  have h2' : U.fieldFound? C n d = some (c, k, i, f) := h2
  have e : (Term.static C n d).eval a U none [] U = (Term.static C n d).eval a (s.setVm U.vm) none [] (s.setVm U.vm) := by
    have h5s : (s.setVm U.vm).heap[ad]? = some cell := h5
    simp [Term.eval, State.fieldNamed?, h2, h2', h3, h4, h5s, h5', hu]
  have := h a
  simp only [Cond.before, Cond.holds, Cond.value] at this ⊢
  rw [e]
  exact this
theorem xT_mv {s U : State} (h : xT s) (hW : s.WarmedH U.vm) (hH : ∀ q : Nat, q < s.heap.size → U.heap[q]? = s.heap[q]?) : xT U := by
  have f : ∀ w ∈ xT_ws, w.keepsFace = true → ∀ a : Array Value, w.before a (s.setVm U.vm) = true := fun w hw hk => xT_face hW hk (h w hw)
  have s0 := f _ xT_0 rfl
  have s1 := f _ xT_1 rfl
  have s2 := f _ xT_2 rfl
  have s3 := f _ xT_3 rfl
  have s4 := f _ xT_4 rfl
  have s5 := f _ xT_5 rfl
  have s6 := f _ xT_6 rfl
  have s7 := f _ xT_7 rfl
  have s8 := f _ xT_8 rfl
  have s9 := f _ xT_9 rfl
  exact List.forall_mem_cons.mpr ⟨xT_heap hH s0, List.forall_mem_cons.mpr ⟨xT_heap hH s1, List.forall_mem_cons.mpr ⟨fun a => s2 a, List.forall_mem_cons.mpr ⟨fun a => s3 a, List.forall_mem_cons.mpr ⟨fun a => s4 a, List.forall_mem_cons.mpr ⟨fun a => s5 a, List.forall_mem_cons.mpr ⟨xT_stat hH s0 s6, List.forall_mem_cons.mpr ⟨xT_stat hH s1 s7, List.forall_mem_cons.mpr ⟨fun a => s8 a, List.forall_mem_cons.mpr ⟨fun a => s9 a, fun _ h9 => absurd h9 List.not_mem_nil⟩⟩⟩⟩⟩⟩⟩⟩⟩⟩
theorem xT_call (a' : Array Value) (U : State) (g : JFrame) (mk : MethodId) (h : xT U) : xT (U.calling g mk a') := xT_mv (s := U) h (State.WarmedH.refl U) (fun _ _ => rfl)
