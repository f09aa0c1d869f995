/-! THROWS: the words of the exceptions' constructors hold on while what was there stays -/
theorem xT_face {s U : State} (hW : s.WarmedH U.vm) {w : Cond} (hk : w.keepsFace = true) (h : ∀ a : Array Value, w.before a s = true) : ∀ a : Array Value, w.before a (s.setVm U.vm) = true := fun a => Cond.before_shiftedFace (State.Shifted.of_warmed hW) _ hk (h a)
theorem xT_heap {s U : State} (hH : ∀ q : Nat, q < s.heap.size → U.heap[q]? = s.heap[q]?) {C n d : String} (h : ∀ a : Array Value, (Cond.laysStatic C n d).before a (s.setVm U.vm) = true) : ∀ a : Array Value, (Cond.laysStatic C n d).before a U = true := by
  intro a
  obtain ⟨c, k, i, f, ad, cell, h1, h2, h3, h4, h5, h6, h7, h8, h9⟩ := Cond.laysStatic_spec (h a)
  have h5' : s.heap[ad]? = some cell := h5
  have hu : U.heap[ad]? = some cell := (hH ad (Array.getElem?_eq_some_iff.mp h5').1).trans h5'
  have h1' : U.vm.findClass C = some c := h1
  have h2' : U.fieldFound? C n d = some (c, k, i, f) := h2
  simp [Cond.before, Cond.holds, Cond.value, h1', h2', h3, h4, hu, h6, h7, h8, h9]
