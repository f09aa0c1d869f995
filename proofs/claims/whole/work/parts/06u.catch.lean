section XC
variable {p : Program} {l : Launch} {e : Env} {R : Room} {s : State} {m : MethodId} {args : Array Value} {below : List Frame} {meth : Method} {c : Code} {T : State} {H : Heap} {locs : List Loc} {cells slots : Nat} {Q : State → Prop}
/-- a row of the table that covers the place and names a class that links: it catches (b), or the search goes on -/
theorem xe_row {f : JFrame} {a : Addr} {x : ExceptionTableEntry} {t : List ExceptionTableEntry} {k : ClassId} {cell : Cell} {b : Bool} {Qh : Handler → Pre} {E : CtlPost} {d : Bool} {acts : List Action} {S : State}
    (hx : covers x f.pc = true) (h0 : x.catchType ≠ 0) (hl : S.vm.ClassLinks e.platform f.method.cls x.catchType k) (hcell : S.heap[a]? = some cell) (hobj : cell.vm.isStatics = false)
    (h1 : ∃ q, S.vm.classes[cell.cls]? = some q) (h2 : ∃ q, S.vm.classes[k]? = some q) (hb : S.vm.assignable cell.cls k = b) :
    wp (findHandler.go f a (x :: t)) Qh E e d acts S ↔ (match b with
      | true => Qh (.found x.handlerPc) d acts (S.setVm (S.vm.noted f.method.cls x.catchType (.cls k)))
      | false => wp (findHandler.go f a t) Qh E e d acts (S.setVm (S.vm.noted f.method.cls x.catchType (.cls k)))) := by
  have hcov : (decide (x.startPc ≤ f.pc) && decide (f.pc < x.endPc)) = true := hx
  have hob := VmData.ne_statics_of hobj
  have same := (Vm.Alike.refl S.vm).noted f.method.cls x.catchType (.cls k)
  have asg := same.assignable cell.cls k
  rw [hb] at asg
  obtain ⟨q1, e1⟩ := h1
  obtain ⟨q2, e2⟩ := h2
  obtain ⟨q1', e1', -⟩ := same.2.2 _ _ e1
  obtain ⟨q2', e2', -⟩ := same.2.2 _ _ e2
  obtain ⟨g1, g2⟩ := (resolveClass_links e.toSetting hl).op (op := VmOp.resolveClass f.method.cls x.catchType) rfl
  cases b <;> simp [findHandler.go, hcov, h0, g1, g2, hcell, hob, e1', e2', asg, VmOp.dirties, VmOp.acts]
end XC
