/-! THE LAW'S WRAPPERS: a call that ends in a throw, caught by a row of the wrapper's own table -/
section XF
variable {p : Program} {l : Launch} {e : Env} {R : Room} {s : State} {m : MethodId} {args : Array Value} {below : List Frame} {meth : Method} {c : Code} {H : Heap} {locs : List Loc} {cells slots : Nat} {Q : State → Prop}
theorem xe_kept {st t : State} (h : st.sameButNew ({ t with vm := st.vm } : State) [] 1 6) : ∀ q : Nat, q < st.heap.size → t.heap[q]? = st.heap[q]? := by
  intro q hq
  have hc : st.heap[q]? = some st.heap[q] := Array.getElem?_eq_getElem hq
  obtain ⟨c', h1, h2, h3, h4⟩ := h.2.2.2.2.2 q _ hc
  have h1' : t.heap[q]? = some c' := h1
  rw [h1', hc]
  have hs : c'.slots = st.heap[q].slots := by
    apply Array.ext_getElem?
    intro i
    exact h4 i (by simp)
  rw [h2, hs]
/-- the heap behind a caught throw: as it was, and the exception -/
def xf_H (C : String) (s : State) (H H1 : Heap) (x : Addr) : Prop := H.size ≤ x ∧ H.size ≤ H1.size ∧ (∀ q : Nat, q < H.size → H1[q]? = H[q]?) ∧ ∃ ce : Cell, H1[x]? = some ce ∧ ce.vm.isStatics = false ∧ s.vm.findClass C = some ce.cls
theorem xh_throw {D : va_G} {cl : List vw_C} {ws wc : va_W} {tys : List (ClassId × FieldType)} {y : MethodName} {b cc : ByteArray} {ml n nL index pc : Nat} {ret : Option FieldType} {rm : Room} {own C E : String} {a : Nat} {As rest st : List Value} {ls : Array Slot}
    (S : CallFix p m c cc nL s args gG own) (hM : xt_Met l y b ml ret rm (.ref a :: As) (xtb D cl wc tys) E) (M : xm_I y b ml ret n) (hl : Cond.methodLink own index y ∈ gG) (hs : Cond.selects C y y ∈ gG) (h0 : rm.cells = 1 ∧ rm.slots = 6) (hR : rm.frames + 1 ≤ R.frames ∧ 8 + (ml + 11) + rm.locals ≤ R.locals)
    (hK : xK D cl tys s) (hT : ∀ U : State, U.heap = H → s.WarmedH U.vm → xT U) (hTb : ∀ (a' : Array Value) (U : State) (g : JFrame) (mk : MethodId), xT U → xT (U.calling g mk a')) (hP : va_P D cl ws H) (is : List Nat) (hw : is.filterMap (fun i => ws[i]?) = wc) (hrec : ∃ cell : Cell, H[a]? = some cell ∧ cell.vm.isStatics = false ∧ s.vm.findClass C = some cell.cls)
    (hn : As.length = n) (hls : ls.size = nL) (hst : st = As.reverse ++ .ref a :: rest) (hW : (rest.map fun v => v.category).sum ≤ 8) (hd : decode cc pc = .ok (.invokevirtual index, 3)) (hf : cells + 1 ≤ R.cells ∧ slots + 6 ≤ R.slots)
    (pre : List ExceptionTableEntry) (x : ExceptionTableEntry) (post : List ExceptionTableEntry) (hsplit : c.exceptionTable.toList = pre ++ x :: post) (hx : covers x pc = true)
    (hend : ∀ (T : State) (locs : List Loc) (cells slots : Nat), Stand p l e R s m args below meth c T locs cells slots → ∀ cE : ClassId, s.vm.findClass E = some cE → (∀ y ∈ pre, RowPassed e.platform s m.cls pc cE y) ∧ RowCatches e.platform s m.cls cE x ∧ ∃ k, s.vm.classes[cE]? = some k)
    (k : ∀ (q : Nat) (H1 : Heap), xf_H E s H H1 q → W p l e R s m args below meth c H1 locs (cells + 1) (slots + 6) Q (F0 m x.handlerPc ls [.ref q])) : W p l e R s m args below meth c H locs cells slots Q (F0 m pc ls st) := by
  obtain ⟨hexec, hb, hml, ho, hgG⟩ := S
  obtain ⟨cellB, hcell, hobj, hcls⟩ := hrec
  obtain ⟨Mc, Mi, Mini, My, Mn⟩ := M
  have hBT : Jvm.Free.BackT l R p e below s args y 3 8 (fun A v => A.U.heap = H ∧ A.cells + 1 ≤ R.cells ∧ A.slots + 6 ≤ R.slots ∧ v = (Value.ref a :: As).toArray)
      (fun A _ v B => xf_H E s H B.U.heap v ∧ B.locs = A.locs ∧ B.cells = A.cells + 1 ∧ B.slots = A.slots + 6) := by
    refine Jvm.Free.BackT.of_free (bytes := b) (maxL := ml) (ret := ret) (E := fun a1 st1 o t L k n => L = [] ∧ k = 1 ∧ n = 6) hM hR.1 hR.2 ?_ ?_ (fun _ _ _ _ _ _ _ _ _ => trivial) ?_ ?_
    · intro m1 meth1 c1 A v X hp
      exact ⟨atoms_intro fun w hw => xg_pay hgG Mc w hw _ _ X.warmed, xg_pay hgG Mc _ List.mem_cons_self _ _ X.warmed, word_at X.warmed (gG_good Mini) (hgG _ Mini), by rw [show (headSpec (Cond.code y b ml ret :: gG) rm).room.cells = 1 from h0.1]; exact hp.2.1, by rw [show (headSpec (Cond.code y b ml ret :: gG) rm).room.slots = 6 from h0.2]; exact hp.2.2.1⟩
    · intro m1 meth1 c1 A v g mk X hp
      have hx0 : va_Pc (.ref a :: As) (xb D cl wc tys) v A.U := ⟨hp.2.2.2, by rw [hp.1]; exact hP.sub is hw, hK.warm X.warmed⟩
      have hx1 := xb_blind v A.U g mk hx0
      exact ⟨hx1.1, hx1.2, hTb v A.U g mk (hT A.U hp.1 X.warmed)⟩
    · intro a1 first o t ⟨v, ce, h1, h2, h3, h4, h5, h6, h7⟩
      exact ⟨[], 1, 6, ⟨⟨v, h1⟩, h6, h7⟩, rfl, rfl, rfl⟩
    · intro m1 meth1 c1 A v g mk x1 t L k1 n1 X hp hq hF ⟨e1, e2, e3⟩
      subst e1; subst e2; subst e3
      obtain ⟨v1, ce, h1, h2, h3, h4, h5, h6, h7⟩ := hq
      cases h1
      have hh : (A.U.calling g mk v).heap = H := hp.1
      rw [hh] at h2
      refine ⟨⟨h2, ?_, ?_, ce, h3, h4, ?_⟩, by simp, rfl, rfl⟩
      · have := h7.2.1; rw [hh] at this; exact this
      · have := xe_kept h7; rw [hh] at this; exact this
      · rw [← X.warmed.alike.findClass]; exact h5
  intro T hT0 X
  obtain ⟨mk, methM, hnamed, hmethM, hstM, habM⟩ := Cond.instanceMethod_spec (hgG _ Mi)
  obtain ⟨methM', cM, hmethM', -, -, -, -, -, -, hsigM⟩ := Cond.code_spec hnamed (hgG _ Mc)
  cases hmethM.symm.trans hmethM'
  obtain ⟨c2, r2, m2, q1, q2, q3, q4, kP, hkP, hkPi⟩ := Cond.selects_spec (hgG _ hs)
  cases hcls.symm.trans q1
  cases (State.methodFound?_of_named hnamed My).symm.trans q2
  cases hnamed.symm.trans q3
  have hselP : selectMethod e.platform s.vm cellB.cls mk = .method mk := by rw [Launch.admits_selectMethod X.admits]; exact q4
  have hdg : decode c.code pc = .ok (.invokevirtual index, 3) := by rw [hb]; exact hd
  obtain ⟨vm₁, X₁, hstep₁⟩ := X.invokevirtual hexec ho (hgG _ hl) hnamed hmethM hstM hkP hkPi My (a := a) (cell := cellB) (by rw [hT0]; exact hcell)
    (fun z h => by rw [h] at hobj; cases hobj) hselP hmethM habM hkP hkPi (g := F0 m pc ls st) rfl (argsL := As) (rest := rest) (hn.trans (xg_np Mn _ hsigM)) hst hdg
  obtain ⟨v, ⟨U', l2, c2, s2⟩, X', ⟨hH, g1, g2, g3⟩, hsteps⟩ := hBT m meth c ⟨T.setVm vm₁, locs, cells, slots⟩ { F0 m pc ls st with stack := rest } (.invokevirtual index) mk (Value.ref a :: As).toArray X₁ rfl (hls.trans hml.symm) hdg (by simpa [JFrame.monitorRoom] using hW) (X₁.named hnamed) ⟨hT0, hf.1, hf.2, rfl⟩
  dsimp only [Pt.U, Pt.locs, Pt.cells, Pt.slots] at X' hH g1 g2 g3 hsteps
  subst g1; subst g2; subst g3
  obtain ⟨ce, e1, e2, e3⟩ := hH.2.2.2
  obtain ⟨r1, r2, r3⟩ := hend U' _ _ _ X' ce.cls e3
  obtain ⟨vm', XV, st'⟩ := X'.thenCaughtThrough v (g := { F0 m pc ls st with stack := rest }) rfl hsteps e1 e2 r3 pre x post hsplit r1 hx r2
  obtain ⟨t, a1, b1⟩ := k v U'.heap hH (U'.setVm vm') rfl XV
  refine ⟨t, ?_, b1⟩
  exact hstep₁ _ fun acts => by rw [doInvoke_state]; exact st'.trans a1
end XF
