/-! THROWS: a method that ends in a throw of a new object; its call inside a method that catches it. -/
section XE
variable {p : Program} {l : Launch} {e : Env} {R : Room} {s : State} {m : MethodId} {args : Array Value} {below : List Frame} {meth : Method} {c : Code} {H : Heap} {locs : List Loc} {cells slots : Nat} {Q : State → Prop}
/-- the launch has no stack traces -/
def xe_L (l : Launch) : Prop := ∀ e : Env, l.admits e → e.platform.stackTraces = false
/-- the end in a throw of a new object of the class C: nothing that was there has changed -/
def xe_Q (C : String) (mc ms : Nat) (st : State) (o : Outcome) (t : State) : Prop := ∃ (x : Addr) (ce : Cell), o = .threw x ∧ st.heap.size ≤ x ∧ t.heap[x]? = some ce ∧ ce.vm.isStatics = false ∧ st.vm.findClass C = some ce.cls ∧ st.WarmedH t.vm ∧ st.sameButNew ({ t with vm := st.vm } : State) [] mc ms
def xe_Met (l : Launch) (y : MethodName) (ws : List Cond) (rm : Room) (Pc : Array Value → State → Prop) (C : String) (mc ms : Nat) : Prop :=
  MetFree l y (headSpec ws rm) Pc (fun _ _ _ _ _ => True) (fun _ st o t => xe_Q C mc ms st o t)
def xe_MQ (below : List Frame) (C : String) (s : State) (mc ms : Nat) : State → Prop := fun t => ∃ o, t.status = .running ∧ Ended t below o ∧ xe_Q C mc ms s o t
theorem xe_ofW {y : MethodName} {ws ws' : List Cond} {rm : Room} {Pc : Array Value → State → Prop} {C : String} {mc ms : Nat} {cc : ByteArray} {maxL : Nat} {ret : Option FieldType}
    (hy : plainName y.cls = true) (hw : ws = Cond.code y cc maxL ret :: ws')
    (body : ∀ p e s m args below meth c s₁, BodyLoose p l y (headSpec ws rm) cc maxL ret e s m args below meth c s₁ → l.admits e → c.exceptionTable.isEmpty = true → c.maxLocals = maxL → Pc args s →
      W p l e (headSpec ws rm).room s m args below meth c s.heap [] 0 0 (xe_MQ below C s mc ms) (entryFrame m args maxL)) : xe_Met l y ws rm Pc C mc ms := by
  refine MetFree.of_bodyS (code := cc) (maxLocals := maxL) (ret := ret) hy ?_ ?_
  · intro args s m h hn
    obtain ⟨meth, c, h1, h2, h3, h4, h5, h6, -, -⟩ := Cond.code_spec hn (atoms_spec (ws := ws) h _ (by rw [hw]; exact List.mem_cons_self))
    exact ⟨meth, c, h1, h2, h3, h4, h5, h6⟩
  · intro p e s m args below meth c s₁ B hml hP _
    have hh0 : s₁.heap = s.heap := by rw [B.state]; rfl
    have X := Stand.of_body B
    obtain ⟨t, a1, o, b1, b2, b3⟩ := body p e s m args below meth c s₁ B X.admits (B.noHandlers (atoms_spec (ws := ws) B.pre _ (by rw [hw]; exact List.mem_cons_self))) hml hP s₁ hh0 X
    exact ⟨t, o, a1, b1, b2, b3⟩
/-- 'throw new X()' from a state in which nothing has been written or made -/
theorem xe_new {cc : ByteArray} {pc nL : Nat} {ls : Array Slot} (hx : p.tables.exec = Jvm.exec) (hb : c.code = cc) (htr : e.platform.stackTraces = false) (hnone : c.exceptionTable.isEmpty = true) (hlocks : meth.locks = false) (hml : c.maxLocals = nL) (hls : ls.size = nL)
    {own cls : String} {names : List String} {i1 ic : Nat} (hown : s.vm.findClass own = some m.cls) (hcl : (Cond.classLink own i1 cls).before args s = true) (hini : (Cond.initialized cls).before args s = true) (hcls : Bundle.fit cls = true) (hnames : ∀ n ∈ names, Bundle.fit n = true)
    (h : ∀ a ∈ Bundle.ownAtoms0 own ic cls names, a.before args s = true)
    (hd0 : decode cc pc = .ok (.new i1, 3)) (hd3 : decode cc (pc + 3) = .ok (.dup, 1)) (hd4 : decode cc (pc + 3 + 1) = .ok (.invokespecial ic, 3)) (hd7 : decode cc (pc + 3 + 1 + 3) = .ok (.athrow, 1))
    (hR1 : 1 ≤ R.cells) (hR2 : 6 ≤ R.slots) (hR3 : names.length + 3 < R.frames) (hR4 : 1 + (13 * (names.length + 1) + 41) ≤ R.locals) :
    W p l e R s m args below meth c s.heap [] 0 0 (xe_MQ below cls s 1 6) (F0 m pc ls []) := by
  refine W.newc (g := F0 m pc ls []) hx hb hown hcl (h (.instantiable cls 6) (by simp [Bundle.ownAtoms0])) hini rfl hd0 (by omega) (by omega) (fun cC kC h1 h2 h3 h4 => ?_)
  refine lv_dup (va := .ref s.heap.size) (rest := []) hx hb hd3 rfl ?_
  intro T hT X
  have hout : ∀ x ∈ c.exceptionTable.toList, covers x (pc + 3 + 1 + 3) = false := by
    have h0 : c.exceptionTable.size = 0 := by simpa [Array.isEmpty] using hnone
    have h1 : c.exceptionTable.toList = [] := List.eq_nil_of_length_eq_zero (by simpa using h0)
    intro y hy
    rw [h1] at hy
    cases hy
  obtain ⟨U, st, run, ended, hW, same, ce, hce, K⟩ := X.ctorThrow0 hx htr hown hcls hnames h (by simp) (a := s.heap.size) h1 h2 (by rw [hT]; simp [freshCell]) (Nat.le_refl _) (g := F0 m (pc + 3 + 1) ls [.ref s.heap.size, .ref s.heap.size]) rfl (by rw [hml]; exact hls) rfl rfl rfl (by rw [hb]; exact hd4) (by rw [hb]; exact hd7) hout hR3 (by simpa [JFrame.monitorRoom, Value.category] using hR4) hlocks
  exact ⟨U, st, .threw s.heap.size, run, ended, s.heap.size, ce, rfl, Nat.le_refl _, hce, by rw [K.vm]; rfl, K.cls, hW, same⟩
end XE
