/-! THE LAW'S WRAPPERS: their contracts (xh: the cells wc become w1, the answer is r; mc cells and ms slots are made) -/
/-- neither of the other two exceptions is an IllegalArgumentException -/
def xV (U : State) : Prop := ∀ E ∈ ["java/lang/IllegalStateException", "java/util/NoSuchElementException"], ∀ c t : ClassId, U.vm.findClass E = some c → U.vm.findClass "java/lang/IllegalArgumentException" = some t → U.vm.assignable c t = false
theorem xV_mv {s U : State} (h : xV s) (hW : s.WarmedH U.vm) : xV U := fun E hE c t h1 h2 => by
  rw [hW.alike.assignable]
  rw [hW.alike.findClass] at h1 h2
  exact h E hE c t h1 h2
section XR
variable {p : Program} {l : Launch} {e : Env} {R : Room} {s : State} {m : MethodId} {args : Array Value} {below : List Frame} {meth : Method} {c : Code}
/-- the first row catches -/
theorem xh_e1 {own E : String} {pc : Nat} {x : ExceptionTableEntry} (hown : s.vm.findClass own = some m.cls) (h0 : x.catchType ≠ 0) (hl : (Cond.classLink own x.catchType E).before args s = true) (hc : (Cond.castable E E).before args s = true) :
    ∀ (T : State) (locs : List Loc) (cells slots : Nat), Stand p l e R s m args below meth c T locs cells slots → ∀ cE : ClassId, s.vm.findClass E = some cE → (∀ y ∈ ([] : List ExceptionTableEntry), RowPassed e.platform s m.cls pc cE y) ∧ RowCatches e.platform s m.cls cE x ∧ ∃ k, s.vm.classes[cE]? = some k := by
  intro T locs cells slots X cE hE
  obtain ⟨c1, t1, h1, h2, h3⟩ := Cond.castable_spec hc
  cases hE.symm.trans h1
  obtain ⟨r1, r2⟩ := X.catches_of_link hown h0 hl h2 h3
  exact ⟨fun _ h => absurd h List.not_mem_nil, r1, r2⟩
/-- the first row, of IllegalArgumentException, is passed, the second one catches -/
theorem xh_e2 {own E : String} {pc : Nat} {x x1 : ExceptionTableEntry} (hown : s.vm.findClass own = some m.cls) (h01 : x1.catchType ≠ 0) (hl1 : (Cond.classLink own x1.catchType "java/lang/IllegalArgumentException").before args s = true) (hV : xV s) (hE : E ∈ ["java/lang/IllegalStateException", "java/util/NoSuchElementException"]) (h0 : x.catchType ≠ 0) (hl : (Cond.classLink own x.catchType E).before args s = true) (hc : (Cond.castable E E).before args s = true) :
    ∀ (T : State) (locs : List Loc) (cells slots : Nat), Stand p l e R s m args below meth c T locs cells slots → ∀ cE : ClassId, s.vm.findClass E = some cE → (∀ y ∈ ([x1] : List ExceptionTableEntry), RowPassed e.platform s m.cls pc cE y) ∧ RowCatches e.platform s m.cls cE x ∧ ∃ k, s.vm.classes[cE]? = some k := by
  intro T locs cells slots X cE hcE
  obtain ⟨-, r1, r2⟩ := xh_e1 (pc := pc) hown h0 hl hc T locs cells slots X cE hcE
  have hpl : e.platform.magicAccessors = ({} : Platform).magicAccessors := by rw [X.admits.platform]
  obtain ⟨c', hc', hcl⟩ := Cond.classLink_spec hown hl1 e.platform hpl
  refine ⟨fun y hy => ?_, r1, r2⟩
  rw [List.mem_singleton.mp hy]
  exact Or.inr ⟨h01, c', hcl, hV E hE cE c' hcE hc'⟩
end XR
def xh_P (vs : List Value) (D : va_G) (cl : List vw_C) (wc : va_W) (tys : List (ClassId × FieldType)) (sz : Nat) : Array Value → State → Prop := fun v U => xw_P vs D cl wc tys sz v U ∧ xT U ∧ xV U
def xh_Met (l : Launch) (y : MethodName) (b : ByteArray) (ml : Nat) (ret : Option FieldType) (hh : List (Nat × Nat × Nat × Nat)) (rm : Room) (vs : List Value) (D : va_G) (cl : List vw_C) (tys : List (ClassId × FieldType)) (wc w1 : va_W) (r : Int32) (mc ms : Nat) : Prop :=
  ∀ sz, Met l y (Cond.codeWith y b ml ret hh :: gG) rm (xh_P vs D cl wc tys sz) (va_Qi (fun (z : Int32) (_ : Unit) => z = r) (fun _ t => xw_B D cl w1 (va_A wc sz) t) (va_A wc sz)) mc ms (va_A wc sz)
theorem xh_blind {vs : List Value} {D : va_G} {cl : List vw_C} {ws : va_W} {tys : List (ClassId × FieldType)} {sz : Nat} : FrameBlind (xh_P vs D cl ws tys sz) :=
  fun a U g mk q => ⟨xw_blind a U g mk q.1, xT_call a U g mk q.2.1, q.2.2⟩
theorem xh_tab {p : Program} {l : Launch} {y : MethodName} {S : Spec} {cc : ByteArray} {ml : Nat} {ret : Option FieldType} {hh : List (Nat × Nat × Nat × Nat)} {e : Env} {s : State} {m : MethodId} {args : Array Value} {below : List Frame} {meth : Method} {c : Code} {s₁ : State}
    (B : BodyLoose p l y S cc ml ret e s m args below meth c s₁) (hw : (Cond.codeWith y cc ml ret hh).before args s = true) : c.exceptionTable.toList = tableOf hh := by
  obtain ⟨m', meth', c', h1, h2, h3, -, -, h6, -⟩ := Cond.codeWith_spec hw
  cases B.named.symm.trans h1
  have X := Stand.of_body B
  cases X.method.symm.trans h2
  cases X.code.symm.trans h3
  rw [← h6, table_eq]
section XI
variable {p : Program} {l : Launch} {e : Env} {R : Room} {s : State} {m : MethodId} {args : Array Value} {below : List Frame} {meth : Method} {c : Code} {H : Heap} {locs : List Loc} {cells slots : Nat} {Q : State → Prop}
variable {D : va_G} {cl : List vw_C} {ws wc wr w1 w2 : va_W} {tys : List (ClassId × FieldType)} {A : Nat → Prop} {H0 : Heap} {pc : Nat} {rest st : List Value} {ls : Array Slot} {a' : Array Value}
theorem xh_pre {vs : List Value} (hK : xK D cl tys s) (hT : ∀ U : State, U.heap = H → s.WarmedH U.vm → xT U) (hV : xV s) (hP : va_P D cl ws H) (hD : va_D A ws) (isC : List Nat) (hnC : va_nd isC = true) (hC : isC.map (fun i => ws[i]?) = wc.map some) : ∀ U : State, U.heap = H → s.WarmedH U.vm → xh_P vs D cl wc tys H.size vs.toArray U :=
  fun U hU hW => ⟨xw_pre hK hP hD isC hnC hC U hU hW, hT U hU hW, xV_mv hV hW⟩
/-- as xi_go, where cells are made -/
theorem xh_go {r : Int32} {mc ms : Nat} (hr : va_Run p l e R s m args below meth c H locs cells slots mc ms (F0 m pc ls st) rest (va_Qi (fun (z : Int32) (_ : Unit) => z = r) (fun _ t => xw_B D cl w1 (va_A wc H.size) t) (va_A wc H.size) a') (va_A wc H.size))
    (hP : va_P D cl ws H) (hD : va_D A ws) (hS : va_S A H0 H locs) (hA : ∀ q, H0.size ≤ q → A q) (isC isR pm : List Nat) (hC : isC.map (fun i => ws[i]?) = wc.map some) (hRr : isR.map (fun i => ws[i]?) = wr.map some) (hnR : va_nd isR = true) (hdis : ∀ i ∈ isR, i ∉ isC) (hpm : pm.map (fun i => (wr ++ w1)[i]?) = w2.map some) (hpn : va_nd pm = true)
    (k : ∀ (H1 : Heap) (locs1 : List Loc), va_P D cl w2 H1 → va_D A w2 → va_S A H0 H1 locs1 → W p l e R s m args below meth c H1 locs1 (cells + mc) (slots + ms) Q (F0 m (pc + 3) ls (.int r :: rest))) : W p l e R s m args below meth c H locs cells slots Q (F0 m pc ls st) := by
  have hFc := va_free (wc := wc) hD hS hA isC hC
  refine va_calli hr hS (fun q _ h => hFc q h) hFc (fun z u t H1 locs1 ht hvm hw hB hz1 hk1 hS1 => ?_)
  obtain ⟨hP1, hD1⟩ := hB
  rw [ht] at hP1
  obtain ⟨hPj, hDj⟩ := va_join (wr := wr) (w1 := w1) hP hD isC isR hC hRr hnR hdis hk1 hFc hP1 hD1
  rw [show z = r from hw]
  exact k H1 locs1 (hPj.sub pm (xfm hpm)) (hDj.sub pm hpn hpm) hS1
/-- the world behind a caught throw -/
theorem xf_P {E : String} {H1 : Heap} {x : Addr} (h : xf_H E s H H1 x) (hP : va_P D cl ws H) : va_P D cl ws H1 := hP.kept (fun k q hq => h.2.2.1 q.1 ((hP k q hq).lt))
theorem xf_S {E : String} {H1 : Heap} {x : Addr} (h : xf_H E s H H1 x) (hS : va_S A H0 H locs) : va_S A H0 H1 locs := ⟨Nat.le_trans hS.1 h.2.1, fun q h1 h2 => (h.2.2.1 q (Nat.lt_of_lt_of_le h1 hS.1)).trans (hS.2.1 q h1 h2), hS.2.2⟩
end XI
