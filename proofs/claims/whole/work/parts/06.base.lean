/-! THE CALLS, AS ROWS: contracts over the words gG. A reader (xr): the heap is as it was, the answer is r. A writer (xw; xi with an answer): the cells wc become w1. -/
section XB
variable {p : Program} {l : Launch} {e : Env} {R : Room} {s : State} {m : MethodId} {args : Array Value} {below : List Frame} {meth : Method} {c : Code} {H : Heap} {locs : List Loc} {cells slots : Nat} {Q : State → Prop}
theorem xg_pay {y : MethodName} {b : ByteArray} {ml : Nat} {ret : Option FieldType} (hg : ∀ w ∈ gG, w.before args s = true) (hc : Cond.code y b ml ret ∈ gG) : ∀ w ∈ Cond.code y b ml ret :: gG, ∀ (a' : Array Value) (U : State), s.WarmedH U.vm → w.before a' U = true := by
  intro w hw a' U hW
  have hm : w ∈ gG := (List.mem_cons.mp hw).elim (fun h => h ▸ hc) id
  exact word_at hW (gG_good hm) (hg w hm)
theorem xg_np {y : MethodName} {n : Nat} (h : (parseMethodDescriptor y.desc).map (fun d => d.parameters.length) = some n) : ∀ sig, parseMethodDescriptor y.desc = some sig → n = sig.parameters.length := by
  intro sig hs
  rw [hs] at h
  exact (Option.some.inj h).symm
theorem xg_B {own : String} {index : Nat} {y : MethodName} {b : ByteArray} {ml n mc ms : Nat} {ret : Option FieldType} {rm : Room} (hg : ∀ w ∈ gG, w.before args s = true) (hc : Cond.code y b ml ret ∈ gG) (hi : Cond.initialized y.cls ∈ gG) (hy : y.cls ≠ "java/lang/invoke/MethodHandle" ∧ y.cls ≠ "java/lang/invoke/VarHandle") (hn : (parseMethodDescriptor y.desc).map (fun d => d.parameters.length) = some n)
    (hl : Cond.methodLink own index y ∈ gG) (hrc : rm.cells = mc) (hrs : rm.slots = ms) (hR : rm.frames + 1 ≤ R.frames ∧ 8 + (ml + 11) + rm.locals ≤ R.locals) : CallB R s args own index y b ml ret (Cond.code y b ml ret :: gG) rm mc ms n :=
  ⟨hrc, hrs, hR.1, hR.2, xg_pay hg hc, List.mem_cons_self, hg _ hc, hg _ hi, hy, xg_np hn, hg _ hl⟩
/-- the dispatch of x, declared in owner, to y on an object of the class C -/
theorem xg_U {own C owner : String} {index : Nat} {x y : MethodName} {b : ByteArray} {ml n mc ms : Nat} {ret : Option FieldType} {rm : Room} (hg : ∀ w ∈ gG, w.before args s = true) (M : xm_I y b ml ret n) (hl : Cond.methodLink own index x ∈ gG) (hsm : Cond.sameMethod x.cls owner x.name x.desc ∈ gG) (hdc : va_Nw (.declares ⟨owner, x.name, x.desc⟩) s) (hs : Cond.selects C x y ∈ gG)
    (hd : owner ≠ "java/lang/invoke/MethodHandle" ∧ owner ≠ "java/lang/invoke/VarHandle" ∧ (parseMethodDescriptor x.desc).map (fun d => d.parameters.length) = some n) (hrc : rm.cells = mc) (hrs : rm.slots = ms) (hR : rm.frames + 1 ≤ R.frames ∧ 8 + (ml + 11) + rm.locals ≤ R.locals) : va_CU R s args own C owner index x y b ml ret (Cond.code y b ml ret :: gG) rm mc ms n :=
  ⟨⟨hrc, hrs, hR.1, hR.2, xg_pay hg M.1, List.mem_cons_self⟩, hg _ M.1, hg _ M.2.2.1, ⟨hd.1, hd.2.1⟩, xg_np hd.2.2, hg _ hl, hg _ hsm, va_Decl.abs hdc, hg _ hs, hg _ M.2.1⟩
/-- the same where the method itself has code (it isn't abstract) -/
theorem xg_O {own C owner : String} {index : Nat} {x y z : MethodName} {b b0 : ByteArray} {ml n m0 n0 mc ms : Nat} {ret r0 : Option FieldType} {rm : Room} (hg : ∀ w ∈ gG, w.before args s = true) (M : xm_I y b ml ret n) (hl : Cond.methodLink own index x ∈ gG) (hsm : Cond.sameMethod x.cls owner x.name x.desc ∈ gG) (hz : z = ⟨owner, x.name, x.desc⟩) (M0 : xm_I z b0 m0 r0 n0) (hs : Cond.selects C x y ∈ gG)
    (hd : owner ≠ "java/lang/invoke/MethodHandle" ∧ owner ≠ "java/lang/invoke/VarHandle" ∧ (parseMethodDescriptor x.desc).map (fun d => d.parameters.length) = some n) (hrc : rm.cells = mc) (hrs : rm.slots = ms) (hR : rm.frames + 1 ≤ R.frames ∧ 8 + (ml + 11) + rm.locals ≤ R.locals) : va_CU R s args own C owner index x y b ml ret (Cond.code y b ml ret :: gG) rm mc ms n := by
  subst hz
  exact ⟨⟨hrc, hrs, hR.1, hR.2, xg_pay hg M.1, List.mem_cons_self⟩, hg _ M.1, hg _ M.2.2.1, ⟨hd.1, hd.2.1⟩, xg_np hd.2.2, hg _ hl, hg _ hsm, va_Decl.of (hg _ M0.2.1) (hg _ M0.1), hg _ hs, hg _ M.2.1⟩
/-- the four methods that a machine declares and leaves to its kinds -/
def xN (U : State) : Prop := va_Nw (.declares ⟨"TwoMachines$Machine", "sourceRegister", "(I)I"⟩) U ∧ va_Nw (.declares ⟨"TwoMachines$Machine", "begin", "([I[I)V"⟩) U ∧ va_Nw (.declares ⟨"TwoMachines$Machine", "howItStops", "()I"⟩) U ∧ va_Nw (.declares ⟨"TwoMachines$Machine", "goOn", "(I)V"⟩) U
theorem xN.warm {u U : State} (h : xN u) (hW : u.WarmedH U.vm) : xN U := ⟨va_Nw.warmD hW h.1, va_Nw.warmD hW h.2.1, va_Nw.warmD hW h.2.2.1, va_Nw.warmD hW h.2.2.2⟩
theorem xN.same {u U : State} (h : xN u) (hv : u.vm = U.vm) : xN U := ⟨va_Nw.same rfl hv h.1, va_Nw.same rfl hv h.2.1, va_Nw.same rfl hv h.2.2.1, va_Nw.same rfl hv h.2.2.2⟩
/-- the classes, the array classes and what a machine declares -/
def xK (D : va_G) (cl : List vw_C) (tys : List (ClassId × FieldType)) (U : State) : Prop := va_K D cl tys U ∧ xN U
theorem xK.warm {D : va_G} {cl : List vw_C} {tys : List (ClassId × FieldType)} {u U : State} (h : xK D cl tys u) (hW : u.WarmedH U.vm) : xK D cl tys U := ⟨va_K.moved hW.alike h.1, h.2.warm hW⟩
/-- a world of cells and classes, for readers -/
def xb (D : va_G) (cl : List vw_C) (ws : va_W) (tys : List (ClassId × FieldType)) : State → Prop := fun U => va_P D cl ws U.heap ∧ xK D cl tys U
theorem xb_blind {vs : List Value} {D : va_G} {cl : List vw_C} {ws : va_W} {tys : List (ClassId × FieldType)} : FrameBlind (va_Pc vs (xb D cl ws tys)) :=
  fun a U g mk q => ⟨q.1, q.2.1, va_K.moved (u := U) (U := U.calling g mk a) (Vm.Alike.refl U.vm) q.2.2.1, q.2.2.2.same rfl⟩
def xr_Met (l : Launch) (y : MethodName) (b : ByteArray) (ml : Nat) (ret : Option FieldType) (rm : Room) (vs : List Value) (B : State → Prop) (r : Int32) : Prop :=
  Met l y (Cond.code y b ml ret :: gG) rm (va_Pc vs B) (vp_Si (fun z => z = r)) 0 0 (fun _ => False)
theorem xfm {ws wc : va_W} {is : List Nat} (h : is.map (fun i => ws[i]?) = wc.map some) : is.filterMap (fun i => ws[i]?) = wc := by
  have e1 : is.filterMap (fun i => ws[i]?) = (is.map (fun i => ws[i]?)).filterMap id := by rw [List.filterMap_map]; rfl
  rw [e1, h, List.filterMap_map]
  exact List.filterMap_some
section RO
variable {D : va_G} {cl : List vw_C} {ws wc : va_W} {tys : List (ClassId × FieldType)} {y : MethodName} {b cc : ByteArray} {ml n nL index pc : Nat} {ret : Option FieldType} {rm : Room} {own C : String} {a : Nat} {As rest st : List Value} {r : Int32} {ls : Array Slot}
theorem xr_V (S : CallFix p m c cc nL s args gG own) (hM : xr_Met l y b ml ret rm (.ref a :: As) (xb D cl wc tys) r) (M : xm_I y b ml ret n) (hl : Cond.methodLink own index y ∈ gG) (hs : Cond.selects C y y ∈ gG) (h0 : rm.cells = 0 ∧ rm.slots = 0) (hR : rm.frames + 1 ≤ R.frames ∧ 8 + (ml + 11) + rm.locals ≤ R.locals)
    (hK : xK D cl tys s) (hP : va_P D cl ws H) (is : List Nat) (hw : is.filterMap (fun i => ws[i]?) = wc) (hrec : ∃ cell : Cell, H[a]? = some cell ∧ cell.vm.isStatics = false ∧ s.vm.findClass C = some cell.cls)
    (hn : As.length = n) (hls : ls.size = nL) (hst : st = As.reverse ++ .ref a :: rest) (hW : (rest.map fun v => v.category).sum ≤ 8) (hd : decode cc pc = .ok (.invokevirtual index, 3)) (hf : cells ≤ R.cells ∧ slots ≤ R.slots)
    (k : W p l e R s m args below meth c H locs cells slots Q (F0 m (pc + 3) ls (.int r :: rest))) : W p l e R s m args below meth c H locs cells slots Q (F0 m pc ls st) := by
  refine vp_callSi (rest := rest) (va_Run.run (va_runV (g := F0 m pc ls st) S hM ⟨xg_B S.2.2.2.2 M.1 M.2.2.1 M.2.2.2.1 M.2.2.2.2 hl h0.1 h0.2 hR, S.2.2.2.2 _ M.2.1, S.2.2.2.2 _ hs⟩ ⟨xb_blind, hrec, fun U hU hW => ⟨rfl, by rw [hU]; exact hP.sub is hw, hK.warm hW⟩⟩ rfl hn hls hst (by simpa [JFrame.monitorRoom] using hW) hd hf)) (fun z hz => ?_)
  rw [hz]; exact k
theorem xr_U {owner : String} {x : MethodName} (S : CallFix p m c cc nL s args gG own) (hM : xr_Met l y b ml ret rm (.ref a :: As) (xb D cl wc tys) r) (cu : va_CU R s args own C owner index x y b ml ret (Cond.code y b ml ret :: gG) rm 0 0 n)
    (hK : xK D cl tys s) (hP : va_P D cl ws H) (is : List Nat) (hw : is.filterMap (fun i => ws[i]?) = wc) (hrec : ∃ cell : Cell, H[a]? = some cell ∧ cell.vm.isStatics = false ∧ s.vm.findClass C = some cell.cls)
    (hn : As.length = n) (hls : ls.size = nL) (hst : st = As.reverse ++ .ref a :: rest) (hW : (rest.map fun v => v.category).sum ≤ 8) (hd : decode cc pc = .ok (.invokevirtual index, 3)) (hf : cells ≤ R.cells ∧ slots ≤ R.slots)
    (k : W p l e R s m args below meth c H locs cells slots Q (F0 m (pc + 3) ls (.int r :: rest))) : W p l e R s m args below meth c H locs cells slots Q (F0 m pc ls st) := by
  refine vp_callSi (rest := rest) (va_Run.run (va_runU (g := F0 m pc ls st) S hM cu ⟨xb_blind, hrec, fun U hU hW => ⟨rfl, by rw [hU]; exact hP.sub is hw, hK.warm hW⟩⟩ rfl hn hls hst (by simpa [JFrame.monitorRoom] using hW) hd hf)) (fun z hz => ?_)
  rw [hz]; exact k
theorem xr_S (S : CallFix p m c cc nL s args gG own) (hM : xr_Met l y b ml ret rm As (xb D cl wc tys) r) (M : xm_S y b ml ret n) (hl : Cond.methodLink own index y ∈ gG) (h0 : rm.cells = 0 ∧ rm.slots = 0) (hR : rm.frames + 1 ≤ R.frames ∧ 8 + (ml + 11) + rm.locals ≤ R.locals)
    (hK : xK D cl tys s) (hP : va_P D cl ws H) (is : List Nat) (hw : is.filterMap (fun i => ws[i]?) = wc)
    (hn : As.length = n) (hls : ls.size = nL) (hst : st = As.reverse ++ rest) (hW : (rest.map fun v => v.category).sum ≤ 8) (hd : decode cc pc = .ok (.invokestatic index, 3)) (hf : cells ≤ R.cells ∧ slots ≤ R.slots)
    (k : W p l e R s m args below meth c H locs cells slots Q (F0 m (pc + 3) ls (.int r :: rest))) : W p l e R s m args below meth c H locs cells slots Q (F0 m pc ls st) := by
  refine vp_callSi (rest := rest) (va_Run.run (va_runS (g := F0 m pc ls st) S hM ⟨xg_B S.2.2.2.2 M.1 M.2.2.1 M.2.2.2.1 M.2.2.2.2 hl h0.1 h0.2 hR, S.2.2.2.2 _ M.2.1⟩ ⟨xb_blind, fun U hU hW => ⟨rfl, by rw [hU]; exact hP.sub is hw, hK.warm hW⟩⟩ rfl hn hls hst (by simpa [JFrame.monitorRoom] using hW) hd hf)) (fun z hz => ?_)
  rw [hz]; exact k
end RO
/-- a writer's start and end -/
def xw_P (vs : List Value) (D : va_G) (cl : List vw_C) (wc : va_W) (tys : List (ClassId × FieldType)) (sz : Nat) : Array Value → State → Prop := va_Pc vs (fun U => U.heap.size = sz ∧ va_P D cl wc U.heap ∧ xK D cl tys U ∧ va_D (fun _ => True) wc)
def xw_B (D : va_G) (cl : List vw_C) (w1 : va_W) (A : Nat → Prop) (t : State) : Prop := va_P D cl w1 t.heap ∧ va_D A w1
def xw_Met (l : Launch) (y : MethodName) (b : ByteArray) (ml : Nat) (ret : Option FieldType) (rm : Room) (vs : List Value) (D : va_G) (cl : List vw_C) (tys : List (ClassId × FieldType)) (wc w1 : va_W) : Prop :=
  ∀ sz, Met l y (Cond.code y b ml ret :: gG) rm (xw_P vs D cl wc tys sz) (va_Qv (fun _ : Unit => True) (fun _ t => xw_B D cl w1 (va_A wc sz) t) (va_A wc sz)) 0 0 (va_A wc sz)
def xi_Met (l : Launch) (y : MethodName) (b : ByteArray) (ml : Nat) (ret : Option FieldType) (rm : Room) (vs : List Value) (D : va_G) (cl : List vw_C) (tys : List (ClassId × FieldType)) (wc w1 : va_W) (r : Int32) : Prop :=
  ∀ sz, Met l y (Cond.code y b ml ret :: gG) rm (xw_P vs D cl wc tys sz) (va_Qi (fun (z : Int32) (_ : Unit) => z = r) (fun _ t => xw_B D cl w1 (va_A wc sz) t) (va_A wc sz)) 0 0 (va_A wc sz)
theorem xw_blind {vs : List Value} {D : va_G} {cl : List vw_C} {ws : va_W} {tys : List (ClassId × FieldType)} {sz : Nat} : FrameBlind (xw_P vs D cl ws tys sz) :=
  fun a U g mk q => ⟨q.1, q.2.1, q.2.2.1, ⟨va_K.moved (u := U) (U := U.calling g mk a) (Vm.Alike.refl U.vm) q.2.2.2.1.1, q.2.2.2.1.2.same rfl⟩, q.2.2.2.2⟩
section WR
variable {D : va_G} {cl : List vw_C} {ws wc wr w1 w2 : va_W} {tys : List (ClassId × FieldType)} {A : Nat → Prop} {H0 : Heap} {pc : Nat} {rest st : List Value} {ls : Array Slot} {a' : Array Value}
theorem xw_go (hr : va_Run p l e R s m args below meth c H locs cells slots 0 0 (F0 m pc ls st) rest (va_Qv (fun _ : Unit => True) (fun _ t => xw_B D cl w1 (va_A wc H.size) t) (va_A wc H.size) a') (va_A wc H.size))
    (hP : va_P D cl ws H) (hD : va_D A ws) (hS : va_S A H0 H locs) (hA : ∀ q, H0.size ≤ q → A q) (isC isR pm : List Nat) (hC : isC.map (fun i => ws[i]?) = wc.map some) (hRr : isR.map (fun i => ws[i]?) = wr.map some) (hnR : va_nd isR = true) (hdis : ∀ i ∈ isR, i ∉ isC) (hpm : pm.map (fun i => (wr ++ w1)[i]?) = w2.map some) (hpn : va_nd pm = true)
    (k : ∀ (H1 : Heap) (locs1 : List Loc), va_P D cl w2 H1 → va_D A w2 → va_S A H0 H1 locs1 → W p l e R s m args below meth c H1 locs1 cells slots Q (F0 m (pc + 3) ls rest)) : W p l e R s m args below meth c H locs cells slots Q (F0 m pc ls st) := by
  have hFc := va_free (wc := wc) hD hS hA isC hC
  refine va_callv hr hS (fun q _ h => hFc q h) hFc (fun u t H1 locs1 ht hvm hw hB hz1 hk1 hS1 => ?_)
  obtain ⟨hP1, hD1⟩ := hB
  rw [ht] at hP1
  obtain ⟨hPj, hDj⟩ := va_join (wr := wr) (w1 := w1) hP hD isC isR hC hRr hnR hdis hk1 hFc hP1 hD1
  exact k H1 locs1 (hPj.sub pm (xfm hpm)) (hDj.sub pm hpn hpm) hS1
theorem xi_go {r : Int32} (hr : va_Run p l e R s m args below meth c H locs cells slots 0 0 (F0 m pc ls st) rest (va_Qi (fun (z : Int32) (_ : Unit) => z = r) (fun _ t => xw_B D cl w1 (va_A wc H.size) t) (va_A wc H.size) a') (va_A wc H.size))
    (hP : va_P D cl ws H) (hD : va_D A ws) (hS : va_S A H0 H locs) (hA : ∀ q, H0.size ≤ q → A q) (isC isR pm : List Nat) (hC : isC.map (fun i => ws[i]?) = wc.map some) (hRr : isR.map (fun i => ws[i]?) = wr.map some) (hnR : va_nd isR = true) (hdis : ∀ i ∈ isR, i ∉ isC) (hpm : pm.map (fun i => (wr ++ w1)[i]?) = w2.map some) (hpn : va_nd pm = true)
    (k : ∀ (H1 : Heap) (locs1 : List Loc), va_P D cl w2 H1 → va_D A w2 → va_S A H0 H1 locs1 → W p l e R s m args below meth c H1 locs1 cells slots Q (F0 m (pc + 3) ls (.int r :: rest))) : W p l e R s m args below meth c H locs cells slots Q (F0 m pc ls st) := by
  have hFc := va_free (wc := wc) hD hS hA isC hC
  refine va_calli hr hS (fun q _ h => hFc q h) hFc (fun z u t H1 locs1 ht hvm hw hB hz1 hk1 hS1 => ?_)
  obtain ⟨hP1, hD1⟩ := hB
  rw [ht] at hP1
  obtain ⟨hPj, hDj⟩ := va_join (wr := wr) (w1 := w1) hP hD isC isR hC hRr hnR hdis hk1 hFc hP1 hD1
  rw [show z = r from hw]
  exact k H1 locs1 (hPj.sub pm (xfm hpm)) (hDj.sub pm hpn hpm) hS1
/-- the start of a writer at a call -/
theorem xw_pre {vs : List Value} (hK : xK D cl tys s) (hP : va_P D cl ws H) (hD : va_D A ws) (isC : List Nat) (hnC : va_nd isC = true) (hC : isC.map (fun i => ws[i]?) = wc.map some) : ∀ U : State, U.heap = H → s.WarmedH U.vm → xw_P vs D cl wc tys H.size vs.toArray U :=
  fun U hU hW => ⟨rfl, by rw [hU], by rw [hU]; exact hP.sub isC (xfm hC), hK.warm hW, (hD.sub isC hnC hC).weaken (fun _ _ _ _ => trivial)⟩
end WR
section AR
variable {D : va_G} {cl : List vw_C} {ws : va_W} {tys : List (ClassId × FieldType)} {A : Nat → Prop} {H0 : Heap} {pc : Nat} {rest : List Value} {ls : Array Slot} {cc : ByteArray} {a : Nat}
theorem xa_ld (hx : p.tables.exec = Jvm.exec) (hb : c.code = cc) (hK : xK D cl tys s) (hP : va_P D cl ws H) (q0 t0 : Nat) {cA : ClassId} {n : Nat} {f : Nat → Int32} (ha : ws[q0]? = some (a, .inl (cA, n, .inl f))) (ht : tys[t0]? = some (cA, .int)) {i : Int32} {kx : Nat} (hi : i = nI kx) (hk : kx < n) (hN : n < 2 ^ 31) (hdg : decode cc pc = .ok (.iaload, 1))
    (k : W p l e R s m args below meth c H locs cells slots Q (F0 m (pc + 1) ls (.int (f kx) :: rest))) : W p l e R s m args below meth c H locs cells slots Q (F0 m pc ls (.int i :: .ref a :: rest)) := by
  subst hi
  refine va_iald hx hb hK.1 hP q0 t0 ha ht (vp_in_nI hk hN) hdg ?_
  rw [nI_clamp (by omega)]; exact k
theorem xa_zd (hx : p.tables.exec = Jvm.exec) (hb : c.code = cc) (hK : xK D cl tys s) (hP : va_P D cl ws H) (q0 t0 : Nat) {cA : ClassId} {n : Nat} {f : Nat → Int32} (ha : ws[q0]? = some (a, .inl (cA, n, .inl f))) (ht : tys[t0]? = some (cA, .boolean)) {i : Int32} {kx : Nat} (hi : i = nI kx) (hk : kx < n) (hN : n < 2 ^ 31) (hdg : decode cc pc = .ok (.baload, 1))
    (k : W p l e R s m args below meth c H locs cells slots Q (F0 m (pc + 1) ls (.int (f kx) :: rest))) : W p l e R s m args below meth c H locs cells slots Q (F0 m pc ls (.int i :: .ref a :: rest)) := by
  subst hi
  refine va_zald hx hb hK.1 hP q0 t0 ha ht (vp_in_nI hk hN) hdg ?_
  rw [nI_clamp (by omega)]; exact k
theorem xa_jd (hx : p.tables.exec = Jvm.exec) (hb : c.code = cc) (hK : xK D cl tys s) (hP : va_P D cl ws H) (q0 t0 : Nat) {cA : ClassId} {n : Nat} {f : Nat → Int64} (ha : ws[q0]? = some (a, .inl (cA, n, .inr (.inl f)))) (ht : tys[t0]? = some (cA, .long)) {i : Int32} {kx : Nat} (hi : i = nI kx) (hk : kx < n) (hN : n < 2 ^ 31) (hdg : decode cc pc = .ok (.laload, 1))
    (k : W p l e R s m args below meth c H locs cells slots Q (F0 m (pc + 1) ls (.long (f kx) :: rest))) : W p l e R s m args below meth c H locs cells slots Q (F0 m pc ls (.int i :: .ref a :: rest)) := by
  subst hi
  refine va_lald hx hb hK.1 hP q0 t0 ha ht (vp_in_nI hk hN) hdg ?_
  rw [nI_clamp (by omega)]; exact k
theorem xa_st (hx : p.tables.exec = Jvm.exec) (hb : c.code = cc) (hK : xK D cl tys s) (hP : va_P D cl ws H) (hD : va_D A ws) (hS : va_S A H0 H locs) (q0 t0 : Nat) {cA : ClassId} {n : Nat} {f : Nat → Int32} (ha : ws[q0]? = some (a, .inl (cA, n, .inl f))) (ht : tys[t0]? = some (cA, .int)) {i x : Int32} {kx : Nat} (hi : i = nI kx) (hk : kx < n) (hN : n < 2 ^ 31) (hdg : decode cc pc = .ok (.iastore, 1))
    (k : ∀ (H1 : Heap) (locs1 : List Loc), va_P D cl (ws.set q0 (a, .inl (cA, n, .inl (upd f kx x)))) H1 → va_D A (ws.set q0 (a, .inl (cA, n, .inl (upd f kx x)))) → va_S A H0 H1 locs1 → W p l e R s m args below meth c H1 locs1 cells slots Q (F0 m (pc + 1) ls rest)) : W p l e R s m args below meth c H locs cells slots Q (F0 m pc ls (.int x :: .int i :: .ref a :: rest)) := by
  subst hi
  refine va_iast hx hb hK.1 hP hD hS q0 t0 ha ht (vp_in_nI hk hN) hdg ?_
  rw [nI_clamp (by omega)]; exact k
theorem xa_zs (hx : p.tables.exec = Jvm.exec) (hb : c.code = cc) (hK : xK D cl tys s) (hP : va_P D cl ws H) (hD : va_D A ws) (hS : va_S A H0 H locs) (q0 t0 : Nat) {cA : ClassId} {n : Nat} {f : Nat → Int32} (ha : ws[q0]? = some (a, .inl (cA, n, .inl f))) (ht : tys[t0]? = some (cA, .boolean)) {i x : Int32} {kx : Nat} (hi : i = nI kx) (hk : kx < n) (hN : n < 2 ^ 31) (hv : vp_nar .boolean x = x) (hdg : decode cc pc = .ok (.bastore, 1))
    (k : ∀ (H1 : Heap) (locs1 : List Loc), va_P D cl (ws.set q0 (a, .inl (cA, n, .inl (upd f kx x)))) H1 → va_D A (ws.set q0 (a, .inl (cA, n, .inl (upd f kx x)))) → va_S A H0 H1 locs1 → W p l e R s m args below meth c H1 locs1 cells slots Q (F0 m (pc + 1) ls rest)) : W p l e R s m args below meth c H locs cells slots Q (F0 m pc ls (.int x :: .int i :: .ref a :: rest)) := by
  subst hi
  refine va_zast hx hb hK.1 hP hD hS q0 t0 ha ht (vp_in_nI hk hN) hdg ?_
  rw [nI_clamp (by omega), hv]; exact k
theorem xa_js (hx : p.tables.exec = Jvm.exec) (hb : c.code = cc) (hK : xK D cl tys s) (hP : va_P D cl ws H) (hD : va_D A ws) (hS : va_S A H0 H locs) (q0 t0 : Nat) {cA : ClassId} {n : Nat} {f : Nat → Int64} (ha : ws[q0]? = some (a, .inl (cA, n, .inr (.inl f)))) (ht : tys[t0]? = some (cA, .long)) {i : Int32} {x : Int64} {kx : Nat} (hi : i = nI kx) (hk : kx < n) (hN : n < 2 ^ 31) (hdg : decode cc pc = .ok (.lastore, 1))
    (k : ∀ (H1 : Heap) (locs1 : List Loc), va_P D cl (ws.set q0 (a, .inl (cA, n, .inr (.inl (vp_updL f kx x))))) H1 → va_D A (ws.set q0 (a, .inl (cA, n, .inr (.inl (vp_updL f kx x))))) → va_S A H0 H1 locs1 → W p l e R s m args below meth c H1 locs1 cells slots Q (F0 m (pc + 1) ls rest)) : W p l e R s m args below meth c H locs cells slots Q (F0 m pc ls (.long x :: .int i :: .ref a :: rest)) := by
  subst hi
  refine va_last hx hb hK.1 hP hD hS q0 t0 ha ht (vp_in_nI hk hN) hdg ?_
  rw [nI_clamp (by omega)]; exact k
end AR
end XB
/-- the array classes of ints, booleans, longs -/
abbrev tyL (cI cZ cJ : ClassId) : List (ClassId × FieldType) := [(cI, .int), (cZ, .boolean), (cJ, .long)]
/-- as Met.ofW, for a method of a class with natives, that is none itself -/
theorem xm_ofW {l : Launch} {y : MethodName} {ws ws' : List Cond} {rm : Room} {Pc : Array Value → State → Prop} {Qc : Array Value → State → Outcome → State → Prop} {mc ms : Nat} {free : Addr → Prop} {cc : ByteArray} {maxL : Nat} {ret : Option FieldType}
    (hy : plainFor y = true) (hw : ws = Cond.code y cc maxL ret :: ws')
    (body : ∀ p e s m args below meth c s₁, BodyLoose p l y (headSpec ws rm) cc maxL ret e s m args below meth c s₁ → c.maxLocals = maxL → Pc args s →
      W p l e (headSpec ws rm).room s m args below meth c s.heap [] 0 0 (MQ below Qc args s mc ms free) (entryFrame m args maxL)) : Met l y ws rm Pc Qc mc ms free := by
  refine MetFree.of_bodySF (code := cc) (maxLocals := maxL) (ret := ret) hy ?_ ?_
  · intro args s m h hn
    obtain ⟨meth, c, h1, h2, h3, h4, h5, h6, -, -⟩ := Cond.code_spec hn (atoms_spec (ws := ws) h _ (by rw [hw]; exact List.mem_cons_self))
    exact ⟨meth, c, h1, h2, h3, h4, h5, h6⟩
  · intro p e s m args below meth c s₁ B hml hP _
    have hh0 : s₁.heap = s.heap := by rw [B.state]; rfl
    obtain ⟨t, a1, o, b1, b2, b3⟩ := body p e s m args below meth c s₁ B hml hP s₁ hh0 (Stand.of_body B)
    exact ⟨t, o, a1, b1, b2, ⟨b3.1, b3.2⟩⟩
