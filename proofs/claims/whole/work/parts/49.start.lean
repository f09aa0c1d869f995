/-! THE LAW: what its start gives (printed by wip/whole/gen/c49.py) -/
theorem lt_1 {w : Cond} (i : Nat) (h : tables_1_1[i]? = some w) : w ∈ lw_tbl := List.mem_append_right _ (List.mem_append_left _ (List.mem_of_getElem? h))
theorem lt_2 {w : Cond} (i : Nat) (h : tables_1_2[i]? = some w) : w ∈ lw_tbl := List.mem_append_right _ (List.mem_append_right _ (List.mem_append_left _ (List.mem_of_getElem? h)))
theorem lt_3 {w : Cond} (i : Nat) (h : tables_1_3[i]? = some w) : w ∈ lw_tbl := List.mem_append_right _ (List.mem_append_right _ (List.mem_append_right _ (List.mem_append_left _ (List.mem_of_getElem? h))))
theorem lt_4 {w : Cond} (i : Nat) (h : tables_1_4[i]? = some w) : w ∈ lw_tbl := List.mem_append_right _ (List.mem_append_right _ (List.mem_append_right _ (List.mem_append_right _ (List.mem_of_getElem? h))))
theorem lx_sel {C : String} {x y z : MethodName} {s : State} {args : Array Value} (hy : y.cls ≠ "java/lang/invoke/MethodHandle" ∧ y.cls ≠ "java/lang/invoke/VarHandle") (hz : (Cond.selects C x z).before args s = true) (hzc : z.cls = y.cls)
    (hpriv : (Cond.privateMethod y).before args s = true) (hinst : (Cond.instanceMethod y).before args s = true) : (Cond.selects C y y).before args s = true := by
  obtain ⟨c, r, mz, hc, -, hnz, -, mk, hk, hni⟩ := Cond.selects_spec hz
  obtain ⟨my, methM, hnamed, hmethM, -, -⟩ := Cond.instanceMethod_spec hinst
  have hfound : s.methodFound? y.cls y.name y.desc = some my := State.methodFound?_of_named hnamed hy
  have hcls : my.cls = mz.cls := Option.some.inj ((findClass_of_methodNamed hnamed).symm.trans (by rw [← hzc]; exact findClass_of_methodNamed hnz))
  have hsel : selectMethod {} s.vm c my = .method my := selectMethod_private hmethM (Cond.privateMethod_at hpriv my methM hnamed hmethM)
  simp only [Cond.before, Cond.holds, Cond.value, hc, hfound, hnamed, hsel, hcls, hk]
  simp; exact hni
theorem lx_hg {s : State} {args : Array Value} (hts : ∀ w ∈ lw_tbl, w.before args s = true) : ∀ w ∈ gG, w.before args s = true := by
  have h8 : ∀ w ∈ xs_sels, w.before args s = true := List.forall_mem_cons.mpr ⟨lx_sel (x := ⟨R_Ma, "work", "(I)V"⟩) (z := ⟨R_Ma, "work", "(I)V"⟩) ⟨by decide +kernel, by decide +kernel⟩ (hts _ (lt_2 226 (by decide +kernel))) rfl (hts _ (lt_2 232 (by decide +kernel))) (hts _ (lt_2 233 (by decide +kernel))), List.forall_mem_cons.mpr ⟨lx_sel (x := ⟨R_Ma, "work", "(I)V"⟩) (z := ⟨R_Ma, "work", "(I)V"⟩) ⟨by decide +kernel, by decide +kernel⟩ (hts _ (lt_2 226 (by decide +kernel))) rfl (hts _ (lt_2 236 (by decide +kernel))) (hts _ (lt_2 237 (by decide +kernel))), List.forall_mem_cons.mpr ⟨lx_sel (x := ⟨R_Ma, "work", "(I)V"⟩) (z := ⟨R_Ma, "work", "(I)V"⟩) ⟨by decide +kernel, by decide +kernel⟩ (hts _ (lt_2 226 (by decide +kernel))) rfl (hts _ (lt_3 6 (by decide +kernel))) (hts _ (lt_3 7 (by decide +kernel))), List.forall_mem_cons.mpr ⟨lx_sel (x := ⟨R_Ma, "work", "(I)V"⟩) (z := ⟨R_Ma, "work", "(I)V"⟩) ⟨by decide +kernel, by decide +kernel⟩ (hts _ (lt_2 226 (by decide +kernel))) rfl (hts _ (lt_3 16 (by decide +kernel))) (hts _ (lt_3 17 (by decide +kernel))), List.forall_mem_cons.mpr ⟨lx_sel (x := ⟨R_Ma, "work", "(I)V"⟩) (z := ⟨R_Ma, "work", "(I)V"⟩) ⟨by decide +kernel, by decide +kernel⟩ (hts _ (lt_2 227 (by decide +kernel))) rfl (hts _ (lt_2 232 (by decide +kernel))) (hts _ (lt_2 233 (by decide +kernel))), List.forall_mem_cons.mpr ⟨lx_sel (x := ⟨R_Ma, "work", "(I)V"⟩) (z := ⟨R_Ma, "work", "(I)V"⟩) ⟨by decide +kernel, by decide +kernel⟩ (hts _ (lt_2 227 (by decide +kernel))) rfl (hts _ (lt_2 236 (by decide +kernel))) (hts _ (lt_2 237 (by decide +kernel))), List.forall_mem_cons.mpr ⟨lx_sel (x := ⟨R_Ma, "work", "(I)V"⟩) (z := ⟨R_Ma, "work", "(I)V"⟩) ⟨by decide +kernel, by decide +kernel⟩ (hts _ (lt_2 227 (by decide +kernel))) rfl (hts _ (lt_3 6 (by decide +kernel))) (hts _ (lt_3 7 (by decide +kernel))), List.forall_mem_cons.mpr ⟨lx_sel (x := ⟨R_Ma, "work", "(I)V"⟩) (z := ⟨R_Ma, "work", "(I)V"⟩) ⟨by decide +kernel, by decide +kernel⟩ (hts _ (lt_2 227 (by decide +kernel))) rfl (hts _ (lt_3 16 (by decide +kernel))) (hts _ (lt_3 17 (by decide +kernel))), fun _ h9 => absurd h9 List.not_mem_nil⟩⟩⟩⟩⟩⟩⟩⟩
  intro w hw
  rcases List.mem_append.mp (List.mem_filter.mp hw).1 with h | h
  · exact h8 w h
  · exact hts w h
theorem lx_ls {s : State} {args a : Array Value} {C n d : String} (h : (Cond.laysStatic C n d).before args s = true) : (Cond.laysStatic C n d).before a s = true := by
  simp only [Cond.before, Cond.holds, Cond.value] at h ⊢
  exact h
theorem lx_is {s : State} {args a : Array Value} {C n d : String} (h : (Cond.isRef (.static C n d)).before args s = true) : (Cond.isRef (.static C n d)).before a s = true := by
  simp only [Cond.before, Cond.holds, Cond.value, Term.eval] at h ⊢
  exact h
theorem lx_xT {s : State} {args : Array Value} (hts : ∀ w ∈ lw_tbl, w.before args s = true) (hgv0 : (Jvm.Cond.and given_1 narrow_1).before args s = true) : xT s := by
  have hgv := flat_of_before _ hgv0
  exact List.forall_mem_cons.mpr ⟨fun a => lx_ls (hts _ (lt_2 82 (by decide +kernel))), List.forall_mem_cons.mpr ⟨fun a => lx_ls (hts _ (lt_2 84 (by decide +kernel))), List.forall_mem_cons.mpr ⟨fun a => va_tabs rfl rfl (hts _ (lt_2 58 (by decide +kernel))), List.forall_mem_cons.mpr ⟨fun a => va_tabs rfl rfl (hts _ (lt_2 60 (by decide +kernel))), List.forall_mem_cons.mpr ⟨fun a => va_tabs rfl rfl (hts _ (lt_2 62 (by decide +kernel))), List.forall_mem_cons.mpr ⟨fun a => va_tabs rfl rfl (hts _ (lt_2 57 (by decide +kernel))), List.forall_mem_cons.mpr ⟨fun a => lx_is (hgv (.isRef (.static "java/lang/Throwable" "UNASSIGNED_STACK" "[Ljava/lang/StackTraceElement;")) (by decide +kernel)), List.forall_mem_cons.mpr ⟨fun a => lx_is (hgv (.isRef (.static "java/lang/Throwable" "SUPPRESSED_SENTINEL" "Ljava/util/List;")) (by decide +kernel)), List.forall_mem_cons.mpr ⟨fun a => va_tabs rfl rfl (hts _ (lt_2 120 (by decide +kernel))), List.forall_mem_cons.mpr ⟨fun a => va_tabs rfl rfl (hts _ (lt_2 145 (by decide +kernel))), fun _ h9 => absurd h9 List.not_mem_nil⟩⟩⟩⟩⟩⟩⟩⟩⟩⟩
theorem lx_nc {s : State} {args : Array Value} {E T : String} (h : (Cond.not (Cond.castable E T)).before args s = true) : ∀ c t : ClassId, s.vm.findClass E = some c → s.vm.findClass T = some t → s.vm.assignable c t = false := by
  intro c t h1 h2
  simpa [Cond.before, Cond.holds, Cond.value, h1, h2] using h
theorem lx_xV {s : State} {args : Array Value} (hgv0 : (Jvm.Cond.and given_1 narrow_1).before args s = true) : xV s := by
  have hgv := flat_of_before _ hgv0
  exact List.forall_mem_cons.mpr ⟨lx_nc (hgv (.not (.castable "java/lang/IllegalStateException" "java/lang/IllegalArgumentException")) (by decide +kernel)), List.forall_mem_cons.mpr ⟨lx_nc (hgv (.not (.castable "java/util/NoSuchElementException" "java/lang/IllegalArgumentException")) (by decide +kernel)), fun _ h9 => absurd h9 List.not_mem_nil⟩⟩
theorem lx_arr {s : State} {args : Array Value} {ty : FieldType} (h : (Cond.arrayClass ty).before args s = true) : ∃ cA : ClassId, ArrOfT s cA ty ∧ s.vm.findClass ("[" ++ ty.toString) = some cA := by
  obtain ⟨c, k, comp, h1, h2, h3⟩ := Cond.arrayClass_spec h
  exact ⟨c, fun n z => ⟨fun k h => (by cases h), k, h2, comp, h3⟩, h1⟩
theorem lx_xK {s : State} {args : Array Value} (hts : ∀ w ∈ lw_tbl, w.before args s = true) (hg : ∀ w ∈ gG, w.before args s = true) : ∃ (D : va_G) (cI cZ cJ : ClassId), xK D cls (tyL cI cZ cJ) s := by
  obtain ⟨c0, i0, k0⟩ := u_known hg f_TM (hg _ q18)
  obtain ⟨c1, i1, k1⟩ := u_known hg f_Li (hg _ q26)
  obtain ⟨c2, i2, k2⟩ := u_known hg f_Tr (hg _ q43)
  obtain ⟨c3, i3, k3⟩ := u_known hg f_So (hg _ q66)
  obtain ⟨c4, i4, k4⟩ := u_known hg f_Ta (hg _ q123)
  obtain ⟨c5, i5, k5⟩ := u_known hg f_Mo (hg _ q558)
  obtain ⟨cI, aI, rI⟩ := lx_arr (hg _ q41)
  obtain ⟨cZ, aZ, rZ⟩ := lx_arr (hg _ q627)
  obtain ⟨cJ, aJ, rJ⟩ := lx_arr (hg _ q756)
  refine ⟨(fun n => match n with | 0 => c0 | 1 => c1 | 2 => c2 | 3 => c3 | 4 => c4 | _ => c5, fun n => match n with | 0 => i0 | 1 => i1 | 2 => i2 | 3 => i3 | 4 => i4 | _ => i5), cI, cZ, cJ, ⟨fun n q hq => ?_, fun n q hq => ?_⟩, ⟨va_Nw.of rfl (hts _ (lt_2 38 (by decide +kernel))), va_Nw.of rfl (hts _ (lt_2 198 (by decide +kernel))), va_Nw.of rfl (hts _ (lt_3 24 (by decide +kernel))), va_Nw.of rfl (hts _ (lt_3 34 (by decide +kernel)))⟩⟩
  · match n, hq with
    | 0, hq => cases hq; exact k0
    | 1, hq => cases hq; exact k1
    | 2, hq => cases hq; exact k2
    | 3, hq => cases hq; exact k3
    | 4, hq => cases hq; exact k4
    | 5, hq => cases hq; exact k5
    | n + 6, hq => exact absurd (show n + 6 < 6 from (List.getElem?_eq_some_iff.mp hq).1) (by omega)
  · match n, hq with
    | 0, hq => cases hq; exact ⟨aI, rI⟩
    | 1, hq => cases hq; exact ⟨aZ, rZ⟩
    | 2, hq => cases hq; exact ⟨aJ, rJ⟩
    | n + 3, hq => exact absurd (show n + 3 < 3 from (List.getElem?_eq_some_iff.mp hq).1) (by omega)
