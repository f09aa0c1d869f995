/-! MACHINES: begin (printed by wip/whole/gen/c16.py) -/
/-- an array's first j places filled -/
def tm_fl (f : tF) (v : Int32) (j : Nat) : tF := fun i => if i < j then v else f i
theorem tm_fl_0 (f : tF) (v : Int32) : tm_fl f v 0 = f := by funext i; simp [tm_fl]
theorem tm_fl_s (f : tF) (v : Int32) (j : Nat) : upd (tm_fl f v j) j v = tm_fl f v (j + 1) := by
  funext i
  unfold upd tm_fl
  by_cases h : i = j
  · rw [if_pos h, if_pos (by omega)]
  · rw [if_neg h]
    by_cases h2 : i < j
    · rw [if_pos h2, if_pos (by omega)]
    · rw [if_neg h2, if_neg (by omega)]

set_option maxHeartbeats 4000000 in
set_option maxRecDepth 100000 in
theorem c_JA_fill (l : Launch) (D : va_G) (cI cZ cJ : ClassId) (f0 N : Nat) (f : Nat → Int32) (v : Int32) (hN : N < 2 ^ 30) : xw_Met l y_JA_fill b_JA_fill 4 none { frames := 0, cells := 0, slots := 0, locals := 0 } [.ref f0, .int v] D cls (tyL cI cZ cJ) [(f0, .inl (cI, N, .inl f))] [(f0, .inl (cI, N, .inl (tm_fl f v N)))] := by
  intro sz
  refine xm_ofW (cc := b_JA_fill) (maxL := 4) (ret := none) (by decide +kernel) rfl ?_
  intro p e s m args below meth c s₁ B0 hml hv
  obtain ⟨rfl, hsz, hP, hK, hD0⟩ := hv
  have hx := B0.exec
  have hb := B0.bytes
  have hr := B0.returns
  have hlocks := B0.notSynchronized
  have hg : ∀ w ∈ gG, w.before _ s = true := fun w h => atoms_spec B0.pre w (List.mem_cons_of_mem _ h)
  have hown : s.vm.findClass R_JA = some m.cls := findClass_of_methodNamed B0.named
  subst hsz
  have hD := hD0.self (sz := s.heap.size)
  generalize hAe : va_A [(f0, .inl (cI, N, .inl f))] s.heap.size = A at hD ⊢
  have hA : ∀ q : Nat, s.heap.size ≤ q → A q := fun q h => by rw [← hAe]; exact Or.inr h
  have hS : va_S A s.heap s.heap [] := va_S.rf
  have hP : va_P D cls [(f0, .inl (cI, N, .inl f))] s.heap := hP
  have hl := lv_entry ([.ref f0, .int v]) (n := 4) (Nat.le_of_ble_eq_true rfl)
  rw [lg_entry_eq]
  generalize (lg_sl ([.ref f0, .int v]) ++ List.replicate (4 - (lg_sl ([.ref f0, .int v])).length) Slot.unset).toArray = ls at hl ⊢
  have hl : lv_has ls 4 [(0, .ref f0), (1, .int v)] := hl
  refine lv_iconst (v := 0) hx hb d_JA_fill_0 (by decide) ?_
  refine lv_istore_n hx hb d_JA_fill_1 rfl hl (by decide) rfl (fun ls hl => ?_)
  have hl : lv_has ls 4 [(2, .int 0), (0, .ref f0), (1, .int v)] := hl
  refine lv_aload_n hx hb d_JA_fill_2 rfl (lv_at hl 1 rfl) ?_
  refine va_alen (v := nI N) hx hb hK.1 hP 0 0 rfl rfl rfl d_JA_fill_3 ?_
  refine lv_istore_n hx hb d_JA_fill_4 rfl hl (by decide) rfl (fun ls hl => ?_)
  have hl : lv_has ls 4 [(3, .int (nI N)), (2, .int 0), (0, .ref f0), (1, .int v)] := hl
  have loop : ∀ (g j : Nat) (H : Heap) (locs : List Loc) (ls : Array Slot), j + g = N → lv_has ls 4 [(2, .int (nI j)), (3, .int (nI N)), (1, .int v), (0, .ref f0)] → va_P D cls [(f0, .inl (cI, N, .inl (tm_fl f v j)))] H → va_D A [(f0, .inl (cI, N, .inl (tm_fl f v j)))] → va_S A s.heap H locs → W p l e (headSpec (Cond.code y_JA_fill b_JA_fill 4 none :: gG) { frames := 0, cells := 0, slots := 0, locals := 0 }).room s m ([.ref f0, .int v] : List Value).toArray below meth c H locs 0 0 (MQ below (va_Qv (fun _ : Unit => True) (fun _ t9 => xw_B D cls [(f0, .inl (cI, N, .inl (tm_fl f v N)))] A t9) A) ([.ref f0, .int v] : List Value).toArray s 0 0 A) (F0 m 5 ls []) := by
    intro g
    induction g with
    | zero =>
      intro j H locs ls hj hl hP hD hS
      refine lv_iload_n hx hb d_JA_fill_5 rfl (lv_at hl 0 rfl) ?_
      refine lv_iload_n hx hb d_JA_fill_6 rfl (lv_at hl 1 rfl) ?_
      refine lv_icmp_ge (tgt := 20) hx hb d_JA_fill_7 rfl (fun _ => ?_) (fun hz9 => absurd (nI_le (by omega) (by omega)) hz9)
      have ew1 : tm_fl f v j = tm_fl f v N := by rw [show j = N by omega]
      have hP : va_P D cls [(f0, .inl (cI, N, .inl (tm_fl f v N)))] H := by rw [← ew1]; exact hP
      have hD : va_D A [(f0, .inl (cI, N, .inl (tm_fl f v N)))] := by rw [← ew1]; exact hD
      exact W.vret hx hb hr (fun t9 ht hW => ⟨⟨(), rfl, trivial, by rw [ht]; exact hP, hD⟩, hS.F ht⟩) hS.2.2 d_JA_fill_20
    | succ g ih =>
      intro j H locs ls hj hl hP hD hS
      refine lv_iload_n hx hb d_JA_fill_5 rfl (lv_at hl 0 rfl) ?_
      refine lv_iload_n hx hb d_JA_fill_6 rfl (lv_at hl 1 rfl) ?_
      refine lv_icmp_ge (tgt := 20) hx hb d_JA_fill_7 rfl (fun hz9 => absurd hz9 (nI_ge (by omega) (by omega))) (fun _ => ?_)
      refine lv_aload_n hx hb d_JA_fill_10 rfl (lv_at hl 3 rfl) ?_
      refine lv_iload_n hx hb d_JA_fill_11 rfl (lv_at hl 0 rfl) ?_
      refine lv_iload_n hx hb d_JA_fill_12 rfl (lv_at hl 2 rfl) ?_
      refine xa_st hx hb hK hP hD hS 0 0 rfl rfl (kx := j) (rfl) (by omega) (by omega) d_JA_fill_13 (fun H locs hP hD hS => ?_)
      have hP : va_P D cls [(f0, .inl (cI, N, .inl (upd (tm_fl f v j) j v)))] H := hP
      have hD : va_D A [(f0, .inl (cI, N, .inl (upd (tm_fl f v j) j v)))] := hD
      refine lv_iinc (k := 0) (v := nI (j + 1)) hx hb d_JA_fill_14 hl rfl (xn_inc j 1 (by decide)) (by decide) rfl (fun ls hl => ?_)
      have hl : lv_has ls 4 [(2, .int (nI (j + 1))), (3, .int (nI N)), (1, .int v), (0, .ref f0)] := hl
      refine lv_goto (tgt := 5) hx hb d_JA_fill_17 rfl ?_
      rw [tm_fl_s] at hP hD
      exact ih (j + 1) H locs ls (by omega) hl hP hD hS
  rw [← tm_fl_0 f v] at hP hD
  exact loop N 0 s.heap [] ls (by omega) (lv_sub hl [1, 0, 3, 2] rfl) hP hD hS
