/-! THE LAW: its calls, case by case (printed by wip/whole/gen/c43.py) -/
def s1_register (S : lx_S) (r : Nat) (v : Int32) : lx_S := lx_mk S.P S.F S.B (upd S.sr r v) S.sd S.Rs S.Cs S.As S.Rt S.Ct S.At S.Po S.Pa S.Pb S.Pc S.G S.O S.Bm S.n S.k S.ks S.kt S.hs S.ds S.es S.xs S.ht S.dt S.et S.tl S.nx 0
set_option maxHeartbeats 4000000 in
set_option maxRecDepth 100000 in
theorem la_register {p : Program} {l : Launch} {e : Env} {s : State} {m : MethodId} {args : Array Value} {below : List Frame} {meth : Method} {c : Code} {D : va_G} {cI cZ cJ : ClassId} {b L : Nat} {xs : Nat → Int32} {Q : State → Prop} (C : lx_C p l s m args c D cI cZ cJ b L xs) {a : Nat → Nat} {S : lx_S} {W0 : Nat → Int64} {H : Heap} {locs : List Loc} (X : lx_H D cI cZ cJ s a S S W0 H locs) {ls : Array Slot} {i : Nat} (hi : i + 5 ≤ L) (hl : lv_has ls 7 [(4, .int (nI i)), (3, .ref (a 34)), (2, .ref (a 17)), (1, .ref (a 0)), (0, .ref b)]) {cells slots : Nat} (hce : cells + 1 ≤ room_1.cells) (hsl : slots + 6 ≤ room_1.slots) (r : Nat) (v : Int32) (E1 : xs (i + 1) = nI r) (E2 : xs (i + 2) = v) (ha1 : 1 ≤ r) (ha7 : r ≤ 7) (gv : ¬ tm_wi v (-32768) 32767 = 0)
    (k : ∀ (W1 : Nat → Int64) (H1 : Heap) (locs1 : List Loc) (ls1 : Array Slot), lx_H D cI cZ cJ s a (s1_register S r v) (s1_register S r v) W1 H1 locs1 → lv_has ls1 7 [(4, .int (nI i)), (3, .ref (a 34)), (2, .ref (a 17)), (1, .ref (a 0)), (0, .ref b)] → W p l e room_1 s m args below meth c H1 locs1 (cells + 1) (slots + 6) Q (F0 m 704 ls1 [])) : W p l e room_1 s m args below meth c H locs cells slots Q (F0 m 355 ls []) := by
  obtain ⟨hP, hD, hS⟩ := X
  have hx := C.hx
  have hb := C.hb
  have hK := C.hK
  have hL := C.hL
  have hA : ∀ q : Nat, s.heap.size ≤ q → lx_A s q := fun _ h => h
  have hce0 : cells ≤ room_1.cells := Nat.le_of_succ_le hce
  have hsl0 : slots ≤ room_1.slots := Nat.le_trans (Nat.le_add_right _ _) hsl
  refine lv_aload_n hx hb d_La_law_355 rfl (lv_at hl 3 rfl) ?_
  refine lv_aload_n hx hb d_La_law_356 rfl (lv_at hl 4 rfl) ?_
  refine lv_iload hx hb d_La_law_357 (lv_at hl 0 rfl) ?_
  refine lv_iconst (v := 1) hx hb d_La_law_359 (by decide) ?_
  refine lv_iadd hx hb d_La_law_360 ?_
  have eq9 : ((nI i) + 1 : Int32) = nI (i + 1) := nI_add i 1
  refine W.eq (g2 := F0 m 361 ls [.int (nI (i + 1)), .ref b, .ref (a 0)]) (by rw [eq9]) ?_
  refine lx_ld (kx := i + 1) (v := nI r) C hS E1 (by omega) d_La_law_361 ?_
  refine lv_aload_n hx hb d_La_law_362 rfl (lv_at hl 4 rfl) ?_
  refine lv_iload hx hb d_La_law_363 (lv_at hl 0 rfl) ?_
  refine lv_iconst (v := 2) hx hb d_La_law_365 (by decide) ?_
  refine lv_iadd hx hb d_La_law_366 ?_
  have eq9 : ((nI i) + 2 : Int32) = nI (i + 2) := nI_add i 2
  refine W.eq (g2 := F0 m 367 ls [.int (nI (i + 2)), .ref b, .int (nI r), .ref (a 0)]) (by rw [eq9]) ?_
  refine lx_ld (kx := i + 2) (v := v) C hS E2 (by omega) d_La_law_367 ?_
  refine xh_go (w2 := lx_W cI cZ cJ a (s1_register S r v) S W0) (wr := lx_R cI cZ cJ a S ++ [lx_w cJ a W0]) (xh_runS (g := F0 m 368 ls [.int v, .int (nI r), .ref (a 0)]) (As := [.ref (a 0), .int (nI r), .int v]) (rest := []) ⟨C.hx, C.hb, C.hml, C.hown, C.hg⟩ (c_La_register l C.hLx D cI cZ cJ (a 0) (a 1) (a 2) (a 3) (a 4) (a 5) (a 6) (a 7) (a 8) (a 9) (a 10) (a 11) (a 12) (a 13) (a 14) (a 15) (a 16) S.P S.F S.B S.sr S.sd S.Rs S.Cs S.As S.Rt S.Ct S.At S.n S.k S.ks S.kt S.hs S.ds S.es S.xs S.ht S.dt S.et r v (ha1) (ha7) (gv) H.size) m_La_register q410 rfl rfl ⟨Nat.le_of_ble_eq_true rfl, Nat.le_of_ble_eq_true rfl⟩ ⟨xh_blind, xh_pre C.hK (lx_hT C.hT hS) C.hV hP hD [0, 1, 2, 3, 4, 5, 6, 7, 8, 9, 10, 11, 12, 13, 14, 15, 16] (by decide) rfl⟩ rfl rfl hl.1 rfl (lv_room (Nat.le_of_ble_eq_true rfl)) d_La_law_368 ⟨hce0, hsl0⟩) hP hD hS hA [0, 1, 2, 3, 4, 5, 6, 7, 8, 9, 10, 11, 12, 13, 14, 15, 16] [17, 18, 19, 20, 21, 22, 23, 24, 25, 26, 27, 28, 29, 30, 31, 32, 33, 34] [18, 19, 20, 21, 22, 23, 24, 25, 26, 27, 28, 29, 30, 31, 32, 33, 34, 0, 1, 2, 3, 4, 5, 6, 7, 8, 9, 10, 11, 12, 13, 14, 15, 16, 17] rfl rfl (by decide) (by decide) rfl (by decide) (fun H locs hP hD hS => ?_)
  refine lv_istore hx hb d_La_law_371 hl (by decide) rfl (fun ls hl => ?_)
  have hl : lv_has ls 7 [(5, .int 0), (4, .int (nI i)), (3, .ref (a 34)), (2, .ref (a 17)), (1, .ref (a 0)), (0, .ref b)] := hl
  refine lv_aload_n hx hb d_La_law_373 rfl (lv_at hl 3 rfl) ?_
  refine lv_aload_n hx hb d_La_law_374 rfl (lv_at hl 5 rfl) ?_
  refine lv_iload hx hb d_La_law_375 (lv_at hl 1 rfl) ?_
  refine lv_iconst (v := 1) hx hb d_La_law_377 (by decide) ?_
  refine lv_iadd hx hb d_La_law_378 ?_
  have eq9 : ((nI i) + 1 : Int32) = nI (i + 1) := nI_add i 1
  refine W.eq (g2 := F0 m 379 ls [.int (nI (i + 1)), .ref b, .ref (a 17)]) (by rw [eq9]) ?_
  refine lx_ld (kx := i + 1) (v := nI r) C hS E1 (by omega) d_La_law_379 ?_
  refine lv_aload_n hx hb d_La_law_380 rfl (lv_at hl 5 rfl) ?_
  refine lv_iload hx hb d_La_law_381 (lv_at hl 1 rfl) ?_
  refine lv_iconst (v := 2) hx hb d_La_law_383 (by decide) ?_
  refine lv_iadd hx hb d_La_law_384 ?_
  have eq9 : ((nI i) + 2 : Int32) = nI (i + 2) := nI_add i 2
  refine W.eq (g2 := F0 m 385 ls [.int (nI (i + 2)), .ref b, .int (nI r), .ref (a 17)]) (by rw [eq9]) ?_
  refine lx_ld (kx := i + 2) (v := v) C hS E2 (by omega) d_La_law_385 ?_
  refine xw_go (w2 := lx_W cI cZ cJ a (s1_register S r v) (s1_register S r v) W0) (wr := lx_X cI cZ cJ a (s1_register S r v) ++ [lx_w cJ a W0]) (va_runV (As := [.int (nI r), .int v]) (rest := []) (C := R_Mo) ⟨C.hx, C.hb, C.hml, C.hown, C.hg⟩ (c_Mo_register l D cI cZ cJ (a 17) (a 18) (a 19) (a 20) (a 21) (a 22) (a 23) (a 24) (a 25) (a 26) (a 27) (a 28) (a 29) (a 30) (a 31) (a 32) (a 33) S.Po S.Pa S.Pb S.Pc S.G S.O S.Bm S.sr S.sd (tm_jn 8 S.Rs S.Rt) (tm_jn 64 S.Cs S.Ct) (tm_tw S.es S.et) (tm_tw S.hs S.ht) (tm_tw S.ds S.dt) (tm_tw (nI S.ks) (nI S.kt)) (tm_jn 120 S.As S.At) S.n S.k S.th S.tl S.nx r v (ha1) (ha7) (gv) H.size) ⟨xg_B C.hg m_Mo_register.1 m_Mo_register.2.2.1 m_Mo_register.2.2.2.1 m_Mo_register.2.2.2.2 q702 rfl rfl ⟨Nat.le_of_ble_eq_true rfl, Nat.le_of_ble_eq_true rfl⟩, C.hg _ m_Mo_register.2.1, C.hg _ q704⟩ ⟨xw_blind, (va_recv (q0 := 17) C.hK.1 hP rfl rfl), xw_pre C.hK hP hD [17, 18, 19, 20, 21, 22, 23, 24, 25, 26, 27, 28, 29, 30, 31, 32, 33] (by decide) rfl⟩ rfl rfl hl.1 rfl (lv_room (Nat.le_of_ble_eq_true rfl)) d_La_law_386 ⟨hce0, hsl0⟩) hP hD hS hA [17, 18, 19, 20, 21, 22, 23, 24, 25, 26, 27, 28, 29, 30, 31, 32, 33] [0, 1, 2, 3, 4, 5, 6, 7, 8, 9, 10, 11, 12, 13, 14, 15, 16, 34] [0, 1, 2, 3, 4, 5, 6, 7, 8, 9, 10, 11, 12, 13, 14, 15, 16, 18, 19, 20, 21, 22, 23, 24, 25, 26, 27, 28, 29, 30, 31, 32, 33, 34, 17] rfl rfl (by decide) (by decide) rfl (by decide) (fun H locs hP hD hS => ?_)
  refine lv_aload_n hx hb d_La_law_389 rfl (lv_at hl 3 rfl) ?_
  refine xr_V (C := R_Mo) (As := []) (rest := []) ⟨C.hx, C.hb, C.hml, C.hown, C.hg⟩ (c_Mo_thrown l D cI cZ cJ (a 17) (a 18) (a 19) (a 20) (a 21) (a 22) (a 23) (a 24) (a 25) (a 26) (a 27) (a 28) (a 29) (a 30) (a 31) (a 32) (a 33) ((s1_register S r v).Po) ((s1_register S r v).Pa) ((s1_register S r v).Pb) ((s1_register S r v).Pc) ((s1_register S r v).G) ((s1_register S r v).O) ((s1_register S r v).Bm) ((s1_register S r v).sr) ((s1_register S r v).sd) (tm_jn 8 ((s1_register S r v).Rs) ((s1_register S r v).Rt)) (tm_jn 64 ((s1_register S r v).Cs) ((s1_register S r v).Ct)) (tm_tw ((s1_register S r v).es) ((s1_register S r v).et)) (tm_tw ((s1_register S r v).hs) ((s1_register S r v).ht)) (tm_tw ((s1_register S r v).ds) ((s1_register S r v).dt)) (tm_tw (nI (s1_register S r v).ks) (nI (s1_register S r v).kt)) (tm_jn 120 ((s1_register S r v).As) ((s1_register S r v).At)) ((s1_register S r v).n) ((s1_register S r v).k) 0 ((s1_register S r v).tl) ((s1_register S r v).nx)) m_Mo_thrown q628 q630 ⟨rfl, rfl⟩ ⟨Nat.le_of_ble_eq_true rfl, Nat.le_of_ble_eq_true rfl⟩ C.hK hP [17, 18, 19, 20, 21, 22, 23, 24, 25, 26, 27, 28, 29, 30, 31, 32, 33] rfl (va_recv (q0 := 17) C.hK.1 hP rfl rfl) rfl hl.1 rfl (Nat.le_of_ble_eq_true rfl) d_La_law_390 ⟨hce0, hsl0⟩ ?_
  refine lv_iload hx hb d_La_law_393 (lv_at hl 0 rfl) ?_
  refine lv_icmp_eq (tgt := 400) hx hb d_La_law_395 rfl (fun _ => ?_) (fun hz9 => absurd (by decide) hz9)
  refine lv_goto (tgt := 704) hx hb d_La_law_400 rfl ?_
  exact W.widen (by omega) (by omega) (k _ H locs ls ⟨hP, hD, hS⟩ (lv_sub hl [1, 2, 3, 4, 5] rfl))

def s1_register_1 (S : lx_S) (y z : Int32) : lx_S := lx_mk S.P S.F S.B S.sr S.sd S.Rs S.Cs S.As S.Rt S.Ct S.At S.Po S.Pa S.Pb S.Pc S.G S.O S.Bm S.n S.k S.ks S.kt S.hs S.ds S.es S.xs S.ht S.dt S.et S.tl S.nx 1
set_option maxHeartbeats 4000000 in
set_option maxRecDepth 100000 in
theorem la_register_1 {p : Program} {l : Launch} {e : Env} {s : State} {m : MethodId} {args : Array Value} {below : List Frame} {meth : Method} {c : Code} {D : va_G} {cI cZ cJ : ClassId} {b L : Nat} {xs : Nat → Int32} {Q : State → Prop} (C : lx_C p l s m args c D cI cZ cJ b L xs) {a : Nat → Nat} {S : lx_S} {W0 : Nat → Int64} {H : Heap} {locs : List Loc} (X : lx_H D cI cZ cJ s a S S W0 H locs) {ls : Array Slot} {i : Nat} (hi : i + 5 ≤ L) (hl : lv_has ls 7 [(4, .int (nI i)), (3, .ref (a 34)), (2, .ref (a 17)), (1, .ref (a 0)), (0, .ref b)]) {cells slots : Nat} (hce : cells + 1 ≤ room_1.cells) (hsl : slots + 6 ≤ room_1.slots) (y z : Int32) (E1 : xs (i + 1) = y) (E2 : xs (i + 2) = z) (hbad : tm_wi y 1 7 = 0 ∨ tm_wi z (-32768) 32767 = 0)
    (k : ∀ (W1 : Nat → Int64) (H1 : Heap) (locs1 : List Loc) (ls1 : Array Slot), lx_H D cI cZ cJ s a (s1_register_1 S y z) (s1_register_1 S y z) W1 H1 locs1 → lv_has ls1 7 [(4, .int (nI i)), (3, .ref (a 34)), (2, .ref (a 17)), (1, .ref (a 0)), (0, .ref b)] → W p l e room_1 s m args below meth c H1 locs1 (cells + 1) (slots + 6) Q (F0 m 704 ls1 [])) : W p l e room_1 s m args below meth c H locs cells slots Q (F0 m 355 ls []) := by
  obtain ⟨hP, hD, hS⟩ := X
  have hx := C.hx
  have hb := C.hb
  have hK := C.hK
  have hL := C.hL
  have hA : ∀ q : Nat, s.heap.size ≤ q → lx_A s q := fun _ h => h
  have hce0 : cells ≤ room_1.cells := Nat.le_of_succ_le hce
  have hsl0 : slots ≤ room_1.slots := Nat.le_trans (Nat.le_add_right _ _) hsl
  refine lv_aload_n hx hb d_La_law_355 rfl (lv_at hl 3 rfl) ?_
  refine lv_aload_n hx hb d_La_law_356 rfl (lv_at hl 4 rfl) ?_
  refine lv_iload hx hb d_La_law_357 (lv_at hl 0 rfl) ?_
  refine lv_iconst (v := 1) hx hb d_La_law_359 (by decide) ?_
  refine lv_iadd hx hb d_La_law_360 ?_
  have eq9 : ((nI i) + 1 : Int32) = nI (i + 1) := nI_add i 1
  refine W.eq (g2 := F0 m 361 ls [.int (nI (i + 1)), .ref b, .ref (a 0)]) (by rw [eq9]) ?_
  refine lx_ld (kx := i + 1) (v := y) C hS E1 (by omega) d_La_law_361 ?_
  refine lv_aload_n hx hb d_La_law_362 rfl (lv_at hl 4 rfl) ?_
  refine lv_iload hx hb d_La_law_363 (lv_at hl 0 rfl) ?_
  refine lv_iconst (v := 2) hx hb d_La_law_365 (by decide) ?_
  refine lv_iadd hx hb d_La_law_366 ?_
  have eq9 : ((nI i) + 2 : Int32) = nI (i + 2) := nI_add i 2
  refine W.eq (g2 := F0 m 367 ls [.int (nI (i + 2)), .ref b, .int y, .ref (a 0)]) (by rw [eq9]) ?_
  refine lx_ld (kx := i + 2) (v := z) C hS E2 (by omega) d_La_law_367 ?_
  refine xh_go (w2 := lx_W cI cZ cJ a (s1_register_1 S y z) S W0) (wr := lx_R cI cZ cJ a S ++ [lx_w cJ a W0]) (xh_runS (g := F0 m 368 ls [.int z, .int y, .ref (a 0)]) (As := [.ref (a 0), .int y, .int z]) (rest := []) ⟨C.hx, C.hb, C.hml, C.hown, C.hg⟩ (c_La_register_1 l C.hLx D cI cZ cJ (a 0) (a 1) (a 2) (a 3) (a 4) (a 5) (a 6) (a 7) (a 8) (a 9) (a 10) (a 11) (a 12) (a 13) (a 14) (a 15) (a 16) S.P S.F S.B S.sr S.sd S.Rs S.Cs S.As S.Rt S.Ct S.At S.n S.k S.ks S.kt S.hs S.ds S.es S.xs S.ht S.dt S.et y z (hbad) H.size) m_La_register q410 rfl rfl ⟨Nat.le_of_ble_eq_true rfl, Nat.le_of_ble_eq_true rfl⟩ ⟨xh_blind, xh_pre C.hK (lx_hT C.hT hS) C.hV hP hD [0, 1, 2, 3, 4, 5, 6, 7, 8, 9, 10, 11, 12, 13, 14, 15, 16] (by decide) rfl⟩ rfl rfl hl.1 rfl (lv_room (Nat.le_of_ble_eq_true rfl)) d_La_law_368 ⟨hce, hsl⟩) hP hD hS hA [0, 1, 2, 3, 4, 5, 6, 7, 8, 9, 10, 11, 12, 13, 14, 15, 16] [17, 18, 19, 20, 21, 22, 23, 24, 25, 26, 27, 28, 29, 30, 31, 32, 33, 34] [18, 19, 20, 21, 22, 23, 24, 25, 26, 27, 28, 29, 30, 31, 32, 33, 34, 0, 1, 2, 3, 4, 5, 6, 7, 8, 9, 10, 11, 12, 13, 14, 15, 16, 17] rfl rfl (by decide) (by decide) rfl (by decide) (fun H locs hP hD hS => ?_)
  refine lv_istore hx hb d_La_law_371 hl (by decide) rfl (fun ls hl => ?_)
  have hl : lv_has ls 7 [(5, .int 1), (4, .int (nI i)), (3, .ref (a 34)), (2, .ref (a 17)), (1, .ref (a 0)), (0, .ref b)] := hl
  refine lv_aload_n hx hb d_La_law_373 rfl (lv_at hl 3 rfl) ?_
  refine lv_aload_n hx hb d_La_law_374 rfl (lv_at hl 5 rfl) ?_
  refine lv_iload hx hb d_La_law_375 (lv_at hl 1 rfl) ?_
  refine lv_iconst (v := 1) hx hb d_La_law_377 (by decide) ?_
  refine lv_iadd hx hb d_La_law_378 ?_
  have eq9 : ((nI i) + 1 : Int32) = nI (i + 1) := nI_add i 1
  refine W.eq (g2 := F0 m 379 ls [.int (nI (i + 1)), .ref b, .ref (a 17)]) (by rw [eq9]) ?_
  refine lx_ld (kx := i + 1) (v := y) C hS E1 (by omega) d_La_law_379 ?_
  refine lv_aload_n hx hb d_La_law_380 rfl (lv_at hl 5 rfl) ?_
  refine lv_iload hx hb d_La_law_381 (lv_at hl 1 rfl) ?_
  refine lv_iconst (v := 2) hx hb d_La_law_383 (by decide) ?_
  refine lv_iadd hx hb d_La_law_384 ?_
  have eq9 : ((nI i) + 2 : Int32) = nI (i + 2) := nI_add i 2
  refine W.eq (g2 := F0 m 385 ls [.int (nI (i + 2)), .ref b, .int y, .ref (a 17)]) (by rw [eq9]) ?_
  refine lx_ld (kx := i + 2) (v := z) C hS E2 (by omega) d_La_law_385 ?_
  refine xw_go (w2 := lx_W cI cZ cJ a (s1_register_1 S y z) (s1_register_1 S y z) W0) (wr := lx_X cI cZ cJ a (s1_register_1 S y z) ++ [lx_w cJ a W0]) (va_runV (As := [.int y, .int z]) (rest := []) (C := R_Mo) ⟨C.hx, C.hb, C.hml, C.hown, C.hg⟩ (c_Mo_register_1 l D cI cZ cJ (a 17) (a 18) (a 19) (a 20) (a 21) (a 22) (a 23) (a 24) (a 25) (a 26) (a 27) (a 28) (a 29) (a 30) (a 31) (a 32) (a 33) S.Po S.Pa S.Pb S.Pc S.G S.O S.Bm S.sr S.sd (tm_jn 8 S.Rs S.Rt) (tm_jn 64 S.Cs S.Ct) (tm_tw S.es S.et) (tm_tw S.hs S.ht) (tm_tw S.ds S.dt) (tm_tw (nI S.ks) (nI S.kt)) (tm_jn 120 S.As S.At) S.n S.k S.th S.tl S.nx y z (hbad) H.size) ⟨xg_B C.hg m_Mo_register.1 m_Mo_register.2.2.1 m_Mo_register.2.2.2.1 m_Mo_register.2.2.2.2 q702 rfl rfl ⟨Nat.le_of_ble_eq_true rfl, Nat.le_of_ble_eq_true rfl⟩, C.hg _ m_Mo_register.2.1, C.hg _ q704⟩ ⟨xw_blind, (va_recv (q0 := 17) C.hK.1 hP rfl rfl), xw_pre C.hK hP hD [17, 18, 19, 20, 21, 22, 23, 24, 25, 26, 27, 28, 29, 30, 31, 32, 33] (by decide) rfl⟩ rfl rfl hl.1 rfl (lv_room (Nat.le_of_ble_eq_true rfl)) d_La_law_386 ⟨hce, hsl⟩) hP hD hS hA [17, 18, 19, 20, 21, 22, 23, 24, 25, 26, 27, 28, 29, 30, 31, 32, 33] [0, 1, 2, 3, 4, 5, 6, 7, 8, 9, 10, 11, 12, 13, 14, 15, 16, 34] [0, 1, 2, 3, 4, 5, 6, 7, 8, 9, 10, 11, 12, 13, 14, 15, 16, 18, 19, 20, 21, 22, 23, 24, 25, 26, 27, 28, 29, 30, 31, 32, 33, 34, 17] rfl rfl (by decide) (by decide) rfl (by decide) (fun H locs hP hD hS => ?_)
  refine lv_aload_n hx hb d_La_law_389 rfl (lv_at hl 3 rfl) ?_
  refine xr_V (C := R_Mo) (As := []) (rest := []) ⟨C.hx, C.hb, C.hml, C.hown, C.hg⟩ (c_Mo_thrown l D cI cZ cJ (a 17) (a 18) (a 19) (a 20) (a 21) (a 22) (a 23) (a 24) (a 25) (a 26) (a 27) (a 28) (a 29) (a 30) (a 31) (a 32) (a 33) ((s1_register_1 S y z).Po) ((s1_register_1 S y z).Pa) ((s1_register_1 S y z).Pb) ((s1_register_1 S y z).Pc) ((s1_register_1 S y z).G) ((s1_register_1 S y z).O) ((s1_register_1 S y z).Bm) ((s1_register_1 S y z).sr) ((s1_register_1 S y z).sd) (tm_jn 8 ((s1_register_1 S y z).Rs) ((s1_register_1 S y z).Rt)) (tm_jn 64 ((s1_register_1 S y z).Cs) ((s1_register_1 S y z).Ct)) (tm_tw ((s1_register_1 S y z).es) ((s1_register_1 S y z).et)) (tm_tw ((s1_register_1 S y z).hs) ((s1_register_1 S y z).ht)) (tm_tw ((s1_register_1 S y z).ds) ((s1_register_1 S y z).dt)) (tm_tw (nI (s1_register_1 S y z).ks) (nI (s1_register_1 S y z).kt)) (tm_jn 120 ((s1_register_1 S y z).As) ((s1_register_1 S y z).At)) ((s1_register_1 S y z).n) ((s1_register_1 S y z).k) 1 ((s1_register_1 S y z).tl) ((s1_register_1 S y z).nx)) m_Mo_thrown q628 q630 ⟨rfl, rfl⟩ ⟨Nat.le_of_ble_eq_true rfl, Nat.le_of_ble_eq_true rfl⟩ C.hK hP [17, 18, 19, 20, 21, 22, 23, 24, 25, 26, 27, 28, 29, 30, 31, 32, 33] rfl (va_recv (q0 := 17) C.hK.1 hP rfl rfl) rfl hl.1 rfl (Nat.le_of_ble_eq_true rfl) d_La_law_390 ⟨hce, hsl⟩ ?_
  refine lv_iload hx hb d_La_law_393 (lv_at hl 0 rfl) ?_
  refine lv_icmp_eq (tgt := 400) hx hb d_La_law_395 rfl (fun _ => ?_) (fun hz9 => absurd (by decide) hz9)
  refine lv_goto (tgt := 704) hx hb d_La_law_400 rfl ?_
  exact W.widen (by omega) (by omega) (k _ H locs ls ⟨hP, hD, hS⟩ (lv_sub hl [1, 2, 3, 4, 5] rfl))

def s1_data (S : lx_S) (r : Nat) (v : Int32) : lx_S := lx_mk S.P S.F S.B S.sr (upd S.sd r v) S.Rs S.Cs S.As S.Rt S.Ct S.At S.Po S.Pa S.Pb S.Pc S.G S.O S.Bm S.n S.k S.ks S.kt S.hs S.ds S.es S.xs S.ht S.dt S.et S.tl S.nx 0
set_option maxHeartbeats 4000000 in
set_option maxRecDepth 100000 in
theorem la_data {p : Program} {l : Launch} {e : Env} {s : State} {m : MethodId} {args : Array Value} {below : List Frame} {meth : Method} {c : Code} {D : va_G} {cI cZ cJ : ClassId} {b L : Nat} {xs : Nat → Int32} {Q : State → Prop} (C : lx_C p l s m args c D cI cZ cJ b L xs) {a : Nat → Nat} {S : lx_S} {W0 : Nat → Int64} {H : Heap} {locs : List Loc} (X : lx_H D cI cZ cJ s a S S W0 H locs) {ls : Array Slot} {i : Nat} (hi : i + 5 ≤ L) (hl : lv_has ls 7 [(4, .int (nI i)), (3, .ref (a 34)), (2, .ref (a 17)), (1, .ref (a 0)), (0, .ref b)]) {cells slots : Nat} (hce : cells + 1 ≤ room_1.cells) (hsl : slots + 6 ≤ room_1.slots) (r : Nat) (v : Int32) (E1 : xs (i + 1) = nI r) (E2 : xs (i + 2) = v) (ha : r < 32) (gv : ¬ tm_wi v (-32768) 32767 = 0)
    (k : ∀ (W1 : Nat → Int64) (H1 : Heap) (locs1 : List Loc) (ls1 : Array Slot), lx_H D cI cZ cJ s a (s1_data S r v) (s1_data S r v) W1 H1 locs1 → lv_has ls1 7 [(4, .int (nI i)), (3, .ref (a 34)), (2, .ref (a 17)), (1, .ref (a 0)), (0, .ref b)] → W p l e room_1 s m args below meth c H1 locs1 (cells + 1) (slots + 6) Q (F0 m 704 ls1 [])) : W p l e room_1 s m args below meth c H locs cells slots Q (F0 m 403 ls []) := by
  obtain ⟨hP, hD, hS⟩ := X
  have hx := C.hx
  have hb := C.hb
  have hK := C.hK
  have hL := C.hL
  have hA : ∀ q : Nat, s.heap.size ≤ q → lx_A s q := fun _ h => h
  have hce0 : cells ≤ room_1.cells := Nat.le_of_succ_le hce
  have hsl0 : slots ≤ room_1.slots := Nat.le_trans (Nat.le_add_right _ _) hsl
  refine lv_aload_n hx hb d_La_law_403 rfl (lv_at hl 3 rfl) ?_
  refine lv_aload_n hx hb d_La_law_404 rfl (lv_at hl 4 rfl) ?_
  refine lv_iload hx hb d_La_law_405 (lv_at hl 0 rfl) ?_
  refine lv_iconst (v := 1) hx hb d_La_law_407 (by decide) ?_
  refine lv_iadd hx hb d_La_law_408 ?_
  have eq9 : ((nI i) + 1 : Int32) = nI (i + 1) := nI_add i 1
  refine W.eq (g2 := F0 m 409 ls [.int (nI (i + 1)), .ref b, .ref (a 0)]) (by rw [eq9]) ?_
  refine lx_ld (kx := i + 1) (v := nI r) C hS E1 (by omega) d_La_law_409 ?_
  refine lv_aload_n hx hb d_La_law_410 rfl (lv_at hl 4 rfl) ?_
  refine lv_iload hx hb d_La_law_411 (lv_at hl 0 rfl) ?_
  refine lv_iconst (v := 2) hx hb d_La_law_413 (by decide) ?_
  refine lv_iadd hx hb d_La_law_414 ?_
  have eq9 : ((nI i) + 2 : Int32) = nI (i + 2) := nI_add i 2
  refine W.eq (g2 := F0 m 415 ls [.int (nI (i + 2)), .ref b, .int (nI r), .ref (a 0)]) (by rw [eq9]) ?_
  refine lx_ld (kx := i + 2) (v := v) C hS E2 (by omega) d_La_law_415 ?_
  refine xh_go (w2 := lx_W cI cZ cJ a (s1_data S r v) S W0) (wr := lx_R cI cZ cJ a S ++ [lx_w cJ a W0]) (xh_runS (g := F0 m 416 ls [.int v, .int (nI r), .ref (a 0)]) (As := [.ref (a 0), .int (nI r), .int v]) (rest := []) ⟨C.hx, C.hb, C.hml, C.hown, C.hg⟩ (c_La_data l C.hLx D cI cZ cJ (a 0) (a 1) (a 2) (a 3) (a 4) (a 5) (a 6) (a 7) (a 8) (a 9) (a 10) (a 11) (a 12) (a 13) (a 14) (a 15) (a 16) S.P S.F S.B S.sr S.sd S.Rs S.Cs S.As S.Rt S.Ct S.At S.n S.k S.ks S.kt S.hs S.ds S.es S.xs S.ht S.dt S.et r v (ha) (gv) H.size) m_La_data q420 rfl rfl ⟨Nat.le_of_ble_eq_true rfl, Nat.le_of_ble_eq_true rfl⟩ ⟨xh_blind, xh_pre C.hK (lx_hT C.hT hS) C.hV hP hD [0, 1, 2, 3, 4, 5, 6, 7, 8, 9, 10, 11, 12, 13, 14, 15, 16] (by decide) rfl⟩ rfl rfl hl.1 rfl (lv_room (Nat.le_of_ble_eq_true rfl)) d_La_law_416 ⟨hce0, hsl0⟩) hP hD hS hA [0, 1, 2, 3, 4, 5, 6, 7, 8, 9, 10, 11, 12, 13, 14, 15, 16] [17, 18, 19, 20, 21, 22, 23, 24, 25, 26, 27, 28, 29, 30, 31, 32, 33, 34] [18, 19, 20, 21, 22, 23, 24, 25, 26, 27, 28, 29, 30, 31, 32, 33, 34, 0, 1, 2, 3, 4, 5, 6, 7, 8, 9, 10, 11, 12, 13, 14, 15, 16, 17] rfl rfl (by decide) (by decide) rfl (by decide) (fun H locs hP hD hS => ?_)
  refine lv_istore hx hb d_La_law_419 hl (by decide) rfl (fun ls hl => ?_)
  have hl : lv_has ls 7 [(5, .int 0), (4, .int (nI i)), (3, .ref (a 34)), (2, .ref (a 17)), (1, .ref (a 0)), (0, .ref b)] := hl
  refine lv_aload_n hx hb d_La_law_421 rfl (lv_at hl 3 rfl) ?_
  refine lv_aload_n hx hb d_La_law_422 rfl (lv_at hl 5 rfl) ?_
  refine lv_iload hx hb d_La_law_423 (lv_at hl 1 rfl) ?_
  refine lv_iconst (v := 1) hx hb d_La_law_425 (by decide) ?_
  refine lv_iadd hx hb d_La_law_426 ?_
  have eq9 : ((nI i) + 1 : Int32) = nI (i + 1) := nI_add i 1
  refine W.eq (g2 := F0 m 427 ls [.int (nI (i + 1)), .ref b, .ref (a 17)]) (by rw [eq9]) ?_
  refine lx_ld (kx := i + 1) (v := nI r) C hS E1 (by omega) d_La_law_427 ?_
  refine lv_aload_n hx hb d_La_law_428 rfl (lv_at hl 5 rfl) ?_
  refine lv_iload hx hb d_La_law_429 (lv_at hl 1 rfl) ?_
  refine lv_iconst (v := 2) hx hb d_La_law_431 (by decide) ?_
  refine lv_iadd hx hb d_La_law_432 ?_
  have eq9 : ((nI i) + 2 : Int32) = nI (i + 2) := nI_add i 2
  refine W.eq (g2 := F0 m 433 ls [.int (nI (i + 2)), .ref b, .int (nI r), .ref (a 17)]) (by rw [eq9]) ?_
  refine lx_ld (kx := i + 2) (v := v) C hS E2 (by omega) d_La_law_433 ?_
  refine xw_go (w2 := lx_W cI cZ cJ a (s1_data S r v) (s1_data S r v) W0) (wr := lx_X cI cZ cJ a (s1_data S r v) ++ [lx_w cJ a W0]) (va_runV (As := [.int (nI r), .int v]) (rest := []) (C := R_Mo) ⟨C.hx, C.hb, C.hml, C.hown, C.hg⟩ (c_Mo_data l D cI cZ cJ (a 17) (a 18) (a 19) (a 20) (a 21) (a 22) (a 23) (a 24) (a 25) (a 26) (a 27) (a 28) (a 29) (a 30) (a 31) (a 32) (a 33) S.Po S.Pa S.Pb S.Pc S.G S.O S.Bm S.sr S.sd (tm_jn 8 S.Rs S.Rt) (tm_jn 64 S.Cs S.Ct) (tm_tw S.es S.et) (tm_tw S.hs S.ht) (tm_tw S.ds S.dt) (tm_tw (nI S.ks) (nI S.kt)) (tm_jn 120 S.As S.At) S.n S.k S.th S.tl S.nx r v (ha) (gv) H.size) ⟨xg_B C.hg m_Mo_data.1 m_Mo_data.2.2.1 m_Mo_data.2.2.2.1 m_Mo_data.2.2.2.2 q709 rfl rfl ⟨Nat.le_of_ble_eq_true rfl, Nat.le_of_ble_eq_true rfl⟩, C.hg _ m_Mo_data.2.1, C.hg _ q711⟩ ⟨xw_blind, (va_recv (q0 := 17) C.hK.1 hP rfl rfl), xw_pre C.hK hP hD [17, 18, 19, 20, 21, 22, 23, 24, 25, 26, 27, 28, 29, 30, 31, 32, 33] (by decide) rfl⟩ rfl rfl hl.1 rfl (lv_room (Nat.le_of_ble_eq_true rfl)) d_La_law_434 ⟨hce0, hsl0⟩) hP hD hS hA [17, 18, 19, 20, 21, 22, 23, 24, 25, 26, 27, 28, 29, 30, 31, 32, 33] [0, 1, 2, 3, 4, 5, 6, 7, 8, 9, 10, 11, 12, 13, 14, 15, 16, 34] [0, 1, 2, 3, 4, 5, 6, 7, 8, 9, 10, 11, 12, 13, 14, 15, 16, 18, 19, 20, 21, 22, 23, 24, 25, 26, 27, 28, 29, 30, 31, 32, 33, 34, 17] rfl rfl (by decide) (by decide) rfl (by decide) (fun H locs hP hD hS => ?_)
  refine lv_aload_n hx hb d_La_law_437 rfl (lv_at hl 3 rfl) ?_
  refine xr_V (C := R_Mo) (As := []) (rest := []) ⟨C.hx, C.hb, C.hml, C.hown, C.hg⟩ (c_Mo_thrown l D cI cZ cJ (a 17) (a 18) (a 19) (a 20) (a 21) (a 22) (a 23) (a 24) (a 25) (a 26) (a 27) (a 28) (a 29) (a 30) (a 31) (a 32) (a 33) ((s1_data S r v).Po) ((s1_data S r v).Pa) ((s1_data S r v).Pb) ((s1_data S r v).Pc) ((s1_data S r v).G) ((s1_data S r v).O) ((s1_data S r v).Bm) ((s1_data S r v).sr) ((s1_data S r v).sd) (tm_jn 8 ((s1_data S r v).Rs) ((s1_data S r v).Rt)) (tm_jn 64 ((s1_data S r v).Cs) ((s1_data S r v).Ct)) (tm_tw ((s1_data S r v).es) ((s1_data S r v).et)) (tm_tw ((s1_data S r v).hs) ((s1_data S r v).ht)) (tm_tw ((s1_data S r v).ds) ((s1_data S r v).dt)) (tm_tw (nI (s1_data S r v).ks) (nI (s1_data S r v).kt)) (tm_jn 120 ((s1_data S r v).As) ((s1_data S r v).At)) ((s1_data S r v).n) ((s1_data S r v).k) 0 ((s1_data S r v).tl) ((s1_data S r v).nx)) m_Mo_thrown q628 q630 ⟨rfl, rfl⟩ ⟨Nat.le_of_ble_eq_true rfl, Nat.le_of_ble_eq_true rfl⟩ C.hK hP [17, 18, 19, 20, 21, 22, 23, 24, 25, 26, 27, 28, 29, 30, 31, 32, 33] rfl (va_recv (q0 := 17) C.hK.1 hP rfl rfl) rfl hl.1 rfl (Nat.le_of_ble_eq_true rfl) d_La_law_438 ⟨hce0, hsl0⟩ ?_
  refine lv_iload hx hb d_La_law_441 (lv_at hl 0 rfl) ?_
  refine lv_icmp_eq (tgt := 448) hx hb d_La_law_443 rfl (fun _ => ?_) (fun hz9 => absurd (by decide) hz9)
  refine lv_goto (tgt := 704) hx hb d_La_law_448 rfl ?_
  exact W.widen (by omega) (by omega) (k _ H locs ls ⟨hP, hD, hS⟩ (lv_sub hl [1, 2, 3, 4, 5] rfl))

def s1_data_1 (S : lx_S) (y z : Int32) : lx_S := lx_mk S.P S.F S.B S.sr S.sd S.Rs S.Cs S.As S.Rt S.Ct S.At S.Po S.Pa S.Pb S.Pc S.G S.O S.Bm S.n S.k S.ks S.kt S.hs S.ds S.es S.xs S.ht S.dt S.et S.tl S.nx 1
set_option maxHeartbeats 4000000 in
set_option maxRecDepth 100000 in
theorem la_data_1 {p : Program} {l : Launch} {e : Env} {s : State} {m : MethodId} {args : Array Value} {below : List Frame} {meth : Method} {c : Code} {D : va_G} {cI cZ cJ : ClassId} {b L : Nat} {xs : Nat → Int32} {Q : State → Prop} (C : lx_C p l s m args c D cI cZ cJ b L xs) {a : Nat → Nat} {S : lx_S} {W0 : Nat → Int64} {H : Heap} {locs : List Loc} (X : lx_H D cI cZ cJ s a S S W0 H locs) {ls : Array Slot} {i : Nat} (hi : i + 5 ≤ L) (hl : lv_has ls 7 [(4, .int (nI i)), (3, .ref (a 34)), (2, .ref (a 17)), (1, .ref (a 0)), (0, .ref b)]) {cells slots : Nat} (hce : cells + 1 ≤ room_1.cells) (hsl : slots + 6 ≤ room_1.slots) (y z : Int32) (E1 : xs (i + 1) = y) (E2 : xs (i + 2) = z) (hbad : tm_wi y 0 31 = 0 ∨ tm_wi z (-32768) 32767 = 0)
    (k : ∀ (W1 : Nat → Int64) (H1 : Heap) (locs1 : List Loc) (ls1 : Array Slot), lx_H D cI cZ cJ s a (s1_data_1 S y z) (s1_data_1 S y z) W1 H1 locs1 → lv_has ls1 7 [(4, .int (nI i)), (3, .ref (a 34)), (2, .ref (a 17)), (1, .ref (a 0)), (0, .ref b)] → W p l e room_1 s m args below meth c H1 locs1 (cells + 1) (slots + 6) Q (F0 m 704 ls1 [])) : W p l e room_1 s m args below meth c H locs cells slots Q (F0 m 403 ls []) := by
  obtain ⟨hP, hD, hS⟩ := X
  have hx := C.hx
  have hb := C.hb
  have hK := C.hK
  have hL := C.hL
  have hA : ∀ q : Nat, s.heap.size ≤ q → lx_A s q := fun _ h => h
  have hce0 : cells ≤ room_1.cells := Nat.le_of_succ_le hce
  have hsl0 : slots ≤ room_1.slots := Nat.le_trans (Nat.le_add_right _ _) hsl
  refine lv_aload_n hx hb d_La_law_403 rfl (lv_at hl 3 rfl) ?_
  refine lv_aload_n hx hb d_La_law_404 rfl (lv_at hl 4 rfl) ?_
  refine lv_iload hx hb d_La_law_405 (lv_at hl 0 rfl) ?_
  refine lv_iconst (v := 1) hx hb d_La_law_407 (by decide) ?_
  refine lv_iadd hx hb d_La_law_408 ?_
  have eq9 : ((nI i) + 1 : Int32) = nI (i + 1) := nI_add i 1
  refine W.eq (g2 := F0 m 409 ls [.int (nI (i + 1)), .ref b, .ref (a 0)]) (by rw [eq9]) ?_
  refine lx_ld (kx := i + 1) (v := y) C hS E1 (by omega) d_La_law_409 ?_
  refine lv_aload_n hx hb d_La_law_410 rfl (lv_at hl 4 rfl) ?_
  refine lv_iload hx hb d_La_law_411 (lv_at hl 0 rfl) ?_
  refine lv_iconst (v := 2) hx hb d_La_law_413 (by decide) ?_
  refine lv_iadd hx hb d_La_law_414 ?_
  have eq9 : ((nI i) + 2 : Int32) = nI (i + 2) := nI_add i 2
  refine W.eq (g2 := F0 m 415 ls [.int (nI (i + 2)), .ref b, .int y, .ref (a 0)]) (by rw [eq9]) ?_
  refine lx_ld (kx := i + 2) (v := z) C hS E2 (by omega) d_La_law_415 ?_
  refine xh_go (w2 := lx_W cI cZ cJ a (s1_data_1 S y z) S W0) (wr := lx_R cI cZ cJ a S ++ [lx_w cJ a W0]) (xh_runS (g := F0 m 416 ls [.int z, .int y, .ref (a 0)]) (As := [.ref (a 0), .int y, .int z]) (rest := []) ⟨C.hx, C.hb, C.hml, C.hown, C.hg⟩ (c_La_data_1 l C.hLx D cI cZ cJ (a 0) (a 1) (a 2) (a 3) (a 4) (a 5) (a 6) (a 7) (a 8) (a 9) (a 10) (a 11) (a 12) (a 13) (a 14) (a 15) (a 16) S.P S.F S.B S.sr S.sd S.Rs S.Cs S.As S.Rt S.Ct S.At S.n S.k S.ks S.kt S.hs S.ds S.es S.xs S.ht S.dt S.et y z (hbad) H.size) m_La_data q420 rfl rfl ⟨Nat.le_of_ble_eq_true rfl, Nat.le_of_ble_eq_true rfl⟩ ⟨xh_blind, xh_pre C.hK (lx_hT C.hT hS) C.hV hP hD [0, 1, 2, 3, 4, 5, 6, 7, 8, 9, 10, 11, 12, 13, 14, 15, 16] (by decide) rfl⟩ rfl rfl hl.1 rfl (lv_room (Nat.le_of_ble_eq_true rfl)) d_La_law_416 ⟨hce, hsl⟩) hP hD hS hA [0, 1, 2, 3, 4, 5, 6, 7, 8, 9, 10, 11, 12, 13, 14, 15, 16] [17, 18, 19, 20, 21, 22, 23, 24, 25, 26, 27, 28, 29, 30, 31, 32, 33, 34] [18, 19, 20, 21, 22, 23, 24, 25, 26, 27, 28, 29, 30, 31, 32, 33, 34, 0, 1, 2, 3, 4, 5, 6, 7, 8, 9, 10, 11, 12, 13, 14, 15, 16, 17] rfl rfl (by decide) (by decide) rfl (by decide) (fun H locs hP hD hS => ?_)
  refine lv_istore hx hb d_La_law_419 hl (by decide) rfl (fun ls hl => ?_)
  have hl : lv_has ls 7 [(5, .int 1), (4, .int (nI i)), (3, .ref (a 34)), (2, .ref (a 17)), (1, .ref (a 0)), (0, .ref b)] := hl
  refine lv_aload_n hx hb d_La_law_421 rfl (lv_at hl 3 rfl) ?_
  refine lv_aload_n hx hb d_La_law_422 rfl (lv_at hl 5 rfl) ?_
  refine lv_iload hx hb d_La_law_423 (lv_at hl 1 rfl) ?_
  refine lv_iconst (v := 1) hx hb d_La_law_425 (by decide) ?_
  refine lv_iadd hx hb d_La_law_426 ?_
  have eq9 : ((nI i) + 1 : Int32) = nI (i + 1) := nI_add i 1
  refine W.eq (g2 := F0 m 427 ls [.int (nI (i + 1)), .ref b, .ref (a 17)]) (by rw [eq9]) ?_
  refine lx_ld (kx := i + 1) (v := y) C hS E1 (by omega) d_La_law_427 ?_
  refine lv_aload_n hx hb d_La_law_428 rfl (lv_at hl 5 rfl) ?_
  refine lv_iload hx hb d_La_law_429 (lv_at hl 1 rfl) ?_
  refine lv_iconst (v := 2) hx hb d_La_law_431 (by decide) ?_
  refine lv_iadd hx hb d_La_law_432 ?_
  have eq9 : ((nI i) + 2 : Int32) = nI (i + 2) := nI_add i 2
  refine W.eq (g2 := F0 m 433 ls [.int (nI (i + 2)), .ref b, .int y, .ref (a 17)]) (by rw [eq9]) ?_
  refine lx_ld (kx := i + 2) (v := z) C hS E2 (by omega) d_La_law_433 ?_
  refine xw_go (w2 := lx_W cI cZ cJ a (s1_data_1 S y z) (s1_data_1 S y z) W0) (wr := lx_X cI cZ cJ a (s1_data_1 S y z) ++ [lx_w cJ a W0]) (va_runV (As := [.int y, .int z]) (rest := []) (C := R_Mo) ⟨C.hx, C.hb, C.hml, C.hown, C.hg⟩ (c_Mo_data_1 l D cI cZ cJ (a 17) (a 18) (a 19) (a 20) (a 21) (a 22) (a 23) (a 24) (a 25) (a 26) (a 27) (a 28) (a 29) (a 30) (a 31) (a 32) (a 33) S.Po S.Pa S.Pb S.Pc S.G S.O S.Bm S.sr S.sd (tm_jn 8 S.Rs S.Rt) (tm_jn 64 S.Cs S.Ct) (tm_tw S.es S.et) (tm_tw S.hs S.ht) (tm_tw S.ds S.dt) (tm_tw (nI S.ks) (nI S.kt)) (tm_jn 120 S.As S.At) S.n S.k S.th S.tl S.nx y z (hbad) H.size) ⟨xg_B C.hg m_Mo_data.1 m_Mo_data.2.2.1 m_Mo_data.2.2.2.1 m_Mo_data.2.2.2.2 q709 rfl rfl ⟨Nat.le_of_ble_eq_true rfl, Nat.le_of_ble_eq_true rfl⟩, C.hg _ m_Mo_data.2.1, C.hg _ q711⟩ ⟨xw_blind, (va_recv (q0 := 17) C.hK.1 hP rfl rfl), xw_pre C.hK hP hD [17, 18, 19, 20, 21, 22, 23, 24, 25, 26, 27, 28, 29, 30, 31, 32, 33] (by decide) rfl⟩ rfl rfl hl.1 rfl (lv_room (Nat.le_of_ble_eq_true rfl)) d_La_law_434 ⟨hce, hsl⟩) hP hD hS hA [17, 18, 19, 20, 21, 22, 23, 24, 25, 26, 27, 28, 29, 30, 31, 32, 33] [0, 1, 2, 3, 4, 5, 6, 7, 8, 9, 10, 11, 12, 13, 14, 15, 16, 34] [0, 1, 2, 3, 4, 5, 6, 7, 8, 9, 10, 11, 12, 13, 14, 15, 16, 18, 19, 20, 21, 22, 23, 24, 25, 26, 27, 28, 29, 30, 31, 32, 33, 34, 17] rfl rfl (by decide) (by decide) rfl (by decide) (fun H locs hP hD hS => ?_)
  refine lv_aload_n hx hb d_La_law_437 rfl (lv_at hl 3 rfl) ?_
  refine xr_V (C := R_Mo) (As := []) (rest := []) ⟨C.hx, C.hb, C.hml, C.hown, C.hg⟩ (c_Mo_thrown l D cI cZ cJ (a 17) (a 18) (a 19) (a 20) (a 21) (a 22) (a 23) (a 24) (a 25) (a 26) (a 27) (a 28) (a 29) (a 30) (a 31) (a 32) (a 33) ((s1_data_1 S y z).Po) ((s1_data_1 S y z).Pa) ((s1_data_1 S y z).Pb) ((s1_data_1 S y z).Pc) ((s1_data_1 S y z).G) ((s1_data_1 S y z).O) ((s1_data_1 S y z).Bm) ((s1_data_1 S y z).sr) ((s1_data_1 S y z).sd) (tm_jn 8 ((s1_data_1 S y z).Rs) ((s1_data_1 S y z).Rt)) (tm_jn 64 ((s1_data_1 S y z).Cs) ((s1_data_1 S y z).Ct)) (tm_tw ((s1_data_1 S y z).es) ((s1_data_1 S y z).et)) (tm_tw ((s1_data_1 S y z).hs) ((s1_data_1 S y z).ht)) (tm_tw ((s1_data_1 S y z).ds) ((s1_data_1 S y z).dt)) (tm_tw (nI (s1_data_1 S y z).ks) (nI (s1_data_1 S y z).kt)) (tm_jn 120 ((s1_data_1 S y z).As) ((s1_data_1 S y z).At)) ((s1_data_1 S y z).n) ((s1_data_1 S y z).k) 1 ((s1_data_1 S y z).tl) ((s1_data_1 S y z).nx)) m_Mo_thrown q628 q630 ⟨rfl, rfl⟩ ⟨Nat.le_of_ble_eq_true rfl, Nat.le_of_ble_eq_true rfl⟩ C.hK hP [17, 18, 19, 20, 21, 22, 23, 24, 25, 26, 27, 28, 29, 30, 31, 32, 33] rfl (va_recv (q0 := 17) C.hK.1 hP rfl rfl) rfl hl.1 rfl (Nat.le_of_ble_eq_true rfl) d_La_law_438 ⟨hce, hsl⟩ ?_
  refine lv_iload hx hb d_La_law_441 (lv_at hl 0 rfl) ?_
  refine lv_icmp_eq (tgt := 448) hx hb d_La_law_443 rfl (fun _ => ?_) (fun hz9 => absurd (by decide) hz9)
  refine lv_goto (tgt := 704) hx hb d_La_law_448 rfl ?_
  exact W.widen (by omega) (by omega) (k _ H locs ls ⟨hP, hD, hS⟩ (lv_sub hl [1, 2, 3, 4, 5] rfl))

def s1_run0 (S : lx_S) (lim : Nat) : lx_S := lx_mk S.P S.F S.B S.sr S.sd ((tm_run tm_ss S.P S.n lim (S.sr, tm_c0 S.sd, S.As, 0, 0, 0, 0, 1)).1) ((tm_run tm_ss S.P S.n lim (S.sr, tm_c0 S.sd, S.As, 0, 0, 0, 0, 1)).2.1) ((tm_run tm_ss S.P S.n lim (S.sr, tm_c0 S.sd, S.As, 0, 0, 0, 0, 1)).2.2.1) S.Rt S.Ct S.At S.Po S.Pa S.Pb S.Pc S.G S.O S.Bm S.n S.k ((tm_run tm_ss S.P S.n lim (S.sr, tm_c0 S.sd, S.As, 0, 0, 0, 0, 1)).2.2.2.1) S.kt ((tm_run tm_ss S.P S.n lim (S.sr, tm_c0 S.sd, S.As, 0, 0, 0, 0, 1)).2.2.2.2.1) ((tm_run tm_ss S.P S.n lim (S.sr, tm_c0 S.sd, S.As, 0, 0, 0, 0, 1)).2.2.2.2.2.1) ((tm_run tm_ss S.P S.n lim (S.sr, tm_c0 S.sd, S.As, 0, 0, 0, 0, 1)).2.2.2.2.2.2.1) ((tm_run tm_ss S.P S.n lim (S.sr, tm_c0 S.sd, S.As, 0, 0, 0, 0, 1)).2.2.2.2.2.2.2) S.ht S.dt S.et S.tl ((tm_run tm_ss S.P S.n lim (S.sr, tm_c0 S.sd, S.As, 0, 0, 0, 0, 1)).2.2.2.2.2.2.2) 0
set_option maxHeartbeats 4000000 in
set_option maxRecDepth 100000 in
theorem la_run0 {p : Program} {l : Launch} {e : Env} {s : State} {m : MethodId} {args : Array Value} {below : List Frame} {meth : Method} {c : Code} {D : va_G} {cI cZ cJ : ClassId} {b L : Nat} {xs : Nat → Int32} {Q : State → Prop} (C : lx_C p l s m args c D cI cZ cJ b L xs) {a : Nat → Nat} {S : lx_S} {W0 : Nat → Int64} {H : Heap} {locs : List Loc} (X : lx_H D cI cZ cJ s a S S W0 H locs) {ls : Array Slot} {i : Nat} (hi : i + 5 ≤ L) (hl : lv_has ls 7 [(4, .int (nI i)), (3, .ref (a 34)), (2, .ref (a 17)), (1, .ref (a 0)), (0, .ref b)]) {cells slots : Nat} (hce : cells + 1 ≤ room_1.cells) (hsl : slots + 6 ≤ room_1.slots) (lim : Nat) (E1 : xs (i + 1) = 0) (E2 : xs (i + 2) = nI lim) (hPo : ∀ i, S.Po i = S.P (4 * i)) (hPa : ∀ i, S.Pa i = S.P (4 * i + 1)) (hPb : ∀ i, S.Pb i = S.P (4 * i + 2)) (hPc : ∀ i, S.Pc i = S.P (4 * i + 3)) (hlim : lim ≤ 2000) (hn : S.n ≤ 24) (hiv : tm_iv S.P S.n) (hJ : tm_js S.P S.n tm_jsJ) (hJ0 : tm_jsJ (S.sr, tm_c0 S.sd, S.As, 0, 0, 0, 0, 1))
    (k : ∀ (W1 : Nat → Int64) (H1 : Heap) (locs1 : List Loc) (ls1 : Array Slot), lx_H D cI cZ cJ s a (s1_run0 S lim) (s1_run0 S lim) W1 H1 locs1 → lv_has ls1 7 [(4, .int (nI i)), (3, .ref (a 34)), (2, .ref (a 17)), (1, .ref (a 0)), (0, .ref b)] → W p l e room_1 s m args below meth c H1 locs1 (cells + 1) (slots + 6) Q (F0 m 704 ls1 [])) : W p l e room_1 s m args below meth c H locs cells slots Q (F0 m 451 ls []) := by
  obtain ⟨hP, hD, hS⟩ := X
  have hx := C.hx
  have hb := C.hb
  have hK := C.hK
  have hL := C.hL
  have hA : ∀ q : Nat, s.heap.size ≤ q → lx_A s q := fun _ h => h
  have hce0 : cells ≤ room_1.cells := Nat.le_of_succ_le hce
  have hsl0 : slots ≤ room_1.slots := Nat.le_trans (Nat.le_add_right _ _) hsl
  refine lv_aload_n hx hb d_La_law_451 rfl (lv_at hl 3 rfl) ?_
  refine lv_aload_n hx hb d_La_law_452 rfl (lv_at hl 4 rfl) ?_
  refine lv_iload hx hb d_La_law_453 (lv_at hl 0 rfl) ?_
  refine lv_iconst (v := 1) hx hb d_La_law_455 (by decide) ?_
  refine lv_iadd hx hb d_La_law_456 ?_
  have eq9 : ((nI i) + 1 : Int32) = nI (i + 1) := nI_add i 1
  refine W.eq (g2 := F0 m 457 ls [.int (nI (i + 1)), .ref b, .ref (a 0)]) (by rw [eq9]) ?_
  refine lx_ld (kx := i + 1) (v := 0) C hS E1 (by omega) d_La_law_457 ?_
  refine lv_aload_n hx hb d_La_law_458 rfl (lv_at hl 4 rfl) ?_
  refine lv_iload hx hb d_La_law_459 (lv_at hl 0 rfl) ?_
  refine lv_iconst (v := 2) hx hb d_La_law_461 (by decide) ?_
  refine lv_iadd hx hb d_La_law_462 ?_
  have eq9 : ((nI i) + 2 : Int32) = nI (i + 2) := nI_add i 2
  refine W.eq (g2 := F0 m 463 ls [.int (nI (i + 2)), .ref b, .int 0, .ref (a 0)]) (by rw [eq9]) ?_
  refine lx_ld (kx := i + 2) (v := nI lim) C hS E2 (by omega) d_La_law_463 ?_
  refine lv_aload_n hx hb d_La_law_464 rfl (lv_at hl 1 rfl) ?_
  refine xh_go (w2 := lx_W cI cZ cJ a (s1_run0 S lim) S (vp_updL W0 0 ((tm_run tm_ss S.P S.n lim (S.sr, tm_c0 S.sd, S.As, 0, 0, 0, 0, 1)).2.2.2.2.2.1).toInt64)) (wr := lx_R cI cZ cJ a S) (xh_runS (g := F0 m 465 ls [.ref (a 34), .int (nI lim), .int 0, .ref (a 0)]) (As := [.ref (a 0), .int 0, .int (nI lim), .ref (a 34)]) (rest := []) ⟨C.hx, C.hb, C.hml, C.hown, C.hg⟩ (c_La_run0 l C.hLx D cI cZ cJ (a 0) (a 1) (a 2) (a 3) (a 4) (a 5) (a 6) (a 7) (a 8) (a 9) (a 10) (a 11) (a 12) (a 13) (a 14) (a 15) (a 16) S.P S.F S.B S.sr S.sd S.Rs S.Cs S.As S.Rt S.Ct S.At S.n S.k S.ks S.kt S.hs S.ds S.es S.xs S.ht S.dt S.et lim (a 34) W0 (hlim) (hn) (hiv) H.size) m_La_run q430 rfl rfl ⟨Nat.le_of_ble_eq_true rfl, Nat.le_of_ble_eq_true rfl⟩ ⟨xh_blind, xh_pre C.hK (lx_hT C.hT hS) C.hV hP hD [0, 1, 2, 3, 4, 5, 6, 7, 8, 9, 10, 11, 12, 13, 14, 15, 16, 34] (by decide) rfl⟩ rfl rfl hl.1 rfl (lv_room (Nat.le_of_ble_eq_true rfl)) d_La_law_465 ⟨hce0, hsl0⟩) hP hD hS hA [0, 1, 2, 3, 4, 5, 6, 7, 8, 9, 10, 11, 12, 13, 14, 15, 16, 34] [17, 18, 19, 20, 21, 22, 23, 24, 25, 26, 27, 28, 29, 30, 31, 32, 33] [17, 18, 19, 20, 21, 22, 23, 24, 25, 26, 27, 28, 29, 30, 31, 32, 33, 0, 1, 2, 3, 4, 5, 6, 7, 8, 9, 10, 11, 12, 13, 14, 15, 16, 34] rfl rfl (by decide) (by decide) rfl (by decide) (fun H locs hP hD hS => ?_)
  refine lv_istore hx hb d_La_law_468 hl (by decide) rfl (fun ls hl => ?_)
  have hl : lv_has ls 7 [(5, .int 0), (4, .int (nI i)), (3, .ref (a 34)), (2, .ref (a 17)), (1, .ref (a 0)), (0, .ref b)] := hl
  refine lv_aload_n hx hb d_La_law_470 rfl (lv_at hl 3 rfl) ?_
  refine lv_aload_n hx hb d_La_law_471 rfl (lv_at hl 5 rfl) ?_
  refine lv_iload hx hb d_La_law_472 (lv_at hl 1 rfl) ?_
  refine lv_iconst (v := 1) hx hb d_La_law_474 (by decide) ?_
  refine lv_iadd hx hb d_La_law_475 ?_
  have eq9 : ((nI i) + 1 : Int32) = nI (i + 1) := nI_add i 1
  refine W.eq (g2 := F0 m 476 ls [.int (nI (i + 1)), .ref b, .ref (a 17)]) (by rw [eq9]) ?_
  refine lx_ld (kx := i + 1) (v := 0) C hS E1 (by omega) d_La_law_476 ?_
  refine lv_aload_n hx hb d_La_law_477 rfl (lv_at hl 5 rfl) ?_
  refine lv_iload hx hb d_La_law_478 (lv_at hl 1 rfl) ?_
  refine lv_iconst (v := 2) hx hb d_La_law_480 (by decide) ?_
  refine lv_iadd hx hb d_La_law_481 ?_
  have eq9 : ((nI i) + 2 : Int32) = nI (i + 2) := nI_add i 2
  refine W.eq (g2 := F0 m 482 ls [.int (nI (i + 2)), .ref b, .int 0, .ref (a 17)]) (by rw [eq9]) ?_
  refine lx_ld (kx := i + 2) (v := nI lim) C hS E2 (by omega) d_La_law_482 ?_
  refine xi_go (w2 := lx_W cI cZ cJ a (s1_run0 S lim) (s1_run0 S lim) (vp_updL W0 0 ((tm_run tm_ss S.P S.n lim (S.sr, tm_c0 S.sd, S.As, 0, 0, 0, 0, 1)).2.2.2.2.2.1).toInt64)) (wr := lx_X cI cZ cJ a (s1_run0 S lim) ++ [lx_w cJ a (vp_updL W0 0 ((tm_run tm_ss S.P S.n lim (S.sr, tm_c0 S.sd, S.As, 0, 0, 0, 0, 1)).2.2.2.2.2.1).toInt64)]) (va_runV (As := [.int 0, .int (nI lim)]) (rest := []) (C := R_Mo) ⟨C.hx, C.hb, C.hml, C.hown, C.hg⟩ (c_Mo_run0 l D cI cZ cJ (a 17) (a 18) (a 19) (a 20) (a 21) (a 22) (a 23) (a 24) (a 25) (a 26) (a 27) (a 28) (a 29) (a 30) (a 31) (a 32) (a 33) S.Po S.Pa S.Pb S.Pc S.G S.O S.Bm S.sr S.sd S.Rs S.Rt S.Cs S.Ct S.As S.At S.n S.k S.ks S.kt S.th S.tl S.nx S.es S.et S.hs S.ht S.ds S.dt S.P tm_jsJ lim (hPo) (hPa) (hPb) (hPc) (hJ) (hJ0) (hn) (hlim) H.size) ⟨xg_B C.hg m_Mo_run.1 m_Mo_run.2.2.1 m_Mo_run.2.2.2.1 m_Mo_run.2.2.2.2 q713 rfl rfl ⟨Nat.le_of_ble_eq_true rfl, Nat.le_of_ble_eq_true rfl⟩, C.hg _ m_Mo_run.2.1, C.hg _ q715⟩ ⟨xw_blind, (va_recv (q0 := 17) C.hK.1 hP rfl rfl), xw_pre C.hK hP hD [17, 18, 19, 20, 21, 22, 23, 24, 25, 26, 27, 28, 29, 30, 31, 32, 33] (by decide) rfl⟩ rfl rfl hl.1 rfl (lv_room (Nat.le_of_ble_eq_true rfl)) d_La_law_483 ⟨hce0, hsl0⟩) hP hD hS hA [17, 18, 19, 20, 21, 22, 23, 24, 25, 26, 27, 28, 29, 30, 31, 32, 33] [0, 1, 2, 3, 4, 5, 6, 7, 8, 9, 10, 11, 12, 13, 14, 15, 16, 34] [0, 1, 2, 3, 4, 5, 6, 7, 8, 9, 10, 11, 12, 13, 14, 15, 16, 18, 19, 20, 21, 22, 23, 24, 25, 26, 27, 28, 29, 30, 31, 32, 33, 34, 17] rfl rfl (by decide) (by decide) rfl (by decide) (fun H locs hP hD hS => ?_)
  refine lv_istore hx hb d_La_law_486 hl (by decide) rfl (fun ls hl => ?_)
  have hl : lv_has ls 7 [(6, .int ((tm_run tm_ss S.P S.n lim (S.sr, tm_c0 S.sd, S.As, 0, 0, 0, 0, 1)).2.2.2.2.2.1)), (5, .int 0), (4, .int (nI i)), (3, .ref (a 34)), (2, .ref (a 17)), (1, .ref (a 0)), (0, .ref b)] := hl
  refine lv_aload_n hx hb d_La_law_488 rfl (lv_at hl 4 rfl) ?_
  refine xr_V (C := R_Mo) (As := []) (rest := []) ⟨C.hx, C.hb, C.hml, C.hown, C.hg⟩ (c_Mo_thrown l D cI cZ cJ (a 17) (a 18) (a 19) (a 20) (a 21) (a 22) (a 23) (a 24) (a 25) (a 26) (a 27) (a 28) (a 29) (a 30) (a 31) (a 32) (a 33) ((s1_run0 S lim).Po) ((s1_run0 S lim).Pa) ((s1_run0 S lim).Pb) ((s1_run0 S lim).Pc) ((s1_run0 S lim).G) ((s1_run0 S lim).O) ((s1_run0 S lim).Bm) ((s1_run0 S lim).sr) ((s1_run0 S lim).sd) (tm_jn 8 ((s1_run0 S lim).Rs) ((s1_run0 S lim).Rt)) (tm_jn 64 ((s1_run0 S lim).Cs) ((s1_run0 S lim).Ct)) (tm_tw ((s1_run0 S lim).es) ((s1_run0 S lim).et)) (tm_tw ((s1_run0 S lim).hs) ((s1_run0 S lim).ht)) (tm_tw ((s1_run0 S lim).ds) ((s1_run0 S lim).dt)) (tm_tw (nI (s1_run0 S lim).ks) (nI (s1_run0 S lim).kt)) (tm_jn 120 ((s1_run0 S lim).As) ((s1_run0 S lim).At)) ((s1_run0 S lim).n) ((s1_run0 S lim).k) 0 ((s1_run0 S lim).tl) ((s1_run0 S lim).nx)) m_Mo_thrown q628 q630 ⟨rfl, rfl⟩ ⟨Nat.le_of_ble_eq_true rfl, Nat.le_of_ble_eq_true rfl⟩ C.hK hP [17, 18, 19, 20, 21, 22, 23, 24, 25, 26, 27, 28, 29, 30, 31, 32, 33] rfl (va_recv (q0 := 17) C.hK.1 hP rfl rfl) rfl hl.1 rfl (Nat.le_of_ble_eq_true rfl) d_La_law_489 ⟨hce0, hsl0⟩ ?_
  refine lv_iload hx hb d_La_law_492 (lv_at hl 1 rfl) ?_
  refine lv_icmp_eq (tgt := 499) hx hb d_La_law_494 rfl (fun _ => ?_) (fun hz9 => absurd (by decide) hz9)
  refine lv_iload hx hb d_La_law_499 (lv_at hl 1 rfl) ?_
  refine lv_if_ne (tgt := 516) hx hb d_La_law_501 rfl (fun hz9 => absurd (by decide) hz9) (fun _ => ?_)
  refine lv_aload_n hx hb d_La_law_504 rfl (lv_at hl 3 rfl) ?_
  refine lv_iconst (v := 0) hx hb d_La_law_505 (by decide) ?_
  refine xa_jd hx hb hK hP 34 2 rfl rfl (kx := 0) (rfl) (by decide) (by decide) d_La_law_506 ?_
  refine lv_iload hx hb d_La_law_507 (lv_at hl 0 rfl) ?_
  refine lv_i2l (v := ((tm_run tm_ss S.P S.n lim (S.sr, tm_c0 S.sd, S.As, 0, 0, 0, 0, 1)).2.2.2.2.2.1).toInt64) hx hb d_La_law_509 rfl ?_
  refine lx_cmp C (rfl) d_La_law_510 ?_
  refine lv_if_eq (tgt := 516) hx hb d_La_law_511 rfl (fun _ => ?_) (fun hz9 => absurd (by decide) hz9)
  refine lv_goto (tgt := 704) hx hb d_La_law_516 rfl ?_
  exact W.widen (by omega) (by omega) (k _ H locs ls ⟨hP, hD, hS⟩ (lv_sub hl [2, 3, 4, 5, 6] rfl))

def s1_run1 (S : lx_S) (lim : Nat) : lx_S := lx_mk S.P S.F S.B S.sr S.sd S.Rs S.Cs S.As ((tm_run tm_ts S.F S.k lim (tm_r1 S.sr, tm_c1 S.sr S.sd S.B S.n, S.At, 0, 0, 0, 0, 0)).1) ((tm_run tm_ts S.F S.k lim (tm_r1 S.sr, tm_c1 S.sr S.sd S.B S.n, S.At, 0, 0, 0, 0, 0)).2.1) ((tm_run tm_ts S.F S.k lim (tm_r1 S.sr, tm_c1 S.sr S.sd S.B S.n, S.At, 0, 0, 0, 0, 0)).2.2.1) S.Po S.Pa S.Pb S.Pc S.G S.O S.Bm S.n S.k S.ks ((tm_run tm_ts S.F S.k lim (tm_r1 S.sr, tm_c1 S.sr S.sd S.B S.n, S.At, 0, 0, 0, 0, 0)).2.2.2.1) S.hs S.ds S.es S.xs ((tm_run tm_ts S.F S.k lim (tm_r1 S.sr, tm_c1 S.sr S.sd S.B S.n, S.At, 0, 0, 0, 0, 0)).2.2.2.2.1) ((tm_run tm_ts S.F S.k lim (tm_r1 S.sr, tm_c1 S.sr S.sd S.B S.n, S.At, 0, 0, 0, 0, 0)).2.2.2.2.2.1) ((tm_run tm_ts S.F S.k lim (tm_r1 S.sr, tm_c1 S.sr S.sd S.B S.n, S.At, 0, 0, 0, 0, 0)).2.2.2.2.2.2.1) S.tl 1 0
set_option maxHeartbeats 4000000 in
set_option maxRecDepth 100000 in
theorem la_run1 {p : Program} {l : Launch} {e : Env} {s : State} {m : MethodId} {args : Array Value} {below : List Frame} {meth : Method} {c : Code} {D : va_G} {cI cZ cJ : ClassId} {b L : Nat} {xs : Nat → Int32} {Q : State → Prop} (C : lx_C p l s m args c D cI cZ cJ b L xs) {a : Nat → Nat} {S : lx_S} {W0 : Nat → Int64} {H : Heap} {locs : List Loc} (X : lx_H D cI cZ cJ s a S S W0 H locs) {ls : Array Slot} {i : Nat} (hi : i + 5 ≤ L) (hl : lv_has ls 7 [(4, .int (nI i)), (3, .ref (a 34)), (2, .ref (a 17)), (1, .ref (a 0)), (0, .ref b)]) {cells slots : Nat} (hce : cells + 1 ≤ room_1.cells) (hsl : slots + 6 ≤ room_1.slots) (lim : Nat) (E1 : xs (i + 1) = 1) (E2 : xs (i + 2) = nI lim) (J : tM → Prop) (hlim : lim ≤ 2000) (hn : S.n ≤ 24) (hk : S.k ≤ 217) (hk0 : 0 < S.k) (hiv : tm_iv S.F S.k) (hJ : tm_jt S.G S.k J) (htl : ¬ S.tl = 0) (hsr : S.sr 0 = 0) (hJ0 : J (tm_r1 S.sr, tm_c1 S.sr S.sd S.Bm S.n, S.At, 0, 0, 0, 0, 0)) (hrr : (tm_run tm_ts S.G S.k lim (tm_r1 S.sr, tm_c1 S.sr S.sd S.Bm S.n, S.At, 0, 0, 0, 0, 0)) = (tm_run tm_ts S.F S.k lim (tm_r1 S.sr, tm_c1 S.sr S.sd S.B S.n, S.At, 0, 0, 0, 0, 0)))
    (k : ∀ (W1 : Nat → Int64) (H1 : Heap) (locs1 : List Loc) (ls1 : Array Slot), lx_H D cI cZ cJ s a (s1_run1 S lim) (s1_run1 S lim) W1 H1 locs1 → lv_has ls1 7 [(4, .int (nI i)), (3, .ref (a 34)), (2, .ref (a 17)), (1, .ref (a 0)), (0, .ref b)] → W p l e room_1 s m args below meth c H1 locs1 (cells + 1) (slots + 6) Q (F0 m 704 ls1 [])) : W p l e room_1 s m args below meth c H locs cells slots Q (F0 m 451 ls []) := by
  obtain ⟨hP, hD, hS⟩ := X
  have hx := C.hx
  have hb := C.hb
  have hK := C.hK
  have hL := C.hL
  have hA : ∀ q : Nat, s.heap.size ≤ q → lx_A s q := fun _ h => h
  have hce0 : cells ≤ room_1.cells := Nat.le_of_succ_le hce
  have hsl0 : slots ≤ room_1.slots := Nat.le_trans (Nat.le_add_right _ _) hsl
  refine lv_aload_n hx hb d_La_law_451 rfl (lv_at hl 3 rfl) ?_
  refine lv_aload_n hx hb d_La_law_452 rfl (lv_at hl 4 rfl) ?_
  refine lv_iload hx hb d_La_law_453 (lv_at hl 0 rfl) ?_
  refine lv_iconst (v := 1) hx hb d_La_law_455 (by decide) ?_
  refine lv_iadd hx hb d_La_law_456 ?_
  have eq9 : ((nI i) + 1 : Int32) = nI (i + 1) := nI_add i 1
  refine W.eq (g2 := F0 m 457 ls [.int (nI (i + 1)), .ref b, .ref (a 0)]) (by rw [eq9]) ?_
  refine lx_ld (kx := i + 1) (v := 1) C hS E1 (by omega) d_La_law_457 ?_
  refine lv_aload_n hx hb d_La_law_458 rfl (lv_at hl 4 rfl) ?_
  refine lv_iload hx hb d_La_law_459 (lv_at hl 0 rfl) ?_
  refine lv_iconst (v := 2) hx hb d_La_law_461 (by decide) ?_
  refine lv_iadd hx hb d_La_law_462 ?_
  have eq9 : ((nI i) + 2 : Int32) = nI (i + 2) := nI_add i 2
  refine W.eq (g2 := F0 m 463 ls [.int (nI (i + 2)), .ref b, .int 1, .ref (a 0)]) (by rw [eq9]) ?_
  refine lx_ld (kx := i + 2) (v := nI lim) C hS E2 (by omega) d_La_law_463 ?_
  refine lv_aload_n hx hb d_La_law_464 rfl (lv_at hl 1 rfl) ?_
  refine xh_go (w2 := lx_W cI cZ cJ a (s1_run1 S lim) S (vp_updL W0 0 ((tm_run tm_ts S.F S.k lim (tm_r1 S.sr, tm_c1 S.sr S.sd S.B S.n, S.At, 0, 0, 0, 0, 0)).2.2.2.2.2.1).toInt64)) (wr := lx_R cI cZ cJ a S) (xh_runS (g := F0 m 465 ls [.ref (a 34), .int (nI lim), .int 1, .ref (a 0)]) (As := [.ref (a 0), .int 1, .int (nI lim), .ref (a 34)]) (rest := []) ⟨C.hx, C.hb, C.hml, C.hown, C.hg⟩ (c_La_run1 l C.hLx D cI cZ cJ (a 0) (a 1) (a 2) (a 3) (a 4) (a 5) (a 6) (a 7) (a 8) (a 9) (a 10) (a 11) (a 12) (a 13) (a 14) (a 15) (a 16) S.P S.F S.B S.sr S.sd S.Rs S.Cs S.As S.Rt S.Ct S.At S.n S.k S.ks S.kt S.hs S.ds S.es S.xs S.ht S.dt S.et lim (a 34) W0 (hlim) (hn) (hk) (hk0) (hiv) H.size) m_La_run q430 rfl rfl ⟨Nat.le_of_ble_eq_true rfl, Nat.le_of_ble_eq_true rfl⟩ ⟨xh_blind, xh_pre C.hK (lx_hT C.hT hS) C.hV hP hD [0, 1, 2, 3, 4, 5, 6, 7, 8, 9, 10, 11, 12, 13, 14, 15, 16, 34] (by decide) rfl⟩ rfl rfl hl.1 rfl (lv_room (Nat.le_of_ble_eq_true rfl)) d_La_law_465 ⟨hce0, hsl0⟩) hP hD hS hA [0, 1, 2, 3, 4, 5, 6, 7, 8, 9, 10, 11, 12, 13, 14, 15, 16, 34] [17, 18, 19, 20, 21, 22, 23, 24, 25, 26, 27, 28, 29, 30, 31, 32, 33] [17, 18, 19, 20, 21, 22, 23, 24, 25, 26, 27, 28, 29, 30, 31, 32, 33, 0, 1, 2, 3, 4, 5, 6, 7, 8, 9, 10, 11, 12, 13, 14, 15, 16, 34] rfl rfl (by decide) (by decide) rfl (by decide) (fun H locs hP hD hS => ?_)
  refine lv_istore hx hb d_La_law_468 hl (by decide) rfl (fun ls hl => ?_)
  have hl : lv_has ls 7 [(5, .int 0), (4, .int (nI i)), (3, .ref (a 34)), (2, .ref (a 17)), (1, .ref (a 0)), (0, .ref b)] := hl
  refine lv_aload_n hx hb d_La_law_470 rfl (lv_at hl 3 rfl) ?_
  refine lv_aload_n hx hb d_La_law_471 rfl (lv_at hl 5 rfl) ?_
  refine lv_iload hx hb d_La_law_472 (lv_at hl 1 rfl) ?_
  refine lv_iconst (v := 1) hx hb d_La_law_474 (by decide) ?_
  refine lv_iadd hx hb d_La_law_475 ?_
  have eq9 : ((nI i) + 1 : Int32) = nI (i + 1) := nI_add i 1
  refine W.eq (g2 := F0 m 476 ls [.int (nI (i + 1)), .ref b, .ref (a 17)]) (by rw [eq9]) ?_
  refine lx_ld (kx := i + 1) (v := 1) C hS E1 (by omega) d_La_law_476 ?_
  refine lv_aload_n hx hb d_La_law_477 rfl (lv_at hl 5 rfl) ?_
  refine lv_iload hx hb d_La_law_478 (lv_at hl 1 rfl) ?_
  refine lv_iconst (v := 2) hx hb d_La_law_480 (by decide) ?_
  refine lv_iadd hx hb d_La_law_481 ?_
  have eq9 : ((nI i) + 2 : Int32) = nI (i + 2) := nI_add i 2
  refine W.eq (g2 := F0 m 482 ls [.int (nI (i + 2)), .ref b, .int 1, .ref (a 17)]) (by rw [eq9]) ?_
  refine lx_ld (kx := i + 2) (v := nI lim) C hS E2 (by omega) d_La_law_482 ?_
  have M9 := c_Mo_run1 l D cI cZ cJ (a 17) (a 18) (a 19) (a 20) (a 21) (a 22) (a 23) (a 24) (a 25) (a 26) (a 27) (a 28) (a 29) (a 30) (a 31) (a 32) (a 33) S.Po S.Pa S.Pb S.Pc S.G S.O S.Bm S.sr S.sd S.Rs S.Rt S.Cs S.Ct S.As S.At S.n S.k S.ks S.kt S.th S.tl S.nx S.es S.et S.hs S.ht S.ds S.dt J lim (hJ) (htl) (hk) (hsr) (hJ0) (hn) (hlim)
  rw [hrr] at M9
  refine xi_go (w2 := lx_W cI cZ cJ a (s1_run1 S lim) (s1_run1 S lim) (vp_updL W0 0 ((tm_run tm_ts S.F S.k lim (tm_r1 S.sr, tm_c1 S.sr S.sd S.B S.n, S.At, 0, 0, 0, 0, 0)).2.2.2.2.2.1).toInt64)) (wr := lx_X cI cZ cJ a (s1_run1 S lim) ++ [lx_w cJ a (vp_updL W0 0 ((tm_run tm_ts S.F S.k lim (tm_r1 S.sr, tm_c1 S.sr S.sd S.B S.n, S.At, 0, 0, 0, 0, 0)).2.2.2.2.2.1).toInt64)]) (va_runV (As := [.int 1, .int (nI lim)]) (rest := []) (C := R_Mo) ⟨C.hx, C.hb, C.hml, C.hown, C.hg⟩ (M9 H.size) ⟨xg_B C.hg m_Mo_run.1 m_Mo_run.2.2.1 m_Mo_run.2.2.2.1 m_Mo_run.2.2.2.2 q713 rfl rfl ⟨Nat.le_of_ble_eq_true rfl, Nat.le_of_ble_eq_true rfl⟩, C.hg _ m_Mo_run.2.1, C.hg _ q715⟩ ⟨xw_blind, (va_recv (q0 := 17) C.hK.1 hP rfl rfl), xw_pre C.hK hP hD [17, 18, 19, 20, 21, 22, 23, 24, 25, 26, 27, 28, 29, 30, 31, 32, 33] (by decide) rfl⟩ rfl rfl hl.1 rfl (lv_room (Nat.le_of_ble_eq_true rfl)) d_La_law_483 ⟨hce0, hsl0⟩) hP hD hS hA [17, 18, 19, 20, 21, 22, 23, 24, 25, 26, 27, 28, 29, 30, 31, 32, 33] [0, 1, 2, 3, 4, 5, 6, 7, 8, 9, 10, 11, 12, 13, 14, 15, 16, 34] [0, 1, 2, 3, 4, 5, 6, 7, 8, 9, 10, 11, 12, 13, 14, 15, 16, 18, 19, 20, 21, 22, 23, 24, 25, 26, 27, 28, 29, 30, 31, 32, 33, 34, 17] rfl rfl (by decide) (by decide) rfl (by decide) (fun H locs hP hD hS => ?_)
  refine lv_istore hx hb d_La_law_486 hl (by decide) rfl (fun ls hl => ?_)
  have hl : lv_has ls 7 [(6, .int ((tm_run tm_ts S.F S.k lim (tm_r1 S.sr, tm_c1 S.sr S.sd S.B S.n, S.At, 0, 0, 0, 0, 0)).2.2.2.2.2.1)), (5, .int 0), (4, .int (nI i)), (3, .ref (a 34)), (2, .ref (a 17)), (1, .ref (a 0)), (0, .ref b)] := hl
  refine lv_aload_n hx hb d_La_law_488 rfl (lv_at hl 4 rfl) ?_
  refine xr_V (C := R_Mo) (As := []) (rest := []) ⟨C.hx, C.hb, C.hml, C.hown, C.hg⟩ (c_Mo_thrown l D cI cZ cJ (a 17) (a 18) (a 19) (a 20) (a 21) (a 22) (a 23) (a 24) (a 25) (a 26) (a 27) (a 28) (a 29) (a 30) (a 31) (a 32) (a 33) ((s1_run1 S lim).Po) ((s1_run1 S lim).Pa) ((s1_run1 S lim).Pb) ((s1_run1 S lim).Pc) ((s1_run1 S lim).G) ((s1_run1 S lim).O) ((s1_run1 S lim).Bm) ((s1_run1 S lim).sr) ((s1_run1 S lim).sd) (tm_jn 8 ((s1_run1 S lim).Rs) ((s1_run1 S lim).Rt)) (tm_jn 64 ((s1_run1 S lim).Cs) ((s1_run1 S lim).Ct)) (tm_tw ((s1_run1 S lim).es) ((s1_run1 S lim).et)) (tm_tw ((s1_run1 S lim).hs) ((s1_run1 S lim).ht)) (tm_tw ((s1_run1 S lim).ds) ((s1_run1 S lim).dt)) (tm_tw (nI (s1_run1 S lim).ks) (nI (s1_run1 S lim).kt)) (tm_jn 120 ((s1_run1 S lim).As) ((s1_run1 S lim).At)) ((s1_run1 S lim).n) ((s1_run1 S lim).k) 0 ((s1_run1 S lim).tl) ((s1_run1 S lim).nx)) m_Mo_thrown q628 q630 ⟨rfl, rfl⟩ ⟨Nat.le_of_ble_eq_true rfl, Nat.le_of_ble_eq_true rfl⟩ C.hK hP [17, 18, 19, 20, 21, 22, 23, 24, 25, 26, 27, 28, 29, 30, 31, 32, 33] rfl (va_recv (q0 := 17) C.hK.1 hP rfl rfl) rfl hl.1 rfl (Nat.le_of_ble_eq_true rfl) d_La_law_489 ⟨hce0, hsl0⟩ ?_
  refine lv_iload hx hb d_La_law_492 (lv_at hl 1 rfl) ?_
  refine lv_icmp_eq (tgt := 499) hx hb d_La_law_494 rfl (fun _ => ?_) (fun hz9 => absurd (by decide) hz9)
  refine lv_iload hx hb d_La_law_499 (lv_at hl 1 rfl) ?_
  refine lv_if_ne (tgt := 516) hx hb d_La_law_501 rfl (fun hz9 => absurd (by decide) hz9) (fun _ => ?_)
  refine lv_aload_n hx hb d_La_law_504 rfl (lv_at hl 3 rfl) ?_
  refine lv_iconst (v := 0) hx hb d_La_law_505 (by decide) ?_
  refine xa_jd hx hb hK hP 34 2 rfl rfl (kx := 0) (rfl) (by decide) (by decide) d_La_law_506 ?_
  refine lv_iload hx hb d_La_law_507 (lv_at hl 0 rfl) ?_
  refine lv_i2l (v := ((tm_run tm_ts S.F S.k lim (tm_r1 S.sr, tm_c1 S.sr S.sd S.B S.n, S.At, 0, 0, 0, 0, 0)).2.2.2.2.2.1).toInt64) hx hb d_La_law_509 rfl ?_
  refine lx_cmp C (rfl) d_La_law_510 ?_
  refine lv_if_eq (tgt := 516) hx hb d_La_law_511 rfl (fun _ => ?_) (fun hz9 => absurd (by decide) hz9)
  refine lv_goto (tgt := 704) hx hb d_La_law_516 rfl ?_
  exact W.widen (by omega) (by omega) (k _ H locs ls ⟨hP, hD, hS⟩ (lv_sub hl [2, 3, 4, 5, 6] rfl))

def s1_run_1 (S : lx_S) (y z : Int32) : lx_S := lx_mk S.P S.F S.B S.sr S.sd S.Rs S.Cs S.As S.Rt S.Ct S.At S.Po S.Pa S.Pb S.Pc S.G S.O S.Bm S.n S.k S.ks S.kt S.hs S.ds S.es S.xs S.ht S.dt S.et S.tl S.nx 1
set_option maxHeartbeats 4000000 in
set_option maxRecDepth 100000 in
theorem la_run_1 {p : Program} {l : Launch} {e : Env} {s : State} {m : MethodId} {args : Array Value} {below : List Frame} {meth : Method} {c : Code} {D : va_G} {cI cZ cJ : ClassId} {b L : Nat} {xs : Nat → Int32} {Q : State → Prop} (C : lx_C p l s m args c D cI cZ cJ b L xs) {a : Nat → Nat} {S : lx_S} {W0 : Nat → Int64} {H : Heap} {locs : List Loc} (X : lx_H D cI cZ cJ s a S S W0 H locs) {ls : Array Slot} {i : Nat} (hi : i + 5 ≤ L) (hl : lv_has ls 7 [(4, .int (nI i)), (3, .ref (a 34)), (2, .ref (a 17)), (1, .ref (a 0)), (0, .ref b)]) {cells slots : Nat} (hce : cells + 1 ≤ room_1.cells) (hsl : slots + 6 ≤ room_1.slots) (y z : Int32) (E1 : xs (i + 1) = y) (E2 : xs (i + 2) = z) (hbad : tm_im y = 0 ∨ tm_wi z 0 2000 = 0)
    (k : ∀ (W1 : Nat → Int64) (H1 : Heap) (locs1 : List Loc) (ls1 : Array Slot), lx_H D cI cZ cJ s a (s1_run_1 S y z) (s1_run_1 S y z) W1 H1 locs1 → lv_has ls1 7 [(4, .int (nI i)), (3, .ref (a 34)), (2, .ref (a 17)), (1, .ref (a 0)), (0, .ref b)] → W p l e room_1 s m args below meth c H1 locs1 (cells + 1) (slots + 6) Q (F0 m 704 ls1 [])) : W p l e room_1 s m args below meth c H locs cells slots Q (F0 m 451 ls []) := by
  obtain ⟨hP, hD, hS⟩ := X
  have hx := C.hx
  have hb := C.hb
  have hK := C.hK
  have hL := C.hL
  have hA : ∀ q : Nat, s.heap.size ≤ q → lx_A s q := fun _ h => h
  have hce0 : cells ≤ room_1.cells := Nat.le_of_succ_le hce
  have hsl0 : slots ≤ room_1.slots := Nat.le_trans (Nat.le_add_right _ _) hsl
  refine lv_aload_n hx hb d_La_law_451 rfl (lv_at hl 3 rfl) ?_
  refine lv_aload_n hx hb d_La_law_452 rfl (lv_at hl 4 rfl) ?_
  refine lv_iload hx hb d_La_law_453 (lv_at hl 0 rfl) ?_
  refine lv_iconst (v := 1) hx hb d_La_law_455 (by decide) ?_
  refine lv_iadd hx hb d_La_law_456 ?_
  have eq9 : ((nI i) + 1 : Int32) = nI (i + 1) := nI_add i 1
  refine W.eq (g2 := F0 m 457 ls [.int (nI (i + 1)), .ref b, .ref (a 0)]) (by rw [eq9]) ?_
  refine lx_ld (kx := i + 1) (v := y) C hS E1 (by omega) d_La_law_457 ?_
  refine lv_aload_n hx hb d_La_law_458 rfl (lv_at hl 4 rfl) ?_
  refine lv_iload hx hb d_La_law_459 (lv_at hl 0 rfl) ?_
  refine lv_iconst (v := 2) hx hb d_La_law_461 (by decide) ?_
  refine lv_iadd hx hb d_La_law_462 ?_
  have eq9 : ((nI i) + 2 : Int32) = nI (i + 2) := nI_add i 2
  refine W.eq (g2 := F0 m 463 ls [.int (nI (i + 2)), .ref b, .int y, .ref (a 0)]) (by rw [eq9]) ?_
  refine lx_ld (kx := i + 2) (v := z) C hS E2 (by omega) d_La_law_463 ?_
  refine lv_aload_n hx hb d_La_law_464 rfl (lv_at hl 1 rfl) ?_
  refine xh_go (w2 := lx_W cI cZ cJ a (s1_run_1 S y z) S W0) (wr := lx_R cI cZ cJ a S) (xh_runS (g := F0 m 465 ls [.ref (a 34), .int z, .int y, .ref (a 0)]) (As := [.ref (a 0), .int y, .int z, .ref (a 34)]) (rest := []) ⟨C.hx, C.hb, C.hml, C.hown, C.hg⟩ (c_La_run_1 l C.hLx D cI cZ cJ (a 0) (a 1) (a 2) (a 3) (a 4) (a 5) (a 6) (a 7) (a 8) (a 9) (a 10) (a 11) (a 12) (a 13) (a 14) (a 15) (a 16) S.P S.F S.B S.sr S.sd S.Rs S.Cs S.As S.Rt S.Ct S.At S.n S.k S.ks S.kt S.hs S.ds S.es S.xs S.ht S.dt S.et y z (a 34) W0 (hbad) H.size) m_La_run q430 rfl rfl ⟨Nat.le_of_ble_eq_true rfl, Nat.le_of_ble_eq_true rfl⟩ ⟨xh_blind, xh_pre C.hK (lx_hT C.hT hS) C.hV hP hD [0, 1, 2, 3, 4, 5, 6, 7, 8, 9, 10, 11, 12, 13, 14, 15, 16, 34] (by decide) rfl⟩ rfl rfl hl.1 rfl (lv_room (Nat.le_of_ble_eq_true rfl)) d_La_law_465 ⟨hce, hsl⟩) hP hD hS hA [0, 1, 2, 3, 4, 5, 6, 7, 8, 9, 10, 11, 12, 13, 14, 15, 16, 34] [17, 18, 19, 20, 21, 22, 23, 24, 25, 26, 27, 28, 29, 30, 31, 32, 33] [17, 18, 19, 20, 21, 22, 23, 24, 25, 26, 27, 28, 29, 30, 31, 32, 33, 0, 1, 2, 3, 4, 5, 6, 7, 8, 9, 10, 11, 12, 13, 14, 15, 16, 34] rfl rfl (by decide) (by decide) rfl (by decide) (fun H locs hP hD hS => ?_)
  refine lv_istore hx hb d_La_law_468 hl (by decide) rfl (fun ls hl => ?_)
  have hl : lv_has ls 7 [(5, .int 1), (4, .int (nI i)), (3, .ref (a 34)), (2, .ref (a 17)), (1, .ref (a 0)), (0, .ref b)] := hl
  refine lv_aload_n hx hb d_La_law_470 rfl (lv_at hl 3 rfl) ?_
  refine lv_aload_n hx hb d_La_law_471 rfl (lv_at hl 5 rfl) ?_
  refine lv_iload hx hb d_La_law_472 (lv_at hl 1 rfl) ?_
  refine lv_iconst (v := 1) hx hb d_La_law_474 (by decide) ?_
  refine lv_iadd hx hb d_La_law_475 ?_
  have eq9 : ((nI i) + 1 : Int32) = nI (i + 1) := nI_add i 1
  refine W.eq (g2 := F0 m 476 ls [.int (nI (i + 1)), .ref b, .ref (a 17)]) (by rw [eq9]) ?_
  refine lx_ld (kx := i + 1) (v := y) C hS E1 (by omega) d_La_law_476 ?_
  refine lv_aload_n hx hb d_La_law_477 rfl (lv_at hl 5 rfl) ?_
  refine lv_iload hx hb d_La_law_478 (lv_at hl 1 rfl) ?_
  refine lv_iconst (v := 2) hx hb d_La_law_480 (by decide) ?_
  refine lv_iadd hx hb d_La_law_481 ?_
  have eq9 : ((nI i) + 2 : Int32) = nI (i + 2) := nI_add i 2
  refine W.eq (g2 := F0 m 482 ls [.int (nI (i + 2)), .ref b, .int y, .ref (a 17)]) (by rw [eq9]) ?_
  refine lx_ld (kx := i + 2) (v := z) C hS E2 (by omega) d_La_law_482 ?_
  refine xi_go (w2 := lx_W cI cZ cJ a (s1_run_1 S y z) (s1_run_1 S y z) W0) (wr := lx_X cI cZ cJ a (s1_run_1 S y z) ++ [lx_w cJ a W0]) (va_runV (As := [.int y, .int z]) (rest := []) (C := R_Mo) ⟨C.hx, C.hb, C.hml, C.hown, C.hg⟩ (c_Mo_run_1 l D cI cZ cJ (a 17) (a 18) (a 19) (a 20) (a 21) (a 22) (a 23) (a 24) (a 25) (a 26) (a 27) (a 28) (a 29) (a 30) (a 31) (a 32) (a 33) S.Po S.Pa S.Pb S.Pc S.G S.O S.Bm S.sr S.sd S.Rs S.Rt S.Cs S.Ct S.As S.At S.n S.k S.ks S.kt S.th S.tl S.nx S.es S.et S.hs S.ht S.ds S.dt y z (by rw [← tm_im_eq]; exact hbad) H.size) ⟨xg_B C.hg m_Mo_run.1 m_Mo_run.2.2.1 m_Mo_run.2.2.2.1 m_Mo_run.2.2.2.2 q713 rfl rfl ⟨Nat.le_of_ble_eq_true rfl, Nat.le_of_ble_eq_true rfl⟩, C.hg _ m_Mo_run.2.1, C.hg _ q715⟩ ⟨xw_blind, (va_recv (q0 := 17) C.hK.1 hP rfl rfl), xw_pre C.hK hP hD [17, 18, 19, 20, 21, 22, 23, 24, 25, 26, 27, 28, 29, 30, 31, 32, 33] (by decide) rfl⟩ rfl rfl hl.1 rfl (lv_room (Nat.le_of_ble_eq_true rfl)) d_La_law_483 ⟨hce, hsl⟩) hP hD hS hA [17, 18, 19, 20, 21, 22, 23, 24, 25, 26, 27, 28, 29, 30, 31, 32, 33] [0, 1, 2, 3, 4, 5, 6, 7, 8, 9, 10, 11, 12, 13, 14, 15, 16, 34] [0, 1, 2, 3, 4, 5, 6, 7, 8, 9, 10, 11, 12, 13, 14, 15, 16, 18, 19, 20, 21, 22, 23, 24, 25, 26, 27, 28, 29, 30, 31, 32, 33, 34, 17] rfl rfl (by decide) (by decide) rfl (by decide) (fun H locs hP hD hS => ?_)
  refine lv_istore hx hb d_La_law_486 hl (by decide) rfl (fun ls hl => ?_)
  have hl : lv_has ls 7 [(6, .int 0), (5, .int 1), (4, .int (nI i)), (3, .ref (a 34)), (2, .ref (a 17)), (1, .ref (a 0)), (0, .ref b)] := hl
  refine lv_aload_n hx hb d_La_law_488 rfl (lv_at hl 4 rfl) ?_
  refine xr_V (C := R_Mo) (As := []) (rest := []) ⟨C.hx, C.hb, C.hml, C.hown, C.hg⟩ (c_Mo_thrown l D cI cZ cJ (a 17) (a 18) (a 19) (a 20) (a 21) (a 22) (a 23) (a 24) (a 25) (a 26) (a 27) (a 28) (a 29) (a 30) (a 31) (a 32) (a 33) ((s1_run_1 S y z).Po) ((s1_run_1 S y z).Pa) ((s1_run_1 S y z).Pb) ((s1_run_1 S y z).Pc) ((s1_run_1 S y z).G) ((s1_run_1 S y z).O) ((s1_run_1 S y z).Bm) ((s1_run_1 S y z).sr) ((s1_run_1 S y z).sd) (tm_jn 8 ((s1_run_1 S y z).Rs) ((s1_run_1 S y z).Rt)) (tm_jn 64 ((s1_run_1 S y z).Cs) ((s1_run_1 S y z).Ct)) (tm_tw ((s1_run_1 S y z).es) ((s1_run_1 S y z).et)) (tm_tw ((s1_run_1 S y z).hs) ((s1_run_1 S y z).ht)) (tm_tw ((s1_run_1 S y z).ds) ((s1_run_1 S y z).dt)) (tm_tw (nI (s1_run_1 S y z).ks) (nI (s1_run_1 S y z).kt)) (tm_jn 120 ((s1_run_1 S y z).As) ((s1_run_1 S y z).At)) ((s1_run_1 S y z).n) ((s1_run_1 S y z).k) 1 ((s1_run_1 S y z).tl) ((s1_run_1 S y z).nx)) m_Mo_thrown q628 q630 ⟨rfl, rfl⟩ ⟨Nat.le_of_ble_eq_true rfl, Nat.le_of_ble_eq_true rfl⟩ C.hK hP [17, 18, 19, 20, 21, 22, 23, 24, 25, 26, 27, 28, 29, 30, 31, 32, 33] rfl (va_recv (q0 := 17) C.hK.1 hP rfl rfl) rfl hl.1 rfl (Nat.le_of_ble_eq_true rfl) d_La_law_489 ⟨hce, hsl⟩ ?_
  refine lv_iload hx hb d_La_law_492 (lv_at hl 1 rfl) ?_
  refine lv_icmp_eq (tgt := 499) hx hb d_La_law_494 rfl (fun _ => ?_) (fun hz9 => absurd (by decide) hz9)
  refine lv_iload hx hb d_La_law_499 (lv_at hl 1 rfl) ?_
  refine lv_if_ne (tgt := 516) hx hb d_La_law_501 rfl (fun _ => ?_) (fun hz9 => absurd hz9 (by decide))
  refine lv_goto (tgt := 704) hx hb d_La_law_516 rfl ?_
  exact W.widen (by omega) (by omega) (k _ H locs ls ⟨hP, hD, hS⟩ (lv_sub hl [2, 3, 4, 5, 6] rfl))

def s1_run_2 (S : lx_S) (z : Int32) : lx_S := lx_mk S.P S.F S.B S.sr S.sd S.Rs S.Cs S.As S.Rt S.Ct S.At S.Po S.Pa S.Pb S.Pc S.G S.O S.Bm S.n S.k S.ks S.kt S.hs S.ds S.es S.xs S.ht S.dt S.et S.tl S.nx 2
set_option maxHeartbeats 4000000 in
set_option maxRecDepth 100000 in
theorem la_run_2 {p : Program} {l : Launch} {e : Env} {s : State} {m : MethodId} {args : Array Value} {below : List Frame} {meth : Method} {c : Code} {D : va_G} {cI cZ cJ : ClassId} {b L : Nat} {xs : Nat → Int32} {Q : State → Prop} (C : lx_C p l s m args c D cI cZ cJ b L xs) {a : Nat → Nat} {S : lx_S} {W0 : Nat → Int64} {H : Heap} {locs : List Loc} (X : lx_H D cI cZ cJ s a S S W0 H locs) {ls : Array Slot} {i : Nat} (hi : i + 5 ≤ L) (hl : lv_has ls 7 [(4, .int (nI i)), (3, .ref (a 34)), (2, .ref (a 17)), (1, .ref (a 0)), (0, .ref b)]) {cells slots : Nat} (hce : cells + 1 ≤ room_1.cells) (hsl : slots + 6 ≤ room_1.slots) (z : Int32) (E1 : xs (i + 1) = 1) (E2 : xs (i + 2) = z) (g1 : ¬ tm_wi z 0 2000 = 0) (g2 : S.k = 0) (g3 : S.tl = 0)
    (k : ∀ (W1 : Nat → Int64) (H1 : Heap) (locs1 : List Loc) (ls1 : Array Slot), lx_H D cI cZ cJ s a (s1_run_2 S z) (s1_run_2 S z) W1 H1 locs1 → lv_has ls1 7 [(4, .int (nI i)), (3, .ref (a 34)), (2, .ref (a 17)), (1, .ref (a 0)), (0, .ref b)] → W p l e room_1 s m args below meth c H1 locs1 (cells + 1) (slots + 6) Q (F0 m 704 ls1 [])) : W p l e room_1 s m args below meth c H locs cells slots Q (F0 m 451 ls []) := by
  obtain ⟨hP, hD, hS⟩ := X
  have hx := C.hx
  have hb := C.hb
  have hK := C.hK
  have hL := C.hL
  have hA : ∀ q : Nat, s.heap.size ≤ q → lx_A s q := fun _ h => h
  have hce0 : cells ≤ room_1.cells := Nat.le_of_succ_le hce
  have hsl0 : slots ≤ room_1.slots := Nat.le_trans (Nat.le_add_right _ _) hsl
  refine lv_aload_n hx hb d_La_law_451 rfl (lv_at hl 3 rfl) ?_
  refine lv_aload_n hx hb d_La_law_452 rfl (lv_at hl 4 rfl) ?_
  refine lv_iload hx hb d_La_law_453 (lv_at hl 0 rfl) ?_
  refine lv_iconst (v := 1) hx hb d_La_law_455 (by decide) ?_
  refine lv_iadd hx hb d_La_law_456 ?_
  have eq9 : ((nI i) + 1 : Int32) = nI (i + 1) := nI_add i 1
  refine W.eq (g2 := F0 m 457 ls [.int (nI (i + 1)), .ref b, .ref (a 0)]) (by rw [eq9]) ?_
  refine lx_ld (kx := i + 1) (v := 1) C hS E1 (by omega) d_La_law_457 ?_
  refine lv_aload_n hx hb d_La_law_458 rfl (lv_at hl 4 rfl) ?_
  refine lv_iload hx hb d_La_law_459 (lv_at hl 0 rfl) ?_
  refine lv_iconst (v := 2) hx hb d_La_law_461 (by decide) ?_
  refine lv_iadd hx hb d_La_law_462 ?_
  have eq9 : ((nI i) + 2 : Int32) = nI (i + 2) := nI_add i 2
  refine W.eq (g2 := F0 m 463 ls [.int (nI (i + 2)), .ref b, .int 1, .ref (a 0)]) (by rw [eq9]) ?_
  refine lx_ld (kx := i + 2) (v := z) C hS E2 (by omega) d_La_law_463 ?_
  refine lv_aload_n hx hb d_La_law_464 rfl (lv_at hl 1 rfl) ?_
  refine xh_go (w2 := lx_W cI cZ cJ a (s1_run_2 S z) S W0) (wr := lx_R cI cZ cJ a S) (xh_runS (g := F0 m 465 ls [.ref (a 34), .int z, .int 1, .ref (a 0)]) (As := [.ref (a 0), .int 1, .int z, .ref (a 34)]) (rest := []) ⟨C.hx, C.hb, C.hml, C.hown, C.hg⟩ (c_La_run_2 l C.hLx D cI cZ cJ (a 0) (a 1) (a 2) (a 3) (a 4) (a 5) (a 6) (a 7) (a 8) (a 9) (a 10) (a 11) (a 12) (a 13) (a 14) (a 15) (a 16) S.P S.F S.B S.sr S.sd S.Rs S.Cs S.As S.Rt S.Ct S.At S.n S.k S.ks S.kt S.hs S.ds S.es S.xs S.ht S.dt S.et z (a 34) W0 (g1) (g2) H.size) m_La_run q430 rfl rfl ⟨Nat.le_of_ble_eq_true rfl, Nat.le_of_ble_eq_true rfl⟩ ⟨xh_blind, xh_pre C.hK (lx_hT C.hT hS) C.hV hP hD [0, 1, 2, 3, 4, 5, 6, 7, 8, 9, 10, 11, 12, 13, 14, 15, 16, 34] (by decide) rfl⟩ rfl rfl hl.1 rfl (lv_room (Nat.le_of_ble_eq_true rfl)) d_La_law_465 ⟨hce, hsl⟩) hP hD hS hA [0, 1, 2, 3, 4, 5, 6, 7, 8, 9, 10, 11, 12, 13, 14, 15, 16, 34] [17, 18, 19, 20, 21, 22, 23, 24, 25, 26, 27, 28, 29, 30, 31, 32, 33] [17, 18, 19, 20, 21, 22, 23, 24, 25, 26, 27, 28, 29, 30, 31, 32, 33, 0, 1, 2, 3, 4, 5, 6, 7, 8, 9, 10, 11, 12, 13, 14, 15, 16, 34] rfl rfl (by decide) (by decide) rfl (by decide) (fun H locs hP hD hS => ?_)
  refine lv_istore hx hb d_La_law_468 hl (by decide) rfl (fun ls hl => ?_)
  have hl : lv_has ls 7 [(5, .int 2), (4, .int (nI i)), (3, .ref (a 34)), (2, .ref (a 17)), (1, .ref (a 0)), (0, .ref b)] := hl
  refine lv_aload_n hx hb d_La_law_470 rfl (lv_at hl 3 rfl) ?_
  refine lv_aload_n hx hb d_La_law_471 rfl (lv_at hl 5 rfl) ?_
  refine lv_iload hx hb d_La_law_472 (lv_at hl 1 rfl) ?_
  refine lv_iconst (v := 1) hx hb d_La_law_474 (by decide) ?_
  refine lv_iadd hx hb d_La_law_475 ?_
  have eq9 : ((nI i) + 1 : Int32) = nI (i + 1) := nI_add i 1
  refine W.eq (g2 := F0 m 476 ls [.int (nI (i + 1)), .ref b, .ref (a 17)]) (by rw [eq9]) ?_
  refine lx_ld (kx := i + 1) (v := 1) C hS E1 (by omega) d_La_law_476 ?_
  refine lv_aload_n hx hb d_La_law_477 rfl (lv_at hl 5 rfl) ?_
  refine lv_iload hx hb d_La_law_478 (lv_at hl 1 rfl) ?_
  refine lv_iconst (v := 2) hx hb d_La_law_480 (by decide) ?_
  refine lv_iadd hx hb d_La_law_481 ?_
  have eq9 : ((nI i) + 2 : Int32) = nI (i + 2) := nI_add i 2
  refine W.eq (g2 := F0 m 482 ls [.int (nI (i + 2)), .ref b, .int 1, .ref (a 17)]) (by rw [eq9]) ?_
  refine lx_ld (kx := i + 2) (v := z) C hS E2 (by omega) d_La_law_482 ?_
  refine xi_go (w2 := lx_W cI cZ cJ a (s1_run_2 S z) (s1_run_2 S z) W0) (wr := lx_X cI cZ cJ a (s1_run_2 S z) ++ [lx_w cJ a W0]) (va_runV (As := [.int 1, .int z]) (rest := []) (C := R_Mo) ⟨C.hx, C.hb, C.hml, C.hown, C.hg⟩ (c_Mo_run_2 l D cI cZ cJ (a 17) (a 18) (a 19) (a 20) (a 21) (a 22) (a 23) (a 24) (a 25) (a 26) (a 27) (a 28) (a 29) (a 30) (a 31) (a 32) (a 33) S.Po S.Pa S.Pb S.Pc S.G S.O S.Bm S.sr S.sd S.Rs S.Rt S.Cs S.Ct S.As S.At S.n S.k S.ks S.kt S.th S.tl S.nx S.es S.et S.hs S.ht S.ds S.dt z (g1) (g3) H.size) ⟨xg_B C.hg m_Mo_run.1 m_Mo_run.2.2.1 m_Mo_run.2.2.2.1 m_Mo_run.2.2.2.2 q713 rfl rfl ⟨Nat.le_of_ble_eq_true rfl, Nat.le_of_ble_eq_true rfl⟩, C.hg _ m_Mo_run.2.1, C.hg _ q715⟩ ⟨xw_blind, (va_recv (q0 := 17) C.hK.1 hP rfl rfl), xw_pre C.hK hP hD [17, 18, 19, 20, 21, 22, 23, 24, 25, 26, 27, 28, 29, 30, 31, 32, 33] (by decide) rfl⟩ rfl rfl hl.1 rfl (lv_room (Nat.le_of_ble_eq_true rfl)) d_La_law_483 ⟨hce, hsl⟩) hP hD hS hA [17, 18, 19, 20, 21, 22, 23, 24, 25, 26, 27, 28, 29, 30, 31, 32, 33] [0, 1, 2, 3, 4, 5, 6, 7, 8, 9, 10, 11, 12, 13, 14, 15, 16, 34] [0, 1, 2, 3, 4, 5, 6, 7, 8, 9, 10, 11, 12, 13, 14, 15, 16, 18, 19, 20, 21, 22, 23, 24, 25, 26, 27, 28, 29, 30, 31, 32, 33, 34, 17] rfl rfl (by decide) (by decide) rfl (by decide) (fun H locs hP hD hS => ?_)
  refine lv_istore hx hb d_La_law_486 hl (by decide) rfl (fun ls hl => ?_)
  have hl : lv_has ls 7 [(6, .int 0), (5, .int 2), (4, .int (nI i)), (3, .ref (a 34)), (2, .ref (a 17)), (1, .ref (a 0)), (0, .ref b)] := hl
  refine lv_aload_n hx hb d_La_law_488 rfl (lv_at hl 4 rfl) ?_
  refine xr_V (C := R_Mo) (As := []) (rest := []) ⟨C.hx, C.hb, C.hml, C.hown, C.hg⟩ (c_Mo_thrown l D cI cZ cJ (a 17) (a 18) (a 19) (a 20) (a 21) (a 22) (a 23) (a 24) (a 25) (a 26) (a 27) (a 28) (a 29) (a 30) (a 31) (a 32) (a 33) ((s1_run_2 S z).Po) ((s1_run_2 S z).Pa) ((s1_run_2 S z).Pb) ((s1_run_2 S z).Pc) ((s1_run_2 S z).G) ((s1_run_2 S z).O) ((s1_run_2 S z).Bm) ((s1_run_2 S z).sr) ((s1_run_2 S z).sd) (tm_jn 8 ((s1_run_2 S z).Rs) ((s1_run_2 S z).Rt)) (tm_jn 64 ((s1_run_2 S z).Cs) ((s1_run_2 S z).Ct)) (tm_tw ((s1_run_2 S z).es) ((s1_run_2 S z).et)) (tm_tw ((s1_run_2 S z).hs) ((s1_run_2 S z).ht)) (tm_tw ((s1_run_2 S z).ds) ((s1_run_2 S z).dt)) (tm_tw (nI (s1_run_2 S z).ks) (nI (s1_run_2 S z).kt)) (tm_jn 120 ((s1_run_2 S z).As) ((s1_run_2 S z).At)) ((s1_run_2 S z).n) ((s1_run_2 S z).k) 2 ((s1_run_2 S z).tl) ((s1_run_2 S z).nx)) m_Mo_thrown q628 q630 ⟨rfl, rfl⟩ ⟨Nat.le_of_ble_eq_true rfl, Nat.le_of_ble_eq_true rfl⟩ C.hK hP [17, 18, 19, 20, 21, 22, 23, 24, 25, 26, 27, 28, 29, 30, 31, 32, 33] rfl (va_recv (q0 := 17) C.hK.1 hP rfl rfl) rfl hl.1 rfl (Nat.le_of_ble_eq_true rfl) d_La_law_489 ⟨hce, hsl⟩ ?_
  refine lv_iload hx hb d_La_law_492 (lv_at hl 1 rfl) ?_
  refine lv_icmp_eq (tgt := 499) hx hb d_La_law_494 rfl (fun _ => ?_) (fun hz9 => absurd (by decide) hz9)
  refine lv_iload hx hb d_La_law_499 (lv_at hl 1 rfl) ?_
  refine lv_if_ne (tgt := 516) hx hb d_La_law_501 rfl (fun _ => ?_) (fun hz9 => absurd hz9 (by decide))
  refine lv_goto (tgt := 704) hx hb d_La_law_516 rfl ?_
  exact W.widen (by omega) (by omega) (k _ H locs ls ⟨hP, hD, hS⟩ (lv_sub hl [2, 3, 4, 5, 6] rfl))
