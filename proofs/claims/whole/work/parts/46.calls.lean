/-! THE LAW: its calls, case by case (printed by wip/whole/gen/c43.py) -/
def s1_result0 (S : lx_S) (q : Nat) : lx_S := lx_mk S.P S.F S.B S.sr S.sd S.Rs S.Cs S.As S.Rt S.Ct S.At S.Po S.Pa S.Pb S.Pc S.G S.O S.Bm S.n S.k S.ks S.kt S.hs S.ds S.es S.xs S.ht S.dt S.et S.tl S.nx 0
set_option maxHeartbeats 4000000 in
set_option maxRecDepth 100000 in
theorem la_result0 {p : Program} {l : Launch} {e : Env} {s : State} {m : MethodId} {args : Array Value} {below : List Frame} {meth : Method} {c : Code} {D : va_G} {cI cZ cJ : ClassId} {b L : Nat} {xs : Nat → Int32} {Q : State → Prop} (C : lx_C p l s m args c D cI cZ cJ b L xs) {a : Nat → Nat} {S : lx_S} {W0 : Nat → Int64} {H : Heap} {locs : List Loc} (X : lx_H D cI cZ cJ s a S S W0 H locs) {ls : Array Slot} {i : Nat} (hi : i + 5 ≤ L) (hl : lv_has ls 7 [(4, .int (nI i)), (3, .ref (a 34)), (2, .ref (a 17)), (1, .ref (a 0)), (0, .ref b)]) {cells slots : Nat} (hce : cells + 1 ≤ room_1.cells) (hsl : slots + 6 ≤ room_1.slots) (q : Nat) (E1 : xs (i + 1) = 0) (E2 : xs (i + 2) = nI q) (hq : q ≤ 11)
    (k : ∀ (W1 : Nat → Int64) (H1 : Heap) (locs1 : List Loc) (ls1 : Array Slot), lx_H D cI cZ cJ s a (s1_result0 S q) (s1_result0 S q) W1 H1 locs1 → lv_has ls1 7 [(4, .int (nI i)), (3, .ref (a 34)), (2, .ref (a 17)), (1, .ref (a 0)), (0, .ref b)] → W p l e room_1 s m args below meth c H1 locs1 (cells + 1) (slots + 6) Q (F0 m 704 ls1 [])) : W p l e room_1 s m args below meth c H locs cells slots Q (F0 m 519 ls []) := by
  obtain ⟨hP, hD, hS⟩ := X
  have hx := C.hx
  have hb := C.hb
  have hK := C.hK
  have hL := C.hL
  have hA : ∀ q : Nat, s.heap.size ≤ q → lx_A s q := fun _ h => h
  have hce0 : cells ≤ room_1.cells := Nat.le_of_succ_le hce
  have hsl0 : slots ≤ room_1.slots := Nat.le_trans (Nat.le_add_right _ _) hsl
  refine lv_aload_n hx hb d_La_law_519 rfl (lv_at hl 3 rfl) ?_
  refine lv_aload_n hx hb d_La_law_520 rfl (lv_at hl 4 rfl) ?_
  refine lv_iload hx hb d_La_law_521 (lv_at hl 0 rfl) ?_
  refine lv_iconst (v := 1) hx hb d_La_law_523 (by decide) ?_
  refine lv_iadd hx hb d_La_law_524 ?_
  have eq9 : ((nI i) + 1 : Int32) = nI (i + 1) := nI_add i 1
  refine W.eq (g2 := F0 m 525 ls [.int (nI (i + 1)), .ref b, .ref (a 0)]) (by rw [eq9]) ?_
  refine lx_ld (kx := i + 1) (v := 0) C hS E1 (by omega) d_La_law_525 ?_
  refine lv_aload_n hx hb d_La_law_526 rfl (lv_at hl 4 rfl) ?_
  refine lv_iload hx hb d_La_law_527 (lv_at hl 0 rfl) ?_
  refine lv_iconst (v := 2) hx hb d_La_law_529 (by decide) ?_
  refine lv_iadd hx hb d_La_law_530 ?_
  have eq9 : ((nI i) + 2 : Int32) = nI (i + 2) := nI_add i 2
  refine W.eq (g2 := F0 m 531 ls [.int (nI (i + 2)), .ref b, .int 0, .ref (a 0)]) (by rw [eq9]) ?_
  refine lx_ld (kx := i + 2) (v := nI q) C hS E2 (by omega) d_La_law_531 ?_
  refine xr_V (C := R_TM) (As := [.int 0, .int (nI q)]) (rest := []) ⟨C.hx, C.hb, C.hml, C.hown, C.hg⟩ (c_TM_result0 l D cI cZ cJ (a 0) (a 1) (a 2) (a 3) (a 4) (a 5) (a 6) (a 7) (a 8) (a 9) (a 10) (a 11) (a 12) (a 13) (a 14) (a 15) (a 16) S.P S.F S.B S.sr S.sd S.Rs S.Cs S.As S.Rt S.Ct S.At S.n S.k S.ks S.kt S.hs S.ds S.es S.xs S.ht S.dt S.et (nI q)) m_TM_result q263 q265 ⟨rfl, rfl⟩ ⟨Nat.le_of_ble_eq_true rfl, Nat.le_of_ble_eq_true rfl⟩ C.hK hP [0, 1, 2, 3, 4, 5, 6, 7, 8, 9, 10, 11, 12, 13, 14, 15, 16] rfl (va_recv (q0 := 0) C.hK.1 hP rfl rfl) rfl hl.1 rfl (Nat.le_of_ble_eq_true rfl) d_La_law_532 ⟨hce0, hsl0⟩ ?_
  refine lv_aload_n hx hb d_La_law_535 rfl (lv_at hl 2 rfl) ?_
  refine lv_aload_n hx hb d_La_law_536 rfl (lv_at hl 4 rfl) ?_
  refine lv_iload hx hb d_La_law_537 (lv_at hl 0 rfl) ?_
  refine lv_iconst (v := 1) hx hb d_La_law_539 (by decide) ?_
  refine lv_iadd hx hb d_La_law_540 ?_
  have eq9 : ((nI i) + 1 : Int32) = nI (i + 1) := nI_add i 1
  refine W.eq (g2 := F0 m 541 ls [.int (nI (i + 1)), .ref b, .ref (a 17), .int (if tm_wi (nI q) 0 7 = 0 then tm_q4 (nI q) S.es S.hs S.ds (nI S.ks) else S.Rs (nI q).toNatClampNeg)]) (by rw [eq9]) ?_
  refine lx_ld (kx := i + 1) (v := 0) C hS E1 (by omega) d_La_law_541 ?_
  refine lv_aload_n hx hb d_La_law_542 rfl (lv_at hl 4 rfl) ?_
  refine lv_iload hx hb d_La_law_543 (lv_at hl 0 rfl) ?_
  refine lv_iconst (v := 2) hx hb d_La_law_545 (by decide) ?_
  refine lv_iadd hx hb d_La_law_546 ?_
  have eq9 : ((nI i) + 2 : Int32) = nI (i + 2) := nI_add i 2
  refine W.eq (g2 := F0 m 547 ls [.int (nI (i + 2)), .ref b, .int 0, .ref (a 17), .int (if tm_wi (nI q) 0 7 = 0 then tm_q4 (nI q) S.es S.hs S.ds (nI S.ks) else S.Rs (nI q).toNatClampNeg)]) (by rw [eq9]) ?_
  refine lx_ld (kx := i + 2) (v := nI q) C hS E2 (by omega) d_La_law_547 ?_
  refine xi_go (w2 := lx_W cI cZ cJ a (s1_result0 S q) (s1_result0 S q) W0) (wr := lx_X cI cZ cJ a (s1_result0 S q) ++ [lx_w cJ a W0]) (va_runV (As := [.int 0, .int (nI q)]) (rest := [.int (if tm_wi (nI q) 0 7 = 0 then tm_q4 (nI q) S.es S.hs S.ds (nI S.ks) else S.Rs (nI q).toNatClampNeg)]) (C := R_Mo) ⟨C.hx, C.hb, C.hml, C.hown, C.hg⟩ (c_Mo_result0 l D cI cZ cJ (a 17) (a 18) (a 19) (a 20) (a 21) (a 22) (a 23) (a 24) (a 25) (a 26) (a 27) (a 28) (a 29) (a 30) (a 31) (a 32) (a 33) S.Po S.Pa S.Pb S.Pc S.G S.O S.Bm S.sr S.sd (tm_jn 8 S.Rs S.Rt) (tm_jn 64 S.Cs S.Ct) (tm_tw S.es S.et) (tm_tw S.hs S.ht) (tm_tw S.ds S.dt) (tm_tw (nI S.ks) (nI S.kt)) (tm_jn 120 S.As S.At) S.n S.k S.th S.tl S.nx q (hq) H.size) ⟨xg_B C.hg m_Mo_result.1 m_Mo_result.2.2.1 m_Mo_result.2.2.2.1 m_Mo_result.2.2.2.2 q744 rfl rfl ⟨Nat.le_of_ble_eq_true rfl, Nat.le_of_ble_eq_true rfl⟩, C.hg _ m_Mo_result.2.1, C.hg _ q746⟩ ⟨xw_blind, (va_recv (q0 := 17) C.hK.1 hP rfl rfl), xw_pre C.hK hP hD [17, 18, 19, 20, 21, 22, 23, 24, 25, 26, 27, 28, 29, 30, 31, 32, 33] (by decide) rfl⟩ rfl rfl hl.1 rfl (lv_room (Nat.le_of_ble_eq_true rfl)) d_La_law_548 ⟨hce0, hsl0⟩) hP hD hS hA [17, 18, 19, 20, 21, 22, 23, 24, 25, 26, 27, 28, 29, 30, 31, 32, 33] [0, 1, 2, 3, 4, 5, 6, 7, 8, 9, 10, 11, 12, 13, 14, 15, 16, 34] [0, 1, 2, 3, 4, 5, 6, 7, 8, 9, 10, 11, 12, 13, 14, 15, 16, 18, 19, 20, 21, 22, 23, 24, 25, 26, 27, 28, 29, 30, 31, 32, 33, 34, 17] rfl rfl (by decide) (by decide) rfl (by decide) (fun H locs hP hD hS => ?_)
  refine lv_icmp_eq (tgt := 704) hx hb d_La_law_551 rfl (fun _ => ?_) (fun hz9 => absurd (lx_res0 hq) hz9)
  exact W.widen (by omega) (by omega) (k _ H locs ls ⟨hP, hD, hS⟩ (lv_sub hl [0, 1, 2, 3, 4] rfl))

def s1_result0_x (S : lx_S) (z : Int32) : lx_S := lx_mk S.P S.F S.B S.sr S.sd S.Rs S.Cs S.As S.Rt S.Ct S.At S.Po S.Pa S.Pb S.Pc S.G S.O S.Bm S.n S.k S.ks S.kt S.hs S.ds S.es S.xs S.ht S.dt S.et S.tl S.nx 0
set_option maxHeartbeats 4000000 in
set_option maxRecDepth 100000 in
theorem la_result0_x {p : Program} {l : Launch} {e : Env} {s : State} {m : MethodId} {args : Array Value} {below : List Frame} {meth : Method} {c : Code} {D : va_G} {cI cZ cJ : ClassId} {b L : Nat} {xs : Nat → Int32} {Q : State → Prop} (C : lx_C p l s m args c D cI cZ cJ b L xs) {a : Nat → Nat} {S : lx_S} {W0 : Nat → Int64} {H : Heap} {locs : List Loc} (X : lx_H D cI cZ cJ s a S S W0 H locs) {ls : Array Slot} {i : Nat} (hi : i + 5 ≤ L) (hl : lv_has ls 7 [(4, .int (nI i)), (3, .ref (a 34)), (2, .ref (a 17)), (1, .ref (a 0)), (0, .ref b)]) {cells slots : Nat} (hce : cells + 1 ≤ room_1.cells) (hsl : slots + 6 ≤ room_1.slots) (z : Int32) (E1 : xs (i + 1) = 0) (E2 : xs (i + 2) = z) (hz : tm_wi z 0 11 = 0)
    (k : ∀ (W1 : Nat → Int64) (H1 : Heap) (locs1 : List Loc) (ls1 : Array Slot), lx_H D cI cZ cJ s a (s1_result0_x S z) (s1_result0_x S z) W1 H1 locs1 → lv_has ls1 7 [(4, .int (nI i)), (3, .ref (a 34)), (2, .ref (a 17)), (1, .ref (a 0)), (0, .ref b)] → W p l e room_1 s m args below meth c H1 locs1 (cells + 1) (slots + 6) Q (F0 m 704 ls1 [])) : W p l e room_1 s m args below meth c H locs cells slots Q (F0 m 519 ls []) := by
  obtain ⟨hP, hD, hS⟩ := X
  have hx := C.hx
  have hb := C.hb
  have hK := C.hK
  have hL := C.hL
  have hA : ∀ q : Nat, s.heap.size ≤ q → lx_A s q := fun _ h => h
  have hce0 : cells ≤ room_1.cells := Nat.le_of_succ_le hce
  have hsl0 : slots ≤ room_1.slots := Nat.le_trans (Nat.le_add_right _ _) hsl
  refine lv_aload_n hx hb d_La_law_519 rfl (lv_at hl 3 rfl) ?_
  refine lv_aload_n hx hb d_La_law_520 rfl (lv_at hl 4 rfl) ?_
  refine lv_iload hx hb d_La_law_521 (lv_at hl 0 rfl) ?_
  refine lv_iconst (v := 1) hx hb d_La_law_523 (by decide) ?_
  refine lv_iadd hx hb d_La_law_524 ?_
  have eq9 : ((nI i) + 1 : Int32) = nI (i + 1) := nI_add i 1
  refine W.eq (g2 := F0 m 525 ls [.int (nI (i + 1)), .ref b, .ref (a 0)]) (by rw [eq9]) ?_
  refine lx_ld (kx := i + 1) (v := 0) C hS E1 (by omega) d_La_law_525 ?_
  refine lv_aload_n hx hb d_La_law_526 rfl (lv_at hl 4 rfl) ?_
  refine lv_iload hx hb d_La_law_527 (lv_at hl 0 rfl) ?_
  refine lv_iconst (v := 2) hx hb d_La_law_529 (by decide) ?_
  refine lv_iadd hx hb d_La_law_530 ?_
  have eq9 : ((nI i) + 2 : Int32) = nI (i + 2) := nI_add i 2
  refine W.eq (g2 := F0 m 531 ls [.int (nI (i + 2)), .ref b, .int 0, .ref (a 0)]) (by rw [eq9]) ?_
  refine lx_ld (kx := i + 2) (v := z) C hS E2 (by omega) d_La_law_531 ?_
  refine xr_V (C := R_TM) (As := [.int 0, .int z]) (rest := []) ⟨C.hx, C.hb, C.hml, C.hown, C.hg⟩ (c_TM_result0 l D cI cZ cJ (a 0) (a 1) (a 2) (a 3) (a 4) (a 5) (a 6) (a 7) (a 8) (a 9) (a 10) (a 11) (a 12) (a 13) (a 14) (a 15) (a 16) S.P S.F S.B S.sr S.sd S.Rs S.Cs S.As S.Rt S.Ct S.At S.n S.k S.ks S.kt S.hs S.ds S.es S.xs S.ht S.dt S.et z) m_TM_result q263 q265 ⟨rfl, rfl⟩ ⟨Nat.le_of_ble_eq_true rfl, Nat.le_of_ble_eq_true rfl⟩ C.hK hP [0, 1, 2, 3, 4, 5, 6, 7, 8, 9, 10, 11, 12, 13, 14, 15, 16] rfl (va_recv (q0 := 0) C.hK.1 hP rfl rfl) rfl hl.1 rfl (Nat.le_of_ble_eq_true rfl) d_La_law_532 ⟨hce0, hsl0⟩ ?_
  refine lv_aload_n hx hb d_La_law_535 rfl (lv_at hl 2 rfl) ?_
  refine lv_aload_n hx hb d_La_law_536 rfl (lv_at hl 4 rfl) ?_
  refine lv_iload hx hb d_La_law_537 (lv_at hl 0 rfl) ?_
  refine lv_iconst (v := 1) hx hb d_La_law_539 (by decide) ?_
  refine lv_iadd hx hb d_La_law_540 ?_
  have eq9 : ((nI i) + 1 : Int32) = nI (i + 1) := nI_add i 1
  refine W.eq (g2 := F0 m 541 ls [.int (nI (i + 1)), .ref b, .ref (a 17), .int (if tm_wi z 0 7 = 0 then tm_q4 z S.es S.hs S.ds (nI S.ks) else S.Rs z.toNatClampNeg)]) (by rw [eq9]) ?_
  refine lx_ld (kx := i + 1) (v := 0) C hS E1 (by omega) d_La_law_541 ?_
  refine lv_aload_n hx hb d_La_law_542 rfl (lv_at hl 4 rfl) ?_
  refine lv_iload hx hb d_La_law_543 (lv_at hl 0 rfl) ?_
  refine lv_iconst (v := 2) hx hb d_La_law_545 (by decide) ?_
  refine lv_iadd hx hb d_La_law_546 ?_
  have eq9 : ((nI i) + 2 : Int32) = nI (i + 2) := nI_add i 2
  refine W.eq (g2 := F0 m 547 ls [.int (nI (i + 2)), .ref b, .int 0, .ref (a 17), .int (if tm_wi z 0 7 = 0 then tm_q4 z S.es S.hs S.ds (nI S.ks) else S.Rs z.toNatClampNeg)]) (by rw [eq9]) ?_
  refine lx_ld (kx := i + 2) (v := z) C hS E2 (by omega) d_La_law_547 ?_
  refine xi_go (w2 := lx_W cI cZ cJ a (s1_result0_x S z) (s1_result0_x S z) W0) (wr := lx_X cI cZ cJ a (s1_result0_x S z) ++ [lx_w cJ a W0]) (va_runV (As := [.int 0, .int z]) (rest := [.int (if tm_wi z 0 7 = 0 then tm_q4 z S.es S.hs S.ds (nI S.ks) else S.Rs z.toNatClampNeg)]) (C := R_Mo) ⟨C.hx, C.hb, C.hml, C.hown, C.hg⟩ (c_Mo_result_no l D cI cZ cJ (a 17) (a 18) (a 19) (a 20) (a 21) (a 22) (a 23) (a 24) (a 25) (a 26) (a 27) (a 28) (a 29) (a 30) (a 31) (a 32) (a 33) S.Po S.Pa S.Pb S.Pc S.G S.O S.Bm S.sr S.sd (tm_jn 8 S.Rs S.Rt) (tm_jn 64 S.Cs S.Ct) (tm_tw S.es S.et) (tm_tw S.hs S.ht) (tm_tw S.ds S.dt) (tm_tw (nI S.ks) (nI S.kt)) (tm_jn 120 S.As S.At) S.n S.k S.th S.tl S.nx 0 z (Or.inr hz) H.size) ⟨xg_B C.hg m_Mo_result.1 m_Mo_result.2.2.1 m_Mo_result.2.2.2.1 m_Mo_result.2.2.2.2 q744 rfl rfl ⟨Nat.le_of_ble_eq_true rfl, Nat.le_of_ble_eq_true rfl⟩, C.hg _ m_Mo_result.2.1, C.hg _ q746⟩ ⟨xw_blind, (va_recv (q0 := 17) C.hK.1 hP rfl rfl), xw_pre C.hK hP hD [17, 18, 19, 20, 21, 22, 23, 24, 25, 26, 27, 28, 29, 30, 31, 32, 33] (by decide) rfl⟩ rfl rfl hl.1 rfl (lv_room (Nat.le_of_ble_eq_true rfl)) d_La_law_548 ⟨hce0, hsl0⟩) hP hD hS hA [17, 18, 19, 20, 21, 22, 23, 24, 25, 26, 27, 28, 29, 30, 31, 32, 33] [0, 1, 2, 3, 4, 5, 6, 7, 8, 9, 10, 11, 12, 13, 14, 15, 16, 34] [0, 1, 2, 3, 4, 5, 6, 7, 8, 9, 10, 11, 12, 13, 14, 15, 16, 18, 19, 20, 21, 22, 23, 24, 25, 26, 27, 28, 29, 30, 31, 32, 33, 34, 17] rfl rfl (by decide) (by decide) rfl (by decide) (fun H locs hP hD hS => ?_)
  refine lv_icmp_eq (tgt := 704) hx hb d_La_law_551 rfl (fun _ => ?_) (fun hz9 => absurd (lx_q4 hz) hz9)
  exact W.widen (by omega) (by omega) (k _ H locs ls ⟨hP, hD, hS⟩ (lv_sub hl [0, 1, 2, 3, 4] rfl))

def s1_result1 (S : lx_S) (q : Nat) : lx_S := lx_mk S.P S.F S.B S.sr S.sd S.Rs S.Cs S.As S.Rt S.Ct S.At S.Po S.Pa S.Pb S.Pc S.G S.O S.Bm S.n S.k S.ks S.kt S.hs S.ds S.es S.xs S.ht S.dt S.et S.tl S.nx 0
set_option maxHeartbeats 4000000 in
set_option maxRecDepth 100000 in
theorem la_result1 {p : Program} {l : Launch} {e : Env} {s : State} {m : MethodId} {args : Array Value} {below : List Frame} {meth : Method} {c : Code} {D : va_G} {cI cZ cJ : ClassId} {b L : Nat} {xs : Nat → Int32} {Q : State → Prop} (C : lx_C p l s m args c D cI cZ cJ b L xs) {a : Nat → Nat} {S : lx_S} {W0 : Nat → Int64} {H : Heap} {locs : List Loc} (X : lx_H D cI cZ cJ s a S S W0 H locs) {ls : Array Slot} {i : Nat} (hi : i + 5 ≤ L) (hl : lv_has ls 7 [(4, .int (nI i)), (3, .ref (a 34)), (2, .ref (a 17)), (1, .ref (a 0)), (0, .ref b)]) {cells slots : Nat} (hce : cells + 1 ≤ room_1.cells) (hsl : slots + 6 ≤ room_1.slots) (q : Nat) (E1 : xs (i + 1) = 1) (E2 : xs (i + 2) = nI q) (hq : q ≤ 11)
    (k : ∀ (W1 : Nat → Int64) (H1 : Heap) (locs1 : List Loc) (ls1 : Array Slot), lx_H D cI cZ cJ s a (s1_result1 S q) (s1_result1 S q) W1 H1 locs1 → lv_has ls1 7 [(4, .int (nI i)), (3, .ref (a 34)), (2, .ref (a 17)), (1, .ref (a 0)), (0, .ref b)] → W p l e room_1 s m args below meth c H1 locs1 (cells + 1) (slots + 6) Q (F0 m 704 ls1 [])) : W p l e room_1 s m args below meth c H locs cells slots Q (F0 m 519 ls []) := by
  obtain ⟨hP, hD, hS⟩ := X
  have hx := C.hx
  have hb := C.hb
  have hK := C.hK
  have hL := C.hL
  have hA : ∀ q : Nat, s.heap.size ≤ q → lx_A s q := fun _ h => h
  have hce0 : cells ≤ room_1.cells := Nat.le_of_succ_le hce
  have hsl0 : slots ≤ room_1.slots := Nat.le_trans (Nat.le_add_right _ _) hsl
  refine lv_aload_n hx hb d_La_law_519 rfl (lv_at hl 3 rfl) ?_
  refine lv_aload_n hx hb d_La_law_520 rfl (lv_at hl 4 rfl) ?_
  refine lv_iload hx hb d_La_law_521 (lv_at hl 0 rfl) ?_
  refine lv_iconst (v := 1) hx hb d_La_law_523 (by decide) ?_
  refine lv_iadd hx hb d_La_law_524 ?_
  have eq9 : ((nI i) + 1 : Int32) = nI (i + 1) := nI_add i 1
  refine W.eq (g2 := F0 m 525 ls [.int (nI (i + 1)), .ref b, .ref (a 0)]) (by rw [eq9]) ?_
  refine lx_ld (kx := i + 1) (v := 1) C hS E1 (by omega) d_La_law_525 ?_
  refine lv_aload_n hx hb d_La_law_526 rfl (lv_at hl 4 rfl) ?_
  refine lv_iload hx hb d_La_law_527 (lv_at hl 0 rfl) ?_
  refine lv_iconst (v := 2) hx hb d_La_law_529 (by decide) ?_
  refine lv_iadd hx hb d_La_law_530 ?_
  have eq9 : ((nI i) + 2 : Int32) = nI (i + 2) := nI_add i 2
  refine W.eq (g2 := F0 m 531 ls [.int (nI (i + 2)), .ref b, .int 1, .ref (a 0)]) (by rw [eq9]) ?_
  refine lx_ld (kx := i + 2) (v := nI q) C hS E2 (by omega) d_La_law_531 ?_
  refine xr_V (C := R_TM) (As := [.int 1, .int (nI q)]) (rest := []) ⟨C.hx, C.hb, C.hml, C.hown, C.hg⟩ (c_TM_result1 l D cI cZ cJ (a 0) (a 1) (a 2) (a 3) (a 4) (a 5) (a 6) (a 7) (a 8) (a 9) (a 10) (a 11) (a 12) (a 13) (a 14) (a 15) (a 16) S.P S.F S.B S.sr S.sd S.Rs S.Cs S.As S.Rt S.Ct S.At S.n S.k S.ks S.kt S.hs S.ds S.es S.xs S.ht S.dt S.et (nI q)) m_TM_result q263 q265 ⟨rfl, rfl⟩ ⟨Nat.le_of_ble_eq_true rfl, Nat.le_of_ble_eq_true rfl⟩ C.hK hP [0, 1, 2, 3, 4, 5, 6, 7, 8, 9, 10, 11, 12, 13, 14, 15, 16] rfl (va_recv (q0 := 0) C.hK.1 hP rfl rfl) rfl hl.1 rfl (Nat.le_of_ble_eq_true rfl) d_La_law_532 ⟨hce0, hsl0⟩ ?_
  refine lv_aload_n hx hb d_La_law_535 rfl (lv_at hl 2 rfl) ?_
  refine lv_aload_n hx hb d_La_law_536 rfl (lv_at hl 4 rfl) ?_
  refine lv_iload hx hb d_La_law_537 (lv_at hl 0 rfl) ?_
  refine lv_iconst (v := 1) hx hb d_La_law_539 (by decide) ?_
  refine lv_iadd hx hb d_La_law_540 ?_
  have eq9 : ((nI i) + 1 : Int32) = nI (i + 1) := nI_add i 1
  refine W.eq (g2 := F0 m 541 ls [.int (nI (i + 1)), .ref b, .ref (a 17), .int (if tm_wi (nI q) 0 7 = 0 then tm_q4 (nI q) S.et S.ht S.dt (nI S.kt) else (if (nI q).toNatClampNeg < 4 then S.Rt (nI q).toNatClampNeg else S.Ct (32 + (nI q).toNatClampNeg)))]) (by rw [eq9]) ?_
  refine lx_ld (kx := i + 1) (v := 1) C hS E1 (by omega) d_La_law_541 ?_
  refine lv_aload_n hx hb d_La_law_542 rfl (lv_at hl 4 rfl) ?_
  refine lv_iload hx hb d_La_law_543 (lv_at hl 0 rfl) ?_
  refine lv_iconst (v := 2) hx hb d_La_law_545 (by decide) ?_
  refine lv_iadd hx hb d_La_law_546 ?_
  have eq9 : ((nI i) + 2 : Int32) = nI (i + 2) := nI_add i 2
  refine W.eq (g2 := F0 m 547 ls [.int (nI (i + 2)), .ref b, .int 1, .ref (a 17), .int (if tm_wi (nI q) 0 7 = 0 then tm_q4 (nI q) S.et S.ht S.dt (nI S.kt) else (if (nI q).toNatClampNeg < 4 then S.Rt (nI q).toNatClampNeg else S.Ct (32 + (nI q).toNatClampNeg)))]) (by rw [eq9]) ?_
  refine lx_ld (kx := i + 2) (v := nI q) C hS E2 (by omega) d_La_law_547 ?_
  refine xi_go (w2 := lx_W cI cZ cJ a (s1_result1 S q) (s1_result1 S q) W0) (wr := lx_X cI cZ cJ a (s1_result1 S q) ++ [lx_w cJ a W0]) (va_runV (As := [.int 1, .int (nI q)]) (rest := [.int (if tm_wi (nI q) 0 7 = 0 then tm_q4 (nI q) S.et S.ht S.dt (nI S.kt) else (if (nI q).toNatClampNeg < 4 then S.Rt (nI q).toNatClampNeg else S.Ct (32 + (nI q).toNatClampNeg)))]) (C := R_Mo) ⟨C.hx, C.hb, C.hml, C.hown, C.hg⟩ (c_Mo_result1 l D cI cZ cJ (a 17) (a 18) (a 19) (a 20) (a 21) (a 22) (a 23) (a 24) (a 25) (a 26) (a 27) (a 28) (a 29) (a 30) (a 31) (a 32) (a 33) S.Po S.Pa S.Pb S.Pc S.G S.O S.Bm S.sr S.sd (tm_jn 8 S.Rs S.Rt) (tm_jn 64 S.Cs S.Ct) (tm_tw S.es S.et) (tm_tw S.hs S.ht) (tm_tw S.ds S.dt) (tm_tw (nI S.ks) (nI S.kt)) (tm_jn 120 S.As S.At) S.n S.k S.th S.tl S.nx q (hq) H.size) ⟨xg_B C.hg m_Mo_result.1 m_Mo_result.2.2.1 m_Mo_result.2.2.2.1 m_Mo_result.2.2.2.2 q744 rfl rfl ⟨Nat.le_of_ble_eq_true rfl, Nat.le_of_ble_eq_true rfl⟩, C.hg _ m_Mo_result.2.1, C.hg _ q746⟩ ⟨xw_blind, (va_recv (q0 := 17) C.hK.1 hP rfl rfl), xw_pre C.hK hP hD [17, 18, 19, 20, 21, 22, 23, 24, 25, 26, 27, 28, 29, 30, 31, 32, 33] (by decide) rfl⟩ rfl rfl hl.1 rfl (lv_room (Nat.le_of_ble_eq_true rfl)) d_La_law_548 ⟨hce0, hsl0⟩) hP hD hS hA [17, 18, 19, 20, 21, 22, 23, 24, 25, 26, 27, 28, 29, 30, 31, 32, 33] [0, 1, 2, 3, 4, 5, 6, 7, 8, 9, 10, 11, 12, 13, 14, 15, 16, 34] [0, 1, 2, 3, 4, 5, 6, 7, 8, 9, 10, 11, 12, 13, 14, 15, 16, 18, 19, 20, 21, 22, 23, 24, 25, 26, 27, 28, 29, 30, 31, 32, 33, 34, 17] rfl rfl (by decide) (by decide) rfl (by decide) (fun H locs hP hD hS => ?_)
  refine lv_icmp_eq (tgt := 704) hx hb d_La_law_551 rfl (fun _ => ?_) (fun hz9 => absurd (lx_res1 hq) hz9)
  exact W.widen (by omega) (by omega) (k _ H locs ls ⟨hP, hD, hS⟩ (lv_sub hl [0, 1, 2, 3, 4] rfl))

def s1_result1_x (S : lx_S) (z : Int32) : lx_S := lx_mk S.P S.F S.B S.sr S.sd S.Rs S.Cs S.As S.Rt S.Ct S.At S.Po S.Pa S.Pb S.Pc S.G S.O S.Bm S.n S.k S.ks S.kt S.hs S.ds S.es S.xs S.ht S.dt S.et S.tl S.nx 0
set_option maxHeartbeats 4000000 in
set_option maxRecDepth 100000 in
theorem la_result1_x {p : Program} {l : Launch} {e : Env} {s : State} {m : MethodId} {args : Array Value} {below : List Frame} {meth : Method} {c : Code} {D : va_G} {cI cZ cJ : ClassId} {b L : Nat} {xs : Nat → Int32} {Q : State → Prop} (C : lx_C p l s m args c D cI cZ cJ b L xs) {a : Nat → Nat} {S : lx_S} {W0 : Nat → Int64} {H : Heap} {locs : List Loc} (X : lx_H D cI cZ cJ s a S S W0 H locs) {ls : Array Slot} {i : Nat} (hi : i + 5 ≤ L) (hl : lv_has ls 7 [(4, .int (nI i)), (3, .ref (a 34)), (2, .ref (a 17)), (1, .ref (a 0)), (0, .ref b)]) {cells slots : Nat} (hce : cells + 1 ≤ room_1.cells) (hsl : slots + 6 ≤ room_1.slots) (z : Int32) (E1 : xs (i + 1) = 1) (E2 : xs (i + 2) = z) (hz : tm_wi z 0 11 = 0)
    (k : ∀ (W1 : Nat → Int64) (H1 : Heap) (locs1 : List Loc) (ls1 : Array Slot), lx_H D cI cZ cJ s a (s1_result1_x S z) (s1_result1_x S z) W1 H1 locs1 → lv_has ls1 7 [(4, .int (nI i)), (3, .ref (a 34)), (2, .ref (a 17)), (1, .ref (a 0)), (0, .ref b)] → W p l e room_1 s m args below meth c H1 locs1 (cells + 1) (slots + 6) Q (F0 m 704 ls1 [])) : W p l e room_1 s m args below meth c H locs cells slots Q (F0 m 519 ls []) := by
  obtain ⟨hP, hD, hS⟩ := X
  have hx := C.hx
  have hb := C.hb
  have hK := C.hK
  have hL := C.hL
  have hA : ∀ q : Nat, s.heap.size ≤ q → lx_A s q := fun _ h => h
  have hce0 : cells ≤ room_1.cells := Nat.le_of_succ_le hce
  have hsl0 : slots ≤ room_1.slots := Nat.le_trans (Nat.le_add_right _ _) hsl
  refine lv_aload_n hx hb d_La_law_519 rfl (lv_at hl 3 rfl) ?_
  refine lv_aload_n hx hb d_La_law_520 rfl (lv_at hl 4 rfl) ?_
  refine lv_iload hx hb d_La_law_521 (lv_at hl 0 rfl) ?_
  refine lv_iconst (v := 1) hx hb d_La_law_523 (by decide) ?_
  refine lv_iadd hx hb d_La_law_524 ?_
  have eq9 : ((nI i) + 1 : Int32) = nI (i + 1) := nI_add i 1
  refine W.eq (g2 := F0 m 525 ls [.int (nI (i + 1)), .ref b, .ref (a 0)]) (by rw [eq9]) ?_
  refine lx_ld (kx := i + 1) (v := 1) C hS E1 (by omega) d_La_law_525 ?_
  refine lv_aload_n hx hb d_La_law_526 rfl (lv_at hl 4 rfl) ?_
  refine lv_iload hx hb d_La_law_527 (lv_at hl 0 rfl) ?_
  refine lv_iconst (v := 2) hx hb d_La_law_529 (by decide) ?_
  refine lv_iadd hx hb d_La_law_530 ?_
  have eq9 : ((nI i) + 2 : Int32) = nI (i + 2) := nI_add i 2
  refine W.eq (g2 := F0 m 531 ls [.int (nI (i + 2)), .ref b, .int 1, .ref (a 0)]) (by rw [eq9]) ?_
  refine lx_ld (kx := i + 2) (v := z) C hS E2 (by omega) d_La_law_531 ?_
  refine xr_V (C := R_TM) (As := [.int 1, .int z]) (rest := []) ⟨C.hx, C.hb, C.hml, C.hown, C.hg⟩ (c_TM_result1 l D cI cZ cJ (a 0) (a 1) (a 2) (a 3) (a 4) (a 5) (a 6) (a 7) (a 8) (a 9) (a 10) (a 11) (a 12) (a 13) (a 14) (a 15) (a 16) S.P S.F S.B S.sr S.sd S.Rs S.Cs S.As S.Rt S.Ct S.At S.n S.k S.ks S.kt S.hs S.ds S.es S.xs S.ht S.dt S.et z) m_TM_result q263 q265 ⟨rfl, rfl⟩ ⟨Nat.le_of_ble_eq_true rfl, Nat.le_of_ble_eq_true rfl⟩ C.hK hP [0, 1, 2, 3, 4, 5, 6, 7, 8, 9, 10, 11, 12, 13, 14, 15, 16] rfl (va_recv (q0 := 0) C.hK.1 hP rfl rfl) rfl hl.1 rfl (Nat.le_of_ble_eq_true rfl) d_La_law_532 ⟨hce0, hsl0⟩ ?_
  refine lv_aload_n hx hb d_La_law_535 rfl (lv_at hl 2 rfl) ?_
  refine lv_aload_n hx hb d_La_law_536 rfl (lv_at hl 4 rfl) ?_
  refine lv_iload hx hb d_La_law_537 (lv_at hl 0 rfl) ?_
  refine lv_iconst (v := 1) hx hb d_La_law_539 (by decide) ?_
  refine lv_iadd hx hb d_La_law_540 ?_
  have eq9 : ((nI i) + 1 : Int32) = nI (i + 1) := nI_add i 1
  refine W.eq (g2 := F0 m 541 ls [.int (nI (i + 1)), .ref b, .ref (a 17), .int (if tm_wi z 0 7 = 0 then tm_q4 z S.et S.ht S.dt (nI S.kt) else (if z.toNatClampNeg < 4 then S.Rt z.toNatClampNeg else S.Ct (32 + z.toNatClampNeg)))]) (by rw [eq9]) ?_
  refine lx_ld (kx := i + 1) (v := 1) C hS E1 (by omega) d_La_law_541 ?_
  refine lv_aload_n hx hb d_La_law_542 rfl (lv_at hl 4 rfl) ?_
  refine lv_iload hx hb d_La_law_543 (lv_at hl 0 rfl) ?_
  refine lv_iconst (v := 2) hx hb d_La_law_545 (by decide) ?_
  refine lv_iadd hx hb d_La_law_546 ?_
  have eq9 : ((nI i) + 2 : Int32) = nI (i + 2) := nI_add i 2
  refine W.eq (g2 := F0 m 547 ls [.int (nI (i + 2)), .ref b, .int 1, .ref (a 17), .int (if tm_wi z 0 7 = 0 then tm_q4 z S.et S.ht S.dt (nI S.kt) else (if z.toNatClampNeg < 4 then S.Rt z.toNatClampNeg else S.Ct (32 + z.toNatClampNeg)))]) (by rw [eq9]) ?_
  refine lx_ld (kx := i + 2) (v := z) C hS E2 (by omega) d_La_law_547 ?_
  refine xi_go (w2 := lx_W cI cZ cJ a (s1_result1_x S z) (s1_result1_x S z) W0) (wr := lx_X cI cZ cJ a (s1_result1_x S z) ++ [lx_w cJ a W0]) (va_runV (As := [.int 1, .int z]) (rest := [.int (if tm_wi z 0 7 = 0 then tm_q4 z S.et S.ht S.dt (nI S.kt) else (if z.toNatClampNeg < 4 then S.Rt z.toNatClampNeg else S.Ct (32 + z.toNatClampNeg)))]) (C := R_Mo) ⟨C.hx, C.hb, C.hml, C.hown, C.hg⟩ (c_Mo_result_no l D cI cZ cJ (a 17) (a 18) (a 19) (a 20) (a 21) (a 22) (a 23) (a 24) (a 25) (a 26) (a 27) (a 28) (a 29) (a 30) (a 31) (a 32) (a 33) S.Po S.Pa S.Pb S.Pc S.G S.O S.Bm S.sr S.sd (tm_jn 8 S.Rs S.Rt) (tm_jn 64 S.Cs S.Ct) (tm_tw S.es S.et) (tm_tw S.hs S.ht) (tm_tw S.ds S.dt) (tm_tw (nI S.ks) (nI S.kt)) (tm_jn 120 S.As S.At) S.n S.k S.th S.tl S.nx 1 z (Or.inr hz) H.size) ⟨xg_B C.hg m_Mo_result.1 m_Mo_result.2.2.1 m_Mo_result.2.2.2.1 m_Mo_result.2.2.2.2 q744 rfl rfl ⟨Nat.le_of_ble_eq_true rfl, Nat.le_of_ble_eq_true rfl⟩, C.hg _ m_Mo_result.2.1, C.hg _ q746⟩ ⟨xw_blind, (va_recv (q0 := 17) C.hK.1 hP rfl rfl), xw_pre C.hK hP hD [17, 18, 19, 20, 21, 22, 23, 24, 25, 26, 27, 28, 29, 30, 31, 32, 33] (by decide) rfl⟩ rfl rfl hl.1 rfl (lv_room (Nat.le_of_ble_eq_true rfl)) d_La_law_548 ⟨hce0, hsl0⟩) hP hD hS hA [17, 18, 19, 20, 21, 22, 23, 24, 25, 26, 27, 28, 29, 30, 31, 32, 33] [0, 1, 2, 3, 4, 5, 6, 7, 8, 9, 10, 11, 12, 13, 14, 15, 16, 34] [0, 1, 2, 3, 4, 5, 6, 7, 8, 9, 10, 11, 12, 13, 14, 15, 16, 18, 19, 20, 21, 22, 23, 24, 25, 26, 27, 28, 29, 30, 31, 32, 33, 34, 17] rfl rfl (by decide) (by decide) rfl (by decide) (fun H locs hP hD hS => ?_)
  refine lv_icmp_eq (tgt := 704) hx hb d_La_law_551 rfl (fun _ => ?_) (fun hz9 => absurd (lx_q4 hz) hz9)
  exact W.widen (by omega) (by omega) (k _ H locs ls ⟨hP, hD, hS⟩ (lv_sub hl [0, 1, 2, 3, 4] rfl))

def s1_result_no (S : lx_S) (y z : Int32) : lx_S := lx_mk S.P S.F S.B S.sr S.sd S.Rs S.Cs S.As S.Rt S.Ct S.At S.Po S.Pa S.Pb S.Pc S.G S.O S.Bm S.n S.k S.ks S.kt S.hs S.ds S.es S.xs S.ht S.dt S.et S.tl S.nx 0
set_option maxHeartbeats 4000000 in
set_option maxRecDepth 100000 in
theorem la_result_no {p : Program} {l : Launch} {e : Env} {s : State} {m : MethodId} {args : Array Value} {below : List Frame} {meth : Method} {c : Code} {D : va_G} {cI cZ cJ : ClassId} {b L : Nat} {xs : Nat → Int32} {Q : State → Prop} (C : lx_C p l s m args c D cI cZ cJ b L xs) {a : Nat → Nat} {S : lx_S} {W0 : Nat → Int64} {H : Heap} {locs : List Loc} (X : lx_H D cI cZ cJ s a S S W0 H locs) {ls : Array Slot} {i : Nat} (hi : i + 5 ≤ L) (hl : lv_has ls 7 [(4, .int (nI i)), (3, .ref (a 34)), (2, .ref (a 17)), (1, .ref (a 0)), (0, .ref b)]) {cells slots : Nat} (hce : cells + 1 ≤ room_1.cells) (hsl : slots + 6 ≤ room_1.slots) (y z : Int32) (E1 : xs (i + 1) = y) (E2 : xs (i + 2) = z) (hy : tm_im y = 0)
    (k : ∀ (W1 : Nat → Int64) (H1 : Heap) (locs1 : List Loc) (ls1 : Array Slot), lx_H D cI cZ cJ s a (s1_result_no S y z) (s1_result_no S y z) W1 H1 locs1 → lv_has ls1 7 [(4, .int (nI i)), (3, .ref (a 34)), (2, .ref (a 17)), (1, .ref (a 0)), (0, .ref b)] → W p l e room_1 s m args below meth c H1 locs1 (cells + 1) (slots + 6) Q (F0 m 704 ls1 [])) : W p l e room_1 s m args below meth c H locs cells slots Q (F0 m 519 ls []) := by
  obtain ⟨hP, hD, hS⟩ := X
  have hx := C.hx
  have hb := C.hb
  have hK := C.hK
  have hL := C.hL
  have hA : ∀ q : Nat, s.heap.size ≤ q → lx_A s q := fun _ h => h
  have hce0 : cells ≤ room_1.cells := Nat.le_of_succ_le hce
  have hsl0 : slots ≤ room_1.slots := Nat.le_trans (Nat.le_add_right _ _) hsl
  refine lv_aload_n hx hb d_La_law_519 rfl (lv_at hl 3 rfl) ?_
  refine lv_aload_n hx hb d_La_law_520 rfl (lv_at hl 4 rfl) ?_
  refine lv_iload hx hb d_La_law_521 (lv_at hl 0 rfl) ?_
  refine lv_iconst (v := 1) hx hb d_La_law_523 (by decide) ?_
  refine lv_iadd hx hb d_La_law_524 ?_
  have eq9 : ((nI i) + 1 : Int32) = nI (i + 1) := nI_add i 1
  refine W.eq (g2 := F0 m 525 ls [.int (nI (i + 1)), .ref b, .ref (a 0)]) (by rw [eq9]) ?_
  refine lx_ld (kx := i + 1) (v := y) C hS E1 (by omega) d_La_law_525 ?_
  refine lv_aload_n hx hb d_La_law_526 rfl (lv_at hl 4 rfl) ?_
  refine lv_iload hx hb d_La_law_527 (lv_at hl 0 rfl) ?_
  refine lv_iconst (v := 2) hx hb d_La_law_529 (by decide) ?_
  refine lv_iadd hx hb d_La_law_530 ?_
  have eq9 : ((nI i) + 2 : Int32) = nI (i + 2) := nI_add i 2
  refine W.eq (g2 := F0 m 531 ls [.int (nI (i + 2)), .ref b, .int y, .ref (a 0)]) (by rw [eq9]) ?_
  refine lx_ld (kx := i + 2) (v := z) C hS E2 (by omega) d_La_law_531 ?_
  refine xr_V (C := R_TM) (As := [.int y, .int z]) (rest := []) ⟨C.hx, C.hb, C.hml, C.hown, C.hg⟩ (c_TM_result_no l D cI cZ cJ (a 0) (a 1) (a 2) (a 3) (a 4) (a 5) (a 6) (a 7) (a 8) (a 9) (a 10) (a 11) (a 12) (a 13) (a 14) (a 15) (a 16) S.P S.F S.B S.sr S.sd S.Rs S.Cs S.As S.Rt S.Ct S.At S.n S.k S.ks S.kt S.hs S.ds S.es S.xs S.ht S.dt S.et y z (hy)) m_TM_result q263 q265 ⟨rfl, rfl⟩ ⟨Nat.le_of_ble_eq_true rfl, Nat.le_of_ble_eq_true rfl⟩ C.hK hP [0, 1, 2, 3, 4, 5, 6, 7, 8, 9, 10, 11, 12, 13, 14, 15, 16] rfl (va_recv (q0 := 0) C.hK.1 hP rfl rfl) rfl hl.1 rfl (Nat.le_of_ble_eq_true rfl) d_La_law_532 ⟨hce0, hsl0⟩ ?_
  refine lv_aload_n hx hb d_La_law_535 rfl (lv_at hl 2 rfl) ?_
  refine lv_aload_n hx hb d_La_law_536 rfl (lv_at hl 4 rfl) ?_
  refine lv_iload hx hb d_La_law_537 (lv_at hl 0 rfl) ?_
  refine lv_iconst (v := 1) hx hb d_La_law_539 (by decide) ?_
  refine lv_iadd hx hb d_La_law_540 ?_
  have eq9 : ((nI i) + 1 : Int32) = nI (i + 1) := nI_add i 1
  refine W.eq (g2 := F0 m 541 ls [.int (nI (i + 1)), .ref b, .ref (a 17), .int (-1)]) (by rw [eq9]) ?_
  refine lx_ld (kx := i + 1) (v := y) C hS E1 (by omega) d_La_law_541 ?_
  refine lv_aload_n hx hb d_La_law_542 rfl (lv_at hl 4 rfl) ?_
  refine lv_iload hx hb d_La_law_543 (lv_at hl 0 rfl) ?_
  refine lv_iconst (v := 2) hx hb d_La_law_545 (by decide) ?_
  refine lv_iadd hx hb d_La_law_546 ?_
  have eq9 : ((nI i) + 2 : Int32) = nI (i + 2) := nI_add i 2
  refine W.eq (g2 := F0 m 547 ls [.int (nI (i + 2)), .ref b, .int y, .ref (a 17), .int (-1)]) (by rw [eq9]) ?_
  refine lx_ld (kx := i + 2) (v := z) C hS E2 (by omega) d_La_law_547 ?_
  refine xi_go (w2 := lx_W cI cZ cJ a (s1_result_no S y z) (s1_result_no S y z) W0) (wr := lx_X cI cZ cJ a (s1_result_no S y z) ++ [lx_w cJ a W0]) (va_runV (As := [.int y, .int z]) (rest := [.int (-1)]) (C := R_Mo) ⟨C.hx, C.hb, C.hml, C.hown, C.hg⟩ (c_Mo_result_no l D cI cZ cJ (a 17) (a 18) (a 19) (a 20) (a 21) (a 22) (a 23) (a 24) (a 25) (a 26) (a 27) (a 28) (a 29) (a 30) (a 31) (a 32) (a 33) S.Po S.Pa S.Pb S.Pc S.G S.O S.Bm S.sr S.sd (tm_jn 8 S.Rs S.Rt) (tm_jn 64 S.Cs S.Ct) (tm_tw S.es S.et) (tm_tw S.hs S.ht) (tm_tw S.ds S.dt) (tm_tw (nI S.ks) (nI S.kt)) (tm_jn 120 S.As S.At) S.n S.k S.th S.tl S.nx y z (Or.inl (by rw [← tm_im_eq]; exact hy)) H.size) ⟨xg_B C.hg m_Mo_result.1 m_Mo_result.2.2.1 m_Mo_result.2.2.2.1 m_Mo_result.2.2.2.2 q744 rfl rfl ⟨Nat.le_of_ble_eq_true rfl, Nat.le_of_ble_eq_true rfl⟩, C.hg _ m_Mo_result.2.1, C.hg _ q746⟩ ⟨xw_blind, (va_recv (q0 := 17) C.hK.1 hP rfl rfl), xw_pre C.hK hP hD [17, 18, 19, 20, 21, 22, 23, 24, 25, 26, 27, 28, 29, 30, 31, 32, 33] (by decide) rfl⟩ rfl rfl hl.1 rfl (lv_room (Nat.le_of_ble_eq_true rfl)) d_La_law_548 ⟨hce0, hsl0⟩) hP hD hS hA [17, 18, 19, 20, 21, 22, 23, 24, 25, 26, 27, 28, 29, 30, 31, 32, 33] [0, 1, 2, 3, 4, 5, 6, 7, 8, 9, 10, 11, 12, 13, 14, 15, 16, 34] [0, 1, 2, 3, 4, 5, 6, 7, 8, 9, 10, 11, 12, 13, 14, 15, 16, 18, 19, 20, 21, 22, 23, 24, 25, 26, 27, 28, 29, 30, 31, 32, 33, 34, 17] rfl rfl (by decide) (by decide) rfl (by decide) (fun H locs hP hD hS => ?_)
  refine lv_icmp_eq (tgt := 704) hx hb d_La_law_551 rfl (fun _ => ?_) (fun hz9 => absurd (rfl) hz9)
  exact W.widen (by omega) (by omega) (k _ H locs ls ⟨hP, hD, hS⟩ (lv_sub hl [0, 1, 2, 3, 4] rfl))

def s1_cell0 (S : lx_S) (r : Nat) : lx_S := lx_mk S.P S.F S.B S.sr S.sd S.Rs S.Cs S.As S.Rt S.Ct S.At S.Po S.Pa S.Pb S.Pc S.G S.O S.Bm S.n S.k S.ks S.kt S.hs S.ds S.es S.xs S.ht S.dt S.et S.tl S.nx 0
set_option maxHeartbeats 4000000 in
set_option maxRecDepth 100000 in
theorem la_cell0 {p : Program} {l : Launch} {e : Env} {s : State} {m : MethodId} {args : Array Value} {below : List Frame} {meth : Method} {c : Code} {D : va_G} {cI cZ cJ : ClassId} {b L : Nat} {xs : Nat → Int32} {Q : State → Prop} (C : lx_C p l s m args c D cI cZ cJ b L xs) {a : Nat → Nat} {S : lx_S} {W0 : Nat → Int64} {H : Heap} {locs : List Loc} (X : lx_H D cI cZ cJ s a S S W0 H locs) {ls : Array Slot} {i : Nat} (hi : i + 5 ≤ L) (hl : lv_has ls 7 [(4, .int (nI i)), (3, .ref (a 34)), (2, .ref (a 17)), (1, .ref (a 0)), (0, .ref b)]) {cells slots : Nat} (hce : cells + 1 ≤ room_1.cells) (hsl : slots + 6 ≤ room_1.slots) (r : Nat) (E1 : xs (i + 1) = 0) (E2 : xs (i + 2) = nI r) (ha : r < 32)
    (k : ∀ (W1 : Nat → Int64) (H1 : Heap) (locs1 : List Loc) (ls1 : Array Slot), lx_H D cI cZ cJ s a (s1_cell0 S r) (s1_cell0 S r) W1 H1 locs1 → lv_has ls1 7 [(4, .int (nI i)), (3, .ref (a 34)), (2, .ref (a 17)), (1, .ref (a 0)), (0, .ref b)] → W p l e room_1 s m args below meth c H1 locs1 (cells + 1) (slots + 6) Q (F0 m 704 ls1 [])) : W p l e room_1 s m args below meth c H locs cells slots Q (F0 m 556 ls []) := by
  obtain ⟨hP, hD, hS⟩ := X
  have hx := C.hx
  have hb := C.hb
  have hK := C.hK
  have hL := C.hL
  have hA : ∀ q : Nat, s.heap.size ≤ q → lx_A s q := fun _ h => h
  have hce0 : cells ≤ room_1.cells := Nat.le_of_succ_le hce
  have hsl0 : slots ≤ room_1.slots := Nat.le_trans (Nat.le_add_right _ _) hsl
  refine lv_aload_n hx hb d_La_law_556 rfl (lv_at hl 3 rfl) ?_
  refine lv_aload_n hx hb d_La_law_557 rfl (lv_at hl 4 rfl) ?_
  refine lv_iload hx hb d_La_law_558 (lv_at hl 0 rfl) ?_
  refine lv_iconst (v := 1) hx hb d_La_law_560 (by decide) ?_
  refine lv_iadd hx hb d_La_law_561 ?_
  have eq9 : ((nI i) + 1 : Int32) = nI (i + 1) := nI_add i 1
  refine W.eq (g2 := F0 m 562 ls [.int (nI (i + 1)), .ref b, .ref (a 0)]) (by rw [eq9]) ?_
  refine lx_ld (kx := i + 1) (v := 0) C hS E1 (by omega) d_La_law_562 ?_
  refine lv_aload_n hx hb d_La_law_563 rfl (lv_at hl 4 rfl) ?_
  refine lv_iload hx hb d_La_law_564 (lv_at hl 0 rfl) ?_
  refine lv_iconst (v := 2) hx hb d_La_law_566 (by decide) ?_
  refine lv_iadd hx hb d_La_law_567 ?_
  have eq9 : ((nI i) + 2 : Int32) = nI (i + 2) := nI_add i 2
  refine W.eq (g2 := F0 m 568 ls [.int (nI (i + 2)), .ref b, .int 0, .ref (a 0)]) (by rw [eq9]) ?_
  refine lx_ld (kx := i + 2) (v := nI r) C hS E2 (by omega) d_La_law_568 ?_
  refine lv_aload_n hx hb d_La_law_569 rfl (lv_at hl 1 rfl) ?_
  refine xh_go (w2 := lx_W cI cZ cJ a (s1_cell0 S r) S (vp_updL W0 0 (S.Cs r).toInt64)) (wr := lx_R cI cZ cJ a S) (xh_runS (g := F0 m 570 ls [.ref (a 34), .int (nI r), .int 0, .ref (a 0)]) (As := [.ref (a 0), .int 0, .int (nI r), .ref (a 34)]) (rest := []) ⟨C.hx, C.hb, C.hml, C.hown, C.hg⟩ (c_La_cell0 l C.hLx D cI cZ cJ (a 0) (a 1) (a 2) (a 3) (a 4) (a 5) (a 6) (a 7) (a 8) (a 9) (a 10) (a 11) (a 12) (a 13) (a 14) (a 15) (a 16) S.P S.F S.B S.sr S.sd S.Rs S.Cs S.As S.Rt S.Ct S.At S.n S.k S.ks S.kt S.hs S.ds S.es S.xs S.ht S.dt S.et r (a 34) W0 (ha) H.size) m_La_cell q543 rfl rfl ⟨Nat.le_of_ble_eq_true rfl, Nat.le_of_ble_eq_true rfl⟩ ⟨xh_blind, xh_pre C.hK (lx_hT C.hT hS) C.hV hP hD [0, 1, 2, 3, 4, 5, 6, 7, 8, 9, 10, 11, 12, 13, 14, 15, 16, 34] (by decide) rfl⟩ rfl rfl hl.1 rfl (lv_room (Nat.le_of_ble_eq_true rfl)) d_La_law_570 ⟨hce0, hsl0⟩) hP hD hS hA [0, 1, 2, 3, 4, 5, 6, 7, 8, 9, 10, 11, 12, 13, 14, 15, 16, 34] [17, 18, 19, 20, 21, 22, 23, 24, 25, 26, 27, 28, 29, 30, 31, 32, 33] [17, 18, 19, 20, 21, 22, 23, 24, 25, 26, 27, 28, 29, 30, 31, 32, 33, 0, 1, 2, 3, 4, 5, 6, 7, 8, 9, 10, 11, 12, 13, 14, 15, 16, 34] rfl rfl (by decide) (by decide) rfl (by decide) (fun H locs hP hD hS => ?_)
  refine lv_istore hx hb d_La_law_573 hl (by decide) rfl (fun ls hl => ?_)
  have hl : lv_has ls 7 [(5, .int 0), (4, .int (nI i)), (3, .ref (a 34)), (2, .ref (a 17)), (1, .ref (a 0)), (0, .ref b)] := hl
  refine lv_aload_n hx hb d_La_law_575 rfl (lv_at hl 3 rfl) ?_
  refine lv_aload_n hx hb d_La_law_576 rfl (lv_at hl 5 rfl) ?_
  refine lv_iload hx hb d_La_law_577 (lv_at hl 1 rfl) ?_
  refine lv_iconst (v := 1) hx hb d_La_law_579 (by decide) ?_
  refine lv_iadd hx hb d_La_law_580 ?_
  have eq9 : ((nI i) + 1 : Int32) = nI (i + 1) := nI_add i 1
  refine W.eq (g2 := F0 m 581 ls [.int (nI (i + 1)), .ref b, .ref (a 17)]) (by rw [eq9]) ?_
  refine lx_ld (kx := i + 1) (v := 0) C hS E1 (by omega) d_La_law_581 ?_
  refine lv_aload_n hx hb d_La_law_582 rfl (lv_at hl 5 rfl) ?_
  refine lv_iload hx hb d_La_law_583 (lv_at hl 1 rfl) ?_
  refine lv_iconst (v := 2) hx hb d_La_law_585 (by decide) ?_
  refine lv_iadd hx hb d_La_law_586 ?_
  have eq9 : ((nI i) + 2 : Int32) = nI (i + 2) := nI_add i 2
  refine W.eq (g2 := F0 m 587 ls [.int (nI (i + 2)), .ref b, .int 0, .ref (a 17)]) (by rw [eq9]) ?_
  refine lx_ld (kx := i + 2) (v := nI r) C hS E2 (by omega) d_La_law_587 ?_
  refine xi_go (w2 := lx_W cI cZ cJ a (s1_cell0 S r) (s1_cell0 S r) (vp_updL W0 0 (S.Cs r).toInt64)) (wr := lx_X cI cZ cJ a (s1_cell0 S r) ++ [lx_w cJ a (vp_updL W0 0 (S.Cs r).toInt64)]) (va_runV (As := [.int 0, .int (nI r)]) (rest := []) (C := R_Mo) ⟨C.hx, C.hb, C.hml, C.hown, C.hg⟩ (c_Mo_cell0 l D cI cZ cJ (a 17) (a 18) (a 19) (a 20) (a 21) (a 22) (a 23) (a 24) (a 25) (a 26) (a 27) (a 28) (a 29) (a 30) (a 31) (a 32) (a 33) S.Po S.Pa S.Pb S.Pc S.G S.O S.Bm S.sr S.sd (tm_jn 8 S.Rs S.Rt) (tm_jn 64 S.Cs S.Ct) (tm_tw S.es S.et) (tm_tw S.hs S.ht) (tm_tw S.ds S.dt) (tm_tw (nI S.ks) (nI S.kt)) (tm_jn 120 S.As S.At) S.n S.k S.th S.tl S.nx r (ha) H.size) ⟨xg_B C.hg m_Mo_cell.1 m_Mo_cell.2.2.1 m_Mo_cell.2.2.2.1 m_Mo_cell.2.2.2.2 q748 rfl rfl ⟨Nat.le_of_ble_eq_true rfl, Nat.le_of_ble_eq_true rfl⟩, C.hg _ m_Mo_cell.2.1, C.hg _ q750⟩ ⟨xw_blind, (va_recv (q0 := 17) C.hK.1 hP rfl rfl), xw_pre C.hK hP hD [17, 18, 19, 20, 21, 22, 23, 24, 25, 26, 27, 28, 29, 30, 31, 32, 33] (by decide) rfl⟩ rfl rfl hl.1 rfl (lv_room (Nat.le_of_ble_eq_true rfl)) d_La_law_588 ⟨hce0, hsl0⟩) hP hD hS hA [17, 18, 19, 20, 21, 22, 23, 24, 25, 26, 27, 28, 29, 30, 31, 32, 33] [0, 1, 2, 3, 4, 5, 6, 7, 8, 9, 10, 11, 12, 13, 14, 15, 16, 34] [0, 1, 2, 3, 4, 5, 6, 7, 8, 9, 10, 11, 12, 13, 14, 15, 16, 18, 19, 20, 21, 22, 23, 24, 25, 26, 27, 28, 29, 30, 31, 32, 33, 34, 17] rfl rfl (by decide) (by decide) rfl (by decide) (fun H locs hP hD hS => ?_)
  refine lv_istore hx hb d_La_law_591 hl (by decide) rfl (fun ls hl => ?_)
  have hl : lv_has ls 7 [(6, .int ((tm_jn 64 S.Cs S.Ct) (0 + r))), (5, .int 0), (4, .int (nI i)), (3, .ref (a 34)), (2, .ref (a 17)), (1, .ref (a 0)), (0, .ref b)] := hl
  refine lv_aload_n hx hb d_La_law_593 rfl (lv_at hl 4 rfl) ?_
  refine xr_V (C := R_Mo) (As := []) (rest := []) ⟨C.hx, C.hb, C.hml, C.hown, C.hg⟩ (c_Mo_thrown l D cI cZ cJ (a 17) (a 18) (a 19) (a 20) (a 21) (a 22) (a 23) (a 24) (a 25) (a 26) (a 27) (a 28) (a 29) (a 30) (a 31) (a 32) (a 33) ((s1_cell0 S r).Po) ((s1_cell0 S r).Pa) ((s1_cell0 S r).Pb) ((s1_cell0 S r).Pc) ((s1_cell0 S r).G) ((s1_cell0 S r).O) ((s1_cell0 S r).Bm) ((s1_cell0 S r).sr) ((s1_cell0 S r).sd) (tm_jn 8 ((s1_cell0 S r).Rs) ((s1_cell0 S r).Rt)) (tm_jn 64 ((s1_cell0 S r).Cs) ((s1_cell0 S r).Ct)) (tm_tw ((s1_cell0 S r).es) ((s1_cell0 S r).et)) (tm_tw ((s1_cell0 S r).hs) ((s1_cell0 S r).ht)) (tm_tw ((s1_cell0 S r).ds) ((s1_cell0 S r).dt)) (tm_tw (nI (s1_cell0 S r).ks) (nI (s1_cell0 S r).kt)) (tm_jn 120 ((s1_cell0 S r).As) ((s1_cell0 S r).At)) ((s1_cell0 S r).n) ((s1_cell0 S r).k) 0 ((s1_cell0 S r).tl) ((s1_cell0 S r).nx)) m_Mo_thrown q628 q630 ⟨rfl, rfl⟩ ⟨Nat.le_of_ble_eq_true rfl, Nat.le_of_ble_eq_true rfl⟩ C.hK hP [17, 18, 19, 20, 21, 22, 23, 24, 25, 26, 27, 28, 29, 30, 31, 32, 33] rfl (va_recv (q0 := 17) C.hK.1 hP rfl rfl) rfl hl.1 rfl (Nat.le_of_ble_eq_true rfl) d_La_law_594 ⟨hce0, hsl0⟩ ?_
  refine lv_iload hx hb d_La_law_597 (lv_at hl 1 rfl) ?_
  refine lv_icmp_eq (tgt := 604) hx hb d_La_law_599 rfl (fun _ => ?_) (fun hz9 => absurd (by decide) hz9)
  refine lv_iload hx hb d_La_law_604 (lv_at hl 1 rfl) ?_
  refine lv_if_ne (tgt := 621) hx hb d_La_law_606 rfl (fun hz9 => absurd (by decide) hz9) (fun _ => ?_)
  refine lv_aload_n hx hb d_La_law_609 rfl (lv_at hl 3 rfl) ?_
  refine lv_iconst (v := 0) hx hb d_La_law_610 (by decide) ?_
  refine xa_jd hx hb hK hP 34 2 rfl rfl (kx := 0) (rfl) (by decide) (by decide) d_La_law_611 ?_
  refine lv_iload hx hb d_La_law_612 (lv_at hl 0 rfl) ?_
  refine lv_i2l (v := ((tm_jn 64 S.Cs S.Ct) (0 + r)).toInt64) hx hb d_La_law_614 rfl ?_
  refine lx_cmp C (lx_cel0 (by omega)) d_La_law_615 ?_
  refine lv_if_eq (tgt := 621) hx hb d_La_law_616 rfl (fun _ => ?_) (fun hz9 => absurd (by decide) hz9)
  refine lv_goto (tgt := 704) hx hb d_La_law_621 rfl ?_
  exact W.widen (by omega) (by omega) (k _ H locs ls ⟨hP, hD, hS⟩ (lv_sub hl [2, 3, 4, 5, 6] rfl))

def s1_cell1 (S : lx_S) (r : Nat) : lx_S := lx_mk S.P S.F S.B S.sr S.sd S.Rs S.Cs S.As S.Rt S.Ct S.At S.Po S.Pa S.Pb S.Pc S.G S.O S.Bm S.n S.k S.ks S.kt S.hs S.ds S.es S.xs S.ht S.dt S.et S.tl S.nx 0
set_option maxHeartbeats 4000000 in
set_option maxRecDepth 100000 in
theorem la_cell1 {p : Program} {l : Launch} {e : Env} {s : State} {m : MethodId} {args : Array Value} {below : List Frame} {meth : Method} {c : Code} {D : va_G} {cI cZ cJ : ClassId} {b L : Nat} {xs : Nat → Int32} {Q : State → Prop} (C : lx_C p l s m args c D cI cZ cJ b L xs) {a : Nat → Nat} {S : lx_S} {W0 : Nat → Int64} {H : Heap} {locs : List Loc} (X : lx_H D cI cZ cJ s a S S W0 H locs) {ls : Array Slot} {i : Nat} (hi : i + 5 ≤ L) (hl : lv_has ls 7 [(4, .int (nI i)), (3, .ref (a 34)), (2, .ref (a 17)), (1, .ref (a 0)), (0, .ref b)]) {cells slots : Nat} (hce : cells + 1 ≤ room_1.cells) (hsl : slots + 6 ≤ room_1.slots) (r : Nat) (E1 : xs (i + 1) = 1) (E2 : xs (i + 2) = nI r) (ha : r < 32)
    (k : ∀ (W1 : Nat → Int64) (H1 : Heap) (locs1 : List Loc) (ls1 : Array Slot), lx_H D cI cZ cJ s a (s1_cell1 S r) (s1_cell1 S r) W1 H1 locs1 → lv_has ls1 7 [(4, .int (nI i)), (3, .ref (a 34)), (2, .ref (a 17)), (1, .ref (a 0)), (0, .ref b)] → W p l e room_1 s m args below meth c H1 locs1 (cells + 1) (slots + 6) Q (F0 m 704 ls1 [])) : W p l e room_1 s m args below meth c H locs cells slots Q (F0 m 556 ls []) := by
  obtain ⟨hP, hD, hS⟩ := X
  have hx := C.hx
  have hb := C.hb
  have hK := C.hK
  have hL := C.hL
  have hA : ∀ q : Nat, s.heap.size ≤ q → lx_A s q := fun _ h => h
  have hce0 : cells ≤ room_1.cells := Nat.le_of_succ_le hce
  have hsl0 : slots ≤ room_1.slots := Nat.le_trans (Nat.le_add_right _ _) hsl
  refine lv_aload_n hx hb d_La_law_556 rfl (lv_at hl 3 rfl) ?_
  refine lv_aload_n hx hb d_La_law_557 rfl (lv_at hl 4 rfl) ?_
  refine lv_iload hx hb d_La_law_558 (lv_at hl 0 rfl) ?_
  refine lv_iconst (v := 1) hx hb d_La_law_560 (by decide) ?_
  refine lv_iadd hx hb d_La_law_561 ?_
  have eq9 : ((nI i) + 1 : Int32) = nI (i + 1) := nI_add i 1
  refine W.eq (g2 := F0 m 562 ls [.int (nI (i + 1)), .ref b, .ref (a 0)]) (by rw [eq9]) ?_
  refine lx_ld (kx := i + 1) (v := 1) C hS E1 (by omega) d_La_law_562 ?_
  refine lv_aload_n hx hb d_La_law_563 rfl (lv_at hl 4 rfl) ?_
  refine lv_iload hx hb d_La_law_564 (lv_at hl 0 rfl) ?_
  refine lv_iconst (v := 2) hx hb d_La_law_566 (by decide) ?_
  refine lv_iadd hx hb d_La_law_567 ?_
  have eq9 : ((nI i) + 2 : Int32) = nI (i + 2) := nI_add i 2
  refine W.eq (g2 := F0 m 568 ls [.int (nI (i + 2)), .ref b, .int 1, .ref (a 0)]) (by rw [eq9]) ?_
  refine lx_ld (kx := i + 2) (v := nI r) C hS E2 (by omega) d_La_law_568 ?_
  refine lv_aload_n hx hb d_La_law_569 rfl (lv_at hl 1 rfl) ?_
  refine xh_go (w2 := lx_W cI cZ cJ a (s1_cell1 S r) S (vp_updL W0 0 (S.Ct r).toInt64)) (wr := lx_R cI cZ cJ a S) (xh_runS (g := F0 m 570 ls [.ref (a 34), .int (nI r), .int 1, .ref (a 0)]) (As := [.ref (a 0), .int 1, .int (nI r), .ref (a 34)]) (rest := []) ⟨C.hx, C.hb, C.hml, C.hown, C.hg⟩ (c_La_cell1 l C.hLx D cI cZ cJ (a 0) (a 1) (a 2) (a 3) (a 4) (a 5) (a 6) (a 7) (a 8) (a 9) (a 10) (a 11) (a 12) (a 13) (a 14) (a 15) (a 16) S.P S.F S.B S.sr S.sd S.Rs S.Cs S.As S.Rt S.Ct S.At S.n S.k S.ks S.kt S.hs S.ds S.es S.xs S.ht S.dt S.et r (a 34) W0 (ha) H.size) m_La_cell q543 rfl rfl ⟨Nat.le_of_ble_eq_true rfl, Nat.le_of_ble_eq_true rfl⟩ ⟨xh_blind, xh_pre C.hK (lx_hT C.hT hS) C.hV hP hD [0, 1, 2, 3, 4, 5, 6, 7, 8, 9, 10, 11, 12, 13, 14, 15, 16, 34] (by decide) rfl⟩ rfl rfl hl.1 rfl (lv_room (Nat.le_of_ble_eq_true rfl)) d_La_law_570 ⟨hce0, hsl0⟩) hP hD hS hA [0, 1, 2, 3, 4, 5, 6, 7, 8, 9, 10, 11, 12, 13, 14, 15, 16, 34] [17, 18, 19, 20, 21, 22, 23, 24, 25, 26, 27, 28, 29, 30, 31, 32, 33] [17, 18, 19, 20, 21, 22, 23, 24, 25, 26, 27, 28, 29, 30, 31, 32, 33, 0, 1, 2, 3, 4, 5, 6, 7, 8, 9, 10, 11, 12, 13, 14, 15, 16, 34] rfl rfl (by decide) (by decide) rfl (by decide) (fun H locs hP hD hS => ?_)
  refine lv_istore hx hb d_La_law_573 hl (by decide) rfl (fun ls hl => ?_)
  have hl : lv_has ls 7 [(5, .int 0), (4, .int (nI i)), (3, .ref (a 34)), (2, .ref (a 17)), (1, .ref (a 0)), (0, .ref b)] := hl
  refine lv_aload_n hx hb d_La_law_575 rfl (lv_at hl 3 rfl) ?_
  refine lv_aload_n hx hb d_La_law_576 rfl (lv_at hl 5 rfl) ?_
  refine lv_iload hx hb d_La_law_577 (lv_at hl 1 rfl) ?_
  refine lv_iconst (v := 1) hx hb d_La_law_579 (by decide) ?_
  refine lv_iadd hx hb d_La_law_580 ?_
  have eq9 : ((nI i) + 1 : Int32) = nI (i + 1) := nI_add i 1
  refine W.eq (g2 := F0 m 581 ls [.int (nI (i + 1)), .ref b, .ref (a 17)]) (by rw [eq9]) ?_
  refine lx_ld (kx := i + 1) (v := 1) C hS E1 (by omega) d_La_law_581 ?_
  refine lv_aload_n hx hb d_La_law_582 rfl (lv_at hl 5 rfl) ?_
  refine lv_iload hx hb d_La_law_583 (lv_at hl 1 rfl) ?_
  refine lv_iconst (v := 2) hx hb d_La_law_585 (by decide) ?_
  refine lv_iadd hx hb d_La_law_586 ?_
  have eq9 : ((nI i) + 2 : Int32) = nI (i + 2) := nI_add i 2
  refine W.eq (g2 := F0 m 587 ls [.int (nI (i + 2)), .ref b, .int 1, .ref (a 17)]) (by rw [eq9]) ?_
  refine lx_ld (kx := i + 2) (v := nI r) C hS E2 (by omega) d_La_law_587 ?_
  refine xi_go (w2 := lx_W cI cZ cJ a (s1_cell1 S r) (s1_cell1 S r) (vp_updL W0 0 (S.Ct r).toInt64)) (wr := lx_X cI cZ cJ a (s1_cell1 S r) ++ [lx_w cJ a (vp_updL W0 0 (S.Ct r).toInt64)]) (va_runV (As := [.int 1, .int (nI r)]) (rest := []) (C := R_Mo) ⟨C.hx, C.hb, C.hml, C.hown, C.hg⟩ (c_Mo_cell1 l D cI cZ cJ (a 17) (a 18) (a 19) (a 20) (a 21) (a 22) (a 23) (a 24) (a 25) (a 26) (a 27) (a 28) (a 29) (a 30) (a 31) (a 32) (a 33) S.Po S.Pa S.Pb S.Pc S.G S.O S.Bm S.sr S.sd (tm_jn 8 S.Rs S.Rt) (tm_jn 64 S.Cs S.Ct) (tm_tw S.es S.et) (tm_tw S.hs S.ht) (tm_tw S.ds S.dt) (tm_tw (nI S.ks) (nI S.kt)) (tm_jn 120 S.As S.At) S.n S.k S.th S.tl S.nx r (ha) H.size) ⟨xg_B C.hg m_Mo_cell.1 m_Mo_cell.2.2.1 m_Mo_cell.2.2.2.1 m_Mo_cell.2.2.2.2 q748 rfl rfl ⟨Nat.le_of_ble_eq_true rfl, Nat.le_of_ble_eq_true rfl⟩, C.hg _ m_Mo_cell.2.1, C.hg _ q750⟩ ⟨xw_blind, (va_recv (q0 := 17) C.hK.1 hP rfl rfl), xw_pre C.hK hP hD [17, 18, 19, 20, 21, 22, 23, 24, 25, 26, 27, 28, 29, 30, 31, 32, 33] (by decide) rfl⟩ rfl rfl hl.1 rfl (lv_room (Nat.le_of_ble_eq_true rfl)) d_La_law_588 ⟨hce0, hsl0⟩) hP hD hS hA [17, 18, 19, 20, 21, 22, 23, 24, 25, 26, 27, 28, 29, 30, 31, 32, 33] [0, 1, 2, 3, 4, 5, 6, 7, 8, 9, 10, 11, 12, 13, 14, 15, 16, 34] [0, 1, 2, 3, 4, 5, 6, 7, 8, 9, 10, 11, 12, 13, 14, 15, 16, 18, 19, 20, 21, 22, 23, 24, 25, 26, 27, 28, 29, 30, 31, 32, 33, 34, 17] rfl rfl (by decide) (by decide) rfl (by decide) (fun H locs hP hD hS => ?_)
  refine lv_istore hx hb d_La_law_591 hl (by decide) rfl (fun ls hl => ?_)
  have hl : lv_has ls 7 [(6, .int ((tm_jn 64 S.Cs S.Ct) (64 + r))), (5, .int 0), (4, .int (nI i)), (3, .ref (a 34)), (2, .ref (a 17)), (1, .ref (a 0)), (0, .ref b)] := hl
  refine lv_aload_n hx hb d_La_law_593 rfl (lv_at hl 4 rfl) ?_
  refine xr_V (C := R_Mo) (As := []) (rest := []) ⟨C.hx, C.hb, C.hml, C.hown, C.hg⟩ (c_Mo_thrown l D cI cZ cJ (a 17) (a 18) (a 19) (a 20) (a 21) (a 22) (a 23) (a 24) (a 25) (a 26) (a 27) (a 28) (a 29) (a 30) (a 31) (a 32) (a 33) ((s1_cell1 S r).Po) ((s1_cell1 S r).Pa) ((s1_cell1 S r).Pb) ((s1_cell1 S r).Pc) ((s1_cell1 S r).G) ((s1_cell1 S r).O) ((s1_cell1 S r).Bm) ((s1_cell1 S r).sr) ((s1_cell1 S r).sd) (tm_jn 8 ((s1_cell1 S r).Rs) ((s1_cell1 S r).Rt)) (tm_jn 64 ((s1_cell1 S r).Cs) ((s1_cell1 S r).Ct)) (tm_tw ((s1_cell1 S r).es) ((s1_cell1 S r).et)) (tm_tw ((s1_cell1 S r).hs) ((s1_cell1 S r).ht)) (tm_tw ((s1_cell1 S r).ds) ((s1_cell1 S r).dt)) (tm_tw (nI (s1_cell1 S r).ks) (nI (s1_cell1 S r).kt)) (tm_jn 120 ((s1_cell1 S r).As) ((s1_cell1 S r).At)) ((s1_cell1 S r).n) ((s1_cell1 S r).k) 0 ((s1_cell1 S r).tl) ((s1_cell1 S r).nx)) m_Mo_thrown q628 q630 ⟨rfl, rfl⟩ ⟨Nat.le_of_ble_eq_true rfl, Nat.le_of_ble_eq_true rfl⟩ C.hK hP [17, 18, 19, 20, 21, 22, 23, 24, 25, 26, 27, 28, 29, 30, 31, 32, 33] rfl (va_recv (q0 := 17) C.hK.1 hP rfl rfl) rfl hl.1 rfl (Nat.le_of_ble_eq_true rfl) d_La_law_594 ⟨hce0, hsl0⟩ ?_
  refine lv_iload hx hb d_La_law_597 (lv_at hl 1 rfl) ?_
  refine lv_icmp_eq (tgt := 604) hx hb d_La_law_599 rfl (fun _ => ?_) (fun hz9 => absurd (by decide) hz9)
  refine lv_iload hx hb d_La_law_604 (lv_at hl 1 rfl) ?_
  refine lv_if_ne (tgt := 621) hx hb d_La_law_606 rfl (fun hz9 => absurd (by decide) hz9) (fun _ => ?_)
  refine lv_aload_n hx hb d_La_law_609 rfl (lv_at hl 3 rfl) ?_
  refine lv_iconst (v := 0) hx hb d_La_law_610 (by decide) ?_
  refine xa_jd hx hb hK hP 34 2 rfl rfl (kx := 0) (rfl) (by decide) (by decide) d_La_law_611 ?_
  refine lv_iload hx hb d_La_law_612 (lv_at hl 0 rfl) ?_
  refine lv_i2l (v := ((tm_jn 64 S.Cs S.Ct) (64 + r)).toInt64) hx hb d_La_law_614 rfl ?_
  refine lx_cmp C (lx_cel1) d_La_law_615 ?_
  refine lv_if_eq (tgt := 621) hx hb d_La_law_616 rfl (fun _ => ?_) (fun hz9 => absurd (by decide) hz9)
  refine lv_goto (tgt := 704) hx hb d_La_law_621 rfl ?_
  exact W.widen (by omega) (by omega) (k _ H locs ls ⟨hP, hD, hS⟩ (lv_sub hl [2, 3, 4, 5, 6] rfl))

def s1_cell_1 (S : lx_S) (y z : Int32) : lx_S := lx_mk S.P S.F S.B S.sr S.sd S.Rs S.Cs S.As S.Rt S.Ct S.At S.Po S.Pa S.Pb S.Pc S.G S.O S.Bm S.n S.k S.ks S.kt S.hs S.ds S.es S.xs S.ht S.dt S.et S.tl S.nx 1
set_option maxHeartbeats 4000000 in
set_option maxRecDepth 100000 in
theorem la_cell_1 {p : Program} {l : Launch} {e : Env} {s : State} {m : MethodId} {args : Array Value} {below : List Frame} {meth : Method} {c : Code} {D : va_G} {cI cZ cJ : ClassId} {b L : Nat} {xs : Nat → Int32} {Q : State → Prop} (C : lx_C p l s m args c D cI cZ cJ b L xs) {a : Nat → Nat} {S : lx_S} {W0 : Nat → Int64} {H : Heap} {locs : List Loc} (X : lx_H D cI cZ cJ s a S S W0 H locs) {ls : Array Slot} {i : Nat} (hi : i + 5 ≤ L) (hl : lv_has ls 7 [(4, .int (nI i)), (3, .ref (a 34)), (2, .ref (a 17)), (1, .ref (a 0)), (0, .ref b)]) {cells slots : Nat} (hce : cells + 1 ≤ room_1.cells) (hsl : slots + 6 ≤ room_1.slots) (y z : Int32) (E1 : xs (i + 1) = y) (E2 : xs (i + 2) = z) (hbad : tm_im y = 0 ∨ tm_wi z 0 31 = 0)
    (k : ∀ (W1 : Nat → Int64) (H1 : Heap) (locs1 : List Loc) (ls1 : Array Slot), lx_H D cI cZ cJ s a (s1_cell_1 S y z) (s1_cell_1 S y z) W1 H1 locs1 → lv_has ls1 7 [(4, .int (nI i)), (3, .ref (a 34)), (2, .ref (a 17)), (1, .ref (a 0)), (0, .ref b)] → W p l e room_1 s m args below meth c H1 locs1 (cells + 1) (slots + 6) Q (F0 m 704 ls1 [])) : W p l e room_1 s m args below meth c H locs cells slots Q (F0 m 556 ls []) := by
  obtain ⟨hP, hD, hS⟩ := X
  have hx := C.hx
  have hb := C.hb
  have hK := C.hK
  have hL := C.hL
  have hA : ∀ q : Nat, s.heap.size ≤ q → lx_A s q := fun _ h => h
  have hce0 : cells ≤ room_1.cells := Nat.le_of_succ_le hce
  have hsl0 : slots ≤ room_1.slots := Nat.le_trans (Nat.le_add_right _ _) hsl
  refine lv_aload_n hx hb d_La_law_556 rfl (lv_at hl 3 rfl) ?_
  refine lv_aload_n hx hb d_La_law_557 rfl (lv_at hl 4 rfl) ?_
  refine lv_iload hx hb d_La_law_558 (lv_at hl 0 rfl) ?_
  refine lv_iconst (v := 1) hx hb d_La_law_560 (by decide) ?_
  refine lv_iadd hx hb d_La_law_561 ?_
  have eq9 : ((nI i) + 1 : Int32) = nI (i + 1) := nI_add i 1
  refine W.eq (g2 := F0 m 562 ls [.int (nI (i + 1)), .ref b, .ref (a 0)]) (by rw [eq9]) ?_
  refine lx_ld (kx := i + 1) (v := y) C hS E1 (by omega) d_La_law_562 ?_
  refine lv_aload_n hx hb d_La_law_563 rfl (lv_at hl 4 rfl) ?_
  refine lv_iload hx hb d_La_law_564 (lv_at hl 0 rfl) ?_
  refine lv_iconst (v := 2) hx hb d_La_law_566 (by decide) ?_
  refine lv_iadd hx hb d_La_law_567 ?_
  have eq9 : ((nI i) + 2 : Int32) = nI (i + 2) := nI_add i 2
  refine W.eq (g2 := F0 m 568 ls [.int (nI (i + 2)), .ref b, .int y, .ref (a 0)]) (by rw [eq9]) ?_
  refine lx_ld (kx := i + 2) (v := z) C hS E2 (by omega) d_La_law_568 ?_
  refine lv_aload_n hx hb d_La_law_569 rfl (lv_at hl 1 rfl) ?_
  refine xh_go (w2 := lx_W cI cZ cJ a (s1_cell_1 S y z) S W0) (wr := lx_R cI cZ cJ a S) (xh_runS (g := F0 m 570 ls [.ref (a 34), .int z, .int y, .ref (a 0)]) (As := [.ref (a 0), .int y, .int z, .ref (a 34)]) (rest := []) ⟨C.hx, C.hb, C.hml, C.hown, C.hg⟩ (c_La_cell_1 l C.hLx D cI cZ cJ (a 0) (a 1) (a 2) (a 3) (a 4) (a 5) (a 6) (a 7) (a 8) (a 9) (a 10) (a 11) (a 12) (a 13) (a 14) (a 15) (a 16) S.P S.F S.B S.sr S.sd S.Rs S.Cs S.As S.Rt S.Ct S.At S.n S.k S.ks S.kt S.hs S.ds S.es S.xs S.ht S.dt S.et y z (a 34) W0 (hbad) H.size) m_La_cell q543 rfl rfl ⟨Nat.le_of_ble_eq_true rfl, Nat.le_of_ble_eq_true rfl⟩ ⟨xh_blind, xh_pre C.hK (lx_hT C.hT hS) C.hV hP hD [0, 1, 2, 3, 4, 5, 6, 7, 8, 9, 10, 11, 12, 13, 14, 15, 16, 34] (by decide) rfl⟩ rfl rfl hl.1 rfl (lv_room (Nat.le_of_ble_eq_true rfl)) d_La_law_570 ⟨hce, hsl⟩) hP hD hS hA [0, 1, 2, 3, 4, 5, 6, 7, 8, 9, 10, 11, 12, 13, 14, 15, 16, 34] [17, 18, 19, 20, 21, 22, 23, 24, 25, 26, 27, 28, 29, 30, 31, 32, 33] [17, 18, 19, 20, 21, 22, 23, 24, 25, 26, 27, 28, 29, 30, 31, 32, 33, 0, 1, 2, 3, 4, 5, 6, 7, 8, 9, 10, 11, 12, 13, 14, 15, 16, 34] rfl rfl (by decide) (by decide) rfl (by decide) (fun H locs hP hD hS => ?_)
  refine lv_istore hx hb d_La_law_573 hl (by decide) rfl (fun ls hl => ?_)
  have hl : lv_has ls 7 [(5, .int 1), (4, .int (nI i)), (3, .ref (a 34)), (2, .ref (a 17)), (1, .ref (a 0)), (0, .ref b)] := hl
  refine lv_aload_n hx hb d_La_law_575 rfl (lv_at hl 3 rfl) ?_
  refine lv_aload_n hx hb d_La_law_576 rfl (lv_at hl 5 rfl) ?_
  refine lv_iload hx hb d_La_law_577 (lv_at hl 1 rfl) ?_
  refine lv_iconst (v := 1) hx hb d_La_law_579 (by decide) ?_
  refine lv_iadd hx hb d_La_law_580 ?_
  have eq9 : ((nI i) + 1 : Int32) = nI (i + 1) := nI_add i 1
  refine W.eq (g2 := F0 m 581 ls [.int (nI (i + 1)), .ref b, .ref (a 17)]) (by rw [eq9]) ?_
  refine lx_ld (kx := i + 1) (v := y) C hS E1 (by omega) d_La_law_581 ?_
  refine lv_aload_n hx hb d_La_law_582 rfl (lv_at hl 5 rfl) ?_
  refine lv_iload hx hb d_La_law_583 (lv_at hl 1 rfl) ?_
  refine lv_iconst (v := 2) hx hb d_La_law_585 (by decide) ?_
  refine lv_iadd hx hb d_La_law_586 ?_
  have eq9 : ((nI i) + 2 : Int32) = nI (i + 2) := nI_add i 2
  refine W.eq (g2 := F0 m 587 ls [.int (nI (i + 2)), .ref b, .int y, .ref (a 17)]) (by rw [eq9]) ?_
  refine lx_ld (kx := i + 2) (v := z) C hS E2 (by omega) d_La_law_587 ?_
  refine xi_go (w2 := lx_W cI cZ cJ a (s1_cell_1 S y z) (s1_cell_1 S y z) W0) (wr := lx_X cI cZ cJ a (s1_cell_1 S y z) ++ [lx_w cJ a W0]) (va_runV (As := [.int y, .int z]) (rest := []) (C := R_Mo) ⟨C.hx, C.hb, C.hml, C.hown, C.hg⟩ (c_Mo_cell_1 l D cI cZ cJ (a 17) (a 18) (a 19) (a 20) (a 21) (a 22) (a 23) (a 24) (a 25) (a 26) (a 27) (a 28) (a 29) (a 30) (a 31) (a 32) (a 33) S.Po S.Pa S.Pb S.Pc S.G S.O S.Bm S.sr S.sd (tm_jn 8 S.Rs S.Rt) (tm_jn 64 S.Cs S.Ct) (tm_tw S.es S.et) (tm_tw S.hs S.ht) (tm_tw S.ds S.dt) (tm_tw (nI S.ks) (nI S.kt)) (tm_jn 120 S.As S.At) S.n S.k S.th S.tl S.nx y z (by rw [← tm_im_eq]; exact hbad) H.size) ⟨xg_B C.hg m_Mo_cell.1 m_Mo_cell.2.2.1 m_Mo_cell.2.2.2.1 m_Mo_cell.2.2.2.2 q748 rfl rfl ⟨Nat.le_of_ble_eq_true rfl, Nat.le_of_ble_eq_true rfl⟩, C.hg _ m_Mo_cell.2.1, C.hg _ q750⟩ ⟨xw_blind, (va_recv (q0 := 17) C.hK.1 hP rfl rfl), xw_pre C.hK hP hD [17, 18, 19, 20, 21, 22, 23, 24, 25, 26, 27, 28, 29, 30, 31, 32, 33] (by decide) rfl⟩ rfl rfl hl.1 rfl (lv_room (Nat.le_of_ble_eq_true rfl)) d_La_law_588 ⟨hce, hsl⟩) hP hD hS hA [17, 18, 19, 20, 21, 22, 23, 24, 25, 26, 27, 28, 29, 30, 31, 32, 33] [0, 1, 2, 3, 4, 5, 6, 7, 8, 9, 10, 11, 12, 13, 14, 15, 16, 34] [0, 1, 2, 3, 4, 5, 6, 7, 8, 9, 10, 11, 12, 13, 14, 15, 16, 18, 19, 20, 21, 22, 23, 24, 25, 26, 27, 28, 29, 30, 31, 32, 33, 34, 17] rfl rfl (by decide) (by decide) rfl (by decide) (fun H locs hP hD hS => ?_)
  refine lv_istore hx hb d_La_law_591 hl (by decide) rfl (fun ls hl => ?_)
  have hl : lv_has ls 7 [(6, .int 0), (5, .int 1), (4, .int (nI i)), (3, .ref (a 34)), (2, .ref (a 17)), (1, .ref (a 0)), (0, .ref b)] := hl
  refine lv_aload_n hx hb d_La_law_593 rfl (lv_at hl 4 rfl) ?_
  refine xr_V (C := R_Mo) (As := []) (rest := []) ⟨C.hx, C.hb, C.hml, C.hown, C.hg⟩ (c_Mo_thrown l D cI cZ cJ (a 17) (a 18) (a 19) (a 20) (a 21) (a 22) (a 23) (a 24) (a 25) (a 26) (a 27) (a 28) (a 29) (a 30) (a 31) (a 32) (a 33) ((s1_cell_1 S y z).Po) ((s1_cell_1 S y z).Pa) ((s1_cell_1 S y z).Pb) ((s1_cell_1 S y z).Pc) ((s1_cell_1 S y z).G) ((s1_cell_1 S y z).O) ((s1_cell_1 S y z).Bm) ((s1_cell_1 S y z).sr) ((s1_cell_1 S y z).sd) (tm_jn 8 ((s1_cell_1 S y z).Rs) ((s1_cell_1 S y z).Rt)) (tm_jn 64 ((s1_cell_1 S y z).Cs) ((s1_cell_1 S y z).Ct)) (tm_tw ((s1_cell_1 S y z).es) ((s1_cell_1 S y z).et)) (tm_tw ((s1_cell_1 S y z).hs) ((s1_cell_1 S y z).ht)) (tm_tw ((s1_cell_1 S y z).ds) ((s1_cell_1 S y z).dt)) (tm_tw (nI (s1_cell_1 S y z).ks) (nI (s1_cell_1 S y z).kt)) (tm_jn 120 ((s1_cell_1 S y z).As) ((s1_cell_1 S y z).At)) ((s1_cell_1 S y z).n) ((s1_cell_1 S y z).k) 1 ((s1_cell_1 S y z).tl) ((s1_cell_1 S y z).nx)) m_Mo_thrown q628 q630 ⟨rfl, rfl⟩ ⟨Nat.le_of_ble_eq_true rfl, Nat.le_of_ble_eq_true rfl⟩ C.hK hP [17, 18, 19, 20, 21, 22, 23, 24, 25, 26, 27, 28, 29, 30, 31, 32, 33] rfl (va_recv (q0 := 17) C.hK.1 hP rfl rfl) rfl hl.1 rfl (Nat.le_of_ble_eq_true rfl) d_La_law_594 ⟨hce, hsl⟩ ?_
  refine lv_iload hx hb d_La_law_597 (lv_at hl 1 rfl) ?_
  refine lv_icmp_eq (tgt := 604) hx hb d_La_law_599 rfl (fun _ => ?_) (fun hz9 => absurd (by decide) hz9)
  refine lv_iload hx hb d_La_law_604 (lv_at hl 1 rfl) ?_
  refine lv_if_ne (tgt := 621) hx hb d_La_law_606 rfl (fun _ => ?_) (fun hz9 => absurd hz9 (by decide))
  refine lv_goto (tgt := 704) hx hb d_La_law_621 rfl ?_
  exact W.widen (by omega) (by omega) (k _ H locs ls ⟨hP, hD, hS⟩ (lv_sub hl [2, 3, 4, 5, 6] rfl))

def s1_access0 (S : lx_S) (q w : Nat) : lx_S := lx_mk S.P S.F S.B S.sr S.sd S.Rs S.Cs S.As S.Rt S.Ct S.At S.Po S.Pa S.Pb S.Pc S.G S.O S.Bm S.n S.k S.ks S.kt S.hs S.ds S.es S.xs S.ht S.dt S.et S.tl S.nx 0
set_option maxHeartbeats 4000000 in
set_option maxRecDepth 100000 in
theorem la_access0 {p : Program} {l : Launch} {e : Env} {s : State} {m : MethodId} {args : Array Value} {below : List Frame} {meth : Method} {c : Code} {D : va_G} {cI cZ cJ : ClassId} {b L : Nat} {xs : Nat → Int32} {Q : State → Prop} (C : lx_C p l s m args c D cI cZ cJ b L xs) {a : Nat → Nat} {S : lx_S} {W0 : Nat → Int64} {H : Heap} {locs : List Loc} (X : lx_H D cI cZ cJ s a S S W0 H locs) {ls : Array Slot} {i : Nat} (hi : i + 5 ≤ L) (hl : lv_has ls 7 [(4, .int (nI i)), (3, .ref (a 34)), (2, .ref (a 17)), (1, .ref (a 0)), (0, .ref b)]) {cells slots : Nat} (hce : cells + 1 ≤ room_1.cells) (hsl : slots + 6 ≤ room_1.slots) (q w : Nat) (E1 : xs (i + 1) = 0) (E2 : xs (i + 2) = nI q) (E3 : xs (i + 3) = nI w) (hkp : S.ks ≤ 40) (hq : q < S.ks) (hw : w < 3)
    (k : ∀ (W1 : Nat → Int64) (H1 : Heap) (locs1 : List Loc) (ls1 : Array Slot), lx_H D cI cZ cJ s a (s1_access0 S q w) (s1_access0 S q w) W1 H1 locs1 → lv_has ls1 7 [(4, .int (nI i)), (3, .ref (a 34)), (2, .ref (a 17)), (1, .ref (a 0)), (0, .ref b)] → W p l e room_1 s m args below meth c H1 locs1 (cells + 1) (slots + 6) Q (F0 m 704 ls1 [])) : W p l e room_1 s m args below meth c H locs cells slots Q (F0 m 624 ls []) := by
  obtain ⟨hP, hD, hS⟩ := X
  have hx := C.hx
  have hb := C.hb
  have hK := C.hK
  have hL := C.hL
  have hA : ∀ q : Nat, s.heap.size ≤ q → lx_A s q := fun _ h => h
  have hce0 : cells ≤ room_1.cells := Nat.le_of_succ_le hce
  have hsl0 : slots ≤ room_1.slots := Nat.le_trans (Nat.le_add_right _ _) hsl
  refine lv_aload_n hx hb d_La_law_624 rfl (lv_at hl 3 rfl) ?_
  refine lv_aload_n hx hb d_La_law_625 rfl (lv_at hl 4 rfl) ?_
  refine lv_iload hx hb d_La_law_626 (lv_at hl 0 rfl) ?_
  refine lv_iconst (v := 1) hx hb d_La_law_628 (by decide) ?_
  refine lv_iadd hx hb d_La_law_629 ?_
  have eq9 : ((nI i) + 1 : Int32) = nI (i + 1) := nI_add i 1
  refine W.eq (g2 := F0 m 630 ls [.int (nI (i + 1)), .ref b, .ref (a 0)]) (by rw [eq9]) ?_
  refine lx_ld (kx := i + 1) (v := 0) C hS E1 (by omega) d_La_law_630 ?_
  refine lv_aload_n hx hb d_La_law_631 rfl (lv_at hl 4 rfl) ?_
  refine lv_iload hx hb d_La_law_632 (lv_at hl 0 rfl) ?_
  refine lv_iconst (v := 2) hx hb d_La_law_634 (by decide) ?_
  refine lv_iadd hx hb d_La_law_635 ?_
  have eq9 : ((nI i) + 2 : Int32) = nI (i + 2) := nI_add i 2
  refine W.eq (g2 := F0 m 636 ls [.int (nI (i + 2)), .ref b, .int 0, .ref (a 0)]) (by rw [eq9]) ?_
  refine lx_ld (kx := i + 2) (v := nI q) C hS E2 (by omega) d_La_law_636 ?_
  refine lv_aload_n hx hb d_La_law_637 rfl (lv_at hl 4 rfl) ?_
  refine lv_iload hx hb d_La_law_638 (lv_at hl 0 rfl) ?_
  refine lv_iconst (v := 3) hx hb d_La_law_640 (by decide) ?_
  refine lv_iadd hx hb d_La_law_641 ?_
  have eq9 : ((nI i) + 3 : Int32) = nI (i + 3) := nI_add i 3
  refine W.eq (g2 := F0 m 642 ls [.int (nI (i + 3)), .ref b, .int (nI q), .int 0, .ref (a 0)]) (by rw [eq9]) ?_
  refine lx_ld (kx := i + 3) (v := nI w) C hS E3 (by omega) d_La_law_642 ?_
  refine lv_aload_n hx hb d_La_law_643 rfl (lv_at hl 1 rfl) ?_
  refine xh_go (w2 := lx_W cI cZ cJ a (s1_access0 S q w) S (vp_updL W0 0 (S.As (q * 3 + w)).toInt64)) (wr := lx_R cI cZ cJ a S) (xh_runS (g := F0 m 644 ls [.ref (a 34), .int (nI w), .int (nI q), .int 0, .ref (a 0)]) (As := [.ref (a 0), .int 0, .int (nI q), .int (nI w), .ref (a 34)]) (rest := []) ⟨C.hx, C.hb, C.hml, C.hown, C.hg⟩ (c_La_access0 l C.hLx D cI cZ cJ (a 0) (a 1) (a 2) (a 3) (a 4) (a 5) (a 6) (a 7) (a 8) (a 9) (a 10) (a 11) (a 12) (a 13) (a 14) (a 15) (a 16) S.P S.F S.B S.sr S.sd S.Rs S.Cs S.As S.Rt S.Ct S.At S.n S.k S.ks S.kt S.hs S.ds S.es S.xs S.ht S.dt S.et q w (a 34) W0 (hkp) (hq) (hw) H.size) m_La_access q550 rfl rfl ⟨Nat.le_of_ble_eq_true rfl, Nat.le_of_ble_eq_true rfl⟩ ⟨xh_blind, xh_pre C.hK (lx_hT C.hT hS) C.hV hP hD [0, 1, 2, 3, 4, 5, 6, 7, 8, 9, 10, 11, 12, 13, 14, 15, 16, 34] (by decide) rfl⟩ rfl rfl hl.1 rfl (lv_room (Nat.le_of_ble_eq_true rfl)) d_La_law_644 ⟨hce0, hsl0⟩) hP hD hS hA [0, 1, 2, 3, 4, 5, 6, 7, 8, 9, 10, 11, 12, 13, 14, 15, 16, 34] [17, 18, 19, 20, 21, 22, 23, 24, 25, 26, 27, 28, 29, 30, 31, 32, 33] [17, 18, 19, 20, 21, 22, 23, 24, 25, 26, 27, 28, 29, 30, 31, 32, 33, 0, 1, 2, 3, 4, 5, 6, 7, 8, 9, 10, 11, 12, 13, 14, 15, 16, 34] rfl rfl (by decide) (by decide) rfl (by decide) (fun H locs hP hD hS => ?_)
  refine lv_istore hx hb d_La_law_647 hl (by decide) rfl (fun ls hl => ?_)
  have hl : lv_has ls 7 [(5, .int 0), (4, .int (nI i)), (3, .ref (a 34)), (2, .ref (a 17)), (1, .ref (a 0)), (0, .ref b)] := hl
  refine lv_aload_n hx hb d_La_law_649 rfl (lv_at hl 3 rfl) ?_
  refine lv_aload_n hx hb d_La_law_650 rfl (lv_at hl 5 rfl) ?_
  refine lv_iload hx hb d_La_law_651 (lv_at hl 1 rfl) ?_
  refine lv_iconst (v := 1) hx hb d_La_law_653 (by decide) ?_
  refine lv_iadd hx hb d_La_law_654 ?_
  have eq9 : ((nI i) + 1 : Int32) = nI (i + 1) := nI_add i 1
  refine W.eq (g2 := F0 m 655 ls [.int (nI (i + 1)), .ref b, .ref (a 17)]) (by rw [eq9]) ?_
  refine lx_ld (kx := i + 1) (v := 0) C hS E1 (by omega) d_La_law_655 ?_
  refine lv_aload_n hx hb d_La_law_656 rfl (lv_at hl 5 rfl) ?_
  refine lv_iload hx hb d_La_law_657 (lv_at hl 1 rfl) ?_
  refine lv_iconst (v := 2) hx hb d_La_law_659 (by decide) ?_
  refine lv_iadd hx hb d_La_law_660 ?_
  have eq9 : ((nI i) + 2 : Int32) = nI (i + 2) := nI_add i 2
  refine W.eq (g2 := F0 m 661 ls [.int (nI (i + 2)), .ref b, .int 0, .ref (a 17)]) (by rw [eq9]) ?_
  refine lx_ld (kx := i + 2) (v := nI q) C hS E2 (by omega) d_La_law_661 ?_
  refine lv_aload_n hx hb d_La_law_662 rfl (lv_at hl 5 rfl) ?_
  refine lv_iload hx hb d_La_law_663 (lv_at hl 1 rfl) ?_
  refine lv_iconst (v := 3) hx hb d_La_law_665 (by decide) ?_
  refine lv_iadd hx hb d_La_law_666 ?_
  have eq9 : ((nI i) + 3 : Int32) = nI (i + 3) := nI_add i 3
  refine W.eq (g2 := F0 m 667 ls [.int (nI (i + 3)), .ref b, .int (nI q), .int 0, .ref (a 17)]) (by rw [eq9]) ?_
  refine lx_ld (kx := i + 3) (v := nI w) C hS E3 (by omega) d_La_law_667 ?_
  refine xi_go (w2 := lx_W cI cZ cJ a (s1_access0 S q w) (s1_access0 S q w) (vp_updL W0 0 (S.As (q * 3 + w)).toInt64)) (wr := lx_X cI cZ cJ a (s1_access0 S q w) ++ [lx_w cJ a (vp_updL W0 0 (S.As (q * 3 + w)).toInt64)]) (va_runV (As := [.int 0, .int (nI q), .int (nI w)]) (rest := []) (C := R_Mo) ⟨C.hx, C.hb, C.hml, C.hown, C.hg⟩ (c_Mo_access0 l D cI cZ cJ (a 17) (a 18) (a 19) (a 20) (a 21) (a 22) (a 23) (a 24) (a 25) (a 26) (a 27) (a 28) (a 29) (a 30) (a 31) (a 32) (a 33) S.Po S.Pa S.Pb S.Pc S.G S.O S.Bm S.sr S.sd (tm_jn 8 S.Rs S.Rt) (tm_jn 64 S.Cs S.Ct) (tm_tw S.es S.et) (tm_tw S.hs S.ht) (tm_tw S.ds S.dt) (tm_tw (nI S.ks) (nI S.kt)) (tm_jn 120 S.As S.At) S.n S.k S.th S.tl S.nx q w S.ks (rfl) (hkp) (hq) (hw) H.size) ⟨xg_B C.hg m_Mo_access.1 m_Mo_access.2.2.1 m_Mo_access.2.2.2.1 m_Mo_access.2.2.2.2 q752 rfl rfl ⟨Nat.le_of_ble_eq_true rfl, Nat.le_of_ble_eq_true rfl⟩, C.hg _ m_Mo_access.2.1, C.hg _ q754⟩ ⟨xw_blind, (va_recv (q0 := 17) C.hK.1 hP rfl rfl), xw_pre C.hK hP hD [17, 18, 19, 20, 21, 22, 23, 24, 25, 26, 27, 28, 29, 30, 31, 32, 33] (by decide) rfl⟩ rfl rfl hl.1 rfl (lv_room (Nat.le_of_ble_eq_true rfl)) d_La_law_668 ⟨hce0, hsl0⟩) hP hD hS hA [17, 18, 19, 20, 21, 22, 23, 24, 25, 26, 27, 28, 29, 30, 31, 32, 33] [0, 1, 2, 3, 4, 5, 6, 7, 8, 9, 10, 11, 12, 13, 14, 15, 16, 34] [0, 1, 2, 3, 4, 5, 6, 7, 8, 9, 10, 11, 12, 13, 14, 15, 16, 18, 19, 20, 21, 22, 23, 24, 25, 26, 27, 28, 29, 30, 31, 32, 33, 34, 17] rfl rfl (by decide) (by decide) rfl (by decide) (fun H locs hP hD hS => ?_)
  refine lv_istore hx hb d_La_law_671 hl (by decide) rfl (fun ls hl => ?_)
  have hl : lv_has ls 7 [(6, .int ((tm_jn 120 S.As S.At) (0 + 3 * q + w))), (5, .int 0), (4, .int (nI i)), (3, .ref (a 34)), (2, .ref (a 17)), (1, .ref (a 0)), (0, .ref b)] := hl
  refine lv_aload_n hx hb d_La_law_673 rfl (lv_at hl 4 rfl) ?_
  refine xr_V (C := R_Mo) (As := []) (rest := []) ⟨C.hx, C.hb, C.hml, C.hown, C.hg⟩ (c_Mo_thrown l D cI cZ cJ (a 17) (a 18) (a 19) (a 20) (a 21) (a 22) (a 23) (a 24) (a 25) (a 26) (a 27) (a 28) (a 29) (a 30) (a 31) (a 32) (a 33) ((s1_access0 S q w).Po) ((s1_access0 S q w).Pa) ((s1_access0 S q w).Pb) ((s1_access0 S q w).Pc) ((s1_access0 S q w).G) ((s1_access0 S q w).O) ((s1_access0 S q w).Bm) ((s1_access0 S q w).sr) ((s1_access0 S q w).sd) (tm_jn 8 ((s1_access0 S q w).Rs) ((s1_access0 S q w).Rt)) (tm_jn 64 ((s1_access0 S q w).Cs) ((s1_access0 S q w).Ct)) (tm_tw ((s1_access0 S q w).es) ((s1_access0 S q w).et)) (tm_tw ((s1_access0 S q w).hs) ((s1_access0 S q w).ht)) (tm_tw ((s1_access0 S q w).ds) ((s1_access0 S q w).dt)) (tm_tw (nI (s1_access0 S q w).ks) (nI (s1_access0 S q w).kt)) (tm_jn 120 ((s1_access0 S q w).As) ((s1_access0 S q w).At)) ((s1_access0 S q w).n) ((s1_access0 S q w).k) 0 ((s1_access0 S q w).tl) ((s1_access0 S q w).nx)) m_Mo_thrown q628 q630 ⟨rfl, rfl⟩ ⟨Nat.le_of_ble_eq_true rfl, Nat.le_of_ble_eq_true rfl⟩ C.hK hP [17, 18, 19, 20, 21, 22, 23, 24, 25, 26, 27, 28, 29, 30, 31, 32, 33] rfl (va_recv (q0 := 17) C.hK.1 hP rfl rfl) rfl hl.1 rfl (Nat.le_of_ble_eq_true rfl) d_La_law_674 ⟨hce0, hsl0⟩ ?_
  refine lv_iload hx hb d_La_law_677 (lv_at hl 1 rfl) ?_
  refine lv_icmp_eq (tgt := 684) hx hb d_La_law_679 rfl (fun _ => ?_) (fun hz9 => absurd (by decide) hz9)
  refine lv_iload hx hb d_La_law_684 (lv_at hl 1 rfl) ?_
  refine lv_if_ne (tgt := 701) hx hb d_La_law_686 rfl (fun hz9 => absurd (by decide) hz9) (fun _ => ?_)
  refine lv_aload_n hx hb d_La_law_689 rfl (lv_at hl 3 rfl) ?_
  refine lv_iconst (v := 0) hx hb d_La_law_690 (by decide) ?_
  refine xa_jd hx hb hK hP 34 2 rfl rfl (kx := 0) (rfl) (by decide) (by decide) d_La_law_691 ?_
  refine lv_iload hx hb d_La_law_692 (lv_at hl 0 rfl) ?_
  refine lv_i2l (v := ((tm_jn 120 S.As S.At) (0 + 3 * q + w)).toInt64) hx hb d_La_law_694 rfl ?_
  refine lx_cmp C (lx_acc0 (by omega)) d_La_law_695 ?_
  refine lv_if_eq (tgt := 701) hx hb d_La_law_696 rfl (fun _ => ?_) (fun hz9 => absurd (by decide) hz9)
  refine lv_goto (tgt := 704) hx hb d_La_law_701 rfl ?_
  exact W.widen (by omega) (by omega) (k _ H locs ls ⟨hP, hD, hS⟩ (lv_sub hl [2, 3, 4, 5, 6] rfl))

def s1_access0_2 (S : lx_S) (z w : Int32) : lx_S := lx_mk S.P S.F S.B S.sr S.sd S.Rs S.Cs S.As S.Rt S.Ct S.At S.Po S.Pa S.Pb S.Pc S.G S.O S.Bm S.n S.k S.ks S.kt S.hs S.ds S.es S.xs S.ht S.dt S.et S.tl S.nx 2
set_option maxHeartbeats 4000000 in
set_option maxRecDepth 100000 in
theorem la_access0_2 {p : Program} {l : Launch} {e : Env} {s : State} {m : MethodId} {args : Array Value} {below : List Frame} {meth : Method} {c : Code} {D : va_G} {cI cZ cJ : ClassId} {b L : Nat} {xs : Nat → Int32} {Q : State → Prop} (C : lx_C p l s m args c D cI cZ cJ b L xs) {a : Nat → Nat} {S : lx_S} {W0 : Nat → Int64} {H : Heap} {locs : List Loc} (X : lx_H D cI cZ cJ s a S S W0 H locs) {ls : Array Slot} {i : Nat} (hi : i + 5 ≤ L) (hl : lv_has ls 7 [(4, .int (nI i)), (3, .ref (a 34)), (2, .ref (a 17)), (1, .ref (a 0)), (0, .ref b)]) {cells slots : Nat} (hce : cells + 1 ≤ room_1.cells) (hsl : slots + 6 ≤ room_1.slots) (z w : Int32) (E1 : xs (i + 1) = 0) (E2 : xs (i + 2) = z) (E3 : xs (i + 3) = w) (g1 : ¬ tm_wi w 0 2 = 0) (g2 : tm_wi z 0 (nI S.ks - 1) = 0)
    (k : ∀ (W1 : Nat → Int64) (H1 : Heap) (locs1 : List Loc) (ls1 : Array Slot), lx_H D cI cZ cJ s a (s1_access0_2 S z w) (s1_access0_2 S z w) W1 H1 locs1 → lv_has ls1 7 [(4, .int (nI i)), (3, .ref (a 34)), (2, .ref (a 17)), (1, .ref (a 0)), (0, .ref b)] → W p l e room_1 s m args below meth c H1 locs1 (cells + 1) (slots + 6) Q (F0 m 704 ls1 [])) : W p l e room_1 s m args below meth c H locs cells slots Q (F0 m 624 ls []) := by
  obtain ⟨hP, hD, hS⟩ := X
  have hx := C.hx
  have hb := C.hb
  have hK := C.hK
  have hL := C.hL
  have hA : ∀ q : Nat, s.heap.size ≤ q → lx_A s q := fun _ h => h
  have hce0 : cells ≤ room_1.cells := Nat.le_of_succ_le hce
  have hsl0 : slots ≤ room_1.slots := Nat.le_trans (Nat.le_add_right _ _) hsl
  refine lv_aload_n hx hb d_La_law_624 rfl (lv_at hl 3 rfl) ?_
  refine lv_aload_n hx hb d_La_law_625 rfl (lv_at hl 4 rfl) ?_
  refine lv_iload hx hb d_La_law_626 (lv_at hl 0 rfl) ?_
  refine lv_iconst (v := 1) hx hb d_La_law_628 (by decide) ?_
  refine lv_iadd hx hb d_La_law_629 ?_
  have eq9 : ((nI i) + 1 : Int32) = nI (i + 1) := nI_add i 1
  refine W.eq (g2 := F0 m 630 ls [.int (nI (i + 1)), .ref b, .ref (a 0)]) (by rw [eq9]) ?_
  refine lx_ld (kx := i + 1) (v := 0) C hS E1 (by omega) d_La_law_630 ?_
  refine lv_aload_n hx hb d_La_law_631 rfl (lv_at hl 4 rfl) ?_
  refine lv_iload hx hb d_La_law_632 (lv_at hl 0 rfl) ?_
  refine lv_iconst (v := 2) hx hb d_La_law_634 (by decide) ?_
  refine lv_iadd hx hb d_La_law_635 ?_
  have eq9 : ((nI i) + 2 : Int32) = nI (i + 2) := nI_add i 2
  refine W.eq (g2 := F0 m 636 ls [.int (nI (i + 2)), .ref b, .int 0, .ref (a 0)]) (by rw [eq9]) ?_
  refine lx_ld (kx := i + 2) (v := z) C hS E2 (by omega) d_La_law_636 ?_
  refine lv_aload_n hx hb d_La_law_637 rfl (lv_at hl 4 rfl) ?_
  refine lv_iload hx hb d_La_law_638 (lv_at hl 0 rfl) ?_
  refine lv_iconst (v := 3) hx hb d_La_law_640 (by decide) ?_
  refine lv_iadd hx hb d_La_law_641 ?_
  have eq9 : ((nI i) + 3 : Int32) = nI (i + 3) := nI_add i 3
  refine W.eq (g2 := F0 m 642 ls [.int (nI (i + 3)), .ref b, .int z, .int 0, .ref (a 0)]) (by rw [eq9]) ?_
  refine lx_ld (kx := i + 3) (v := w) C hS E3 (by omega) d_La_law_642 ?_
  refine lv_aload_n hx hb d_La_law_643 rfl (lv_at hl 1 rfl) ?_
  refine xh_go (w2 := lx_W cI cZ cJ a (s1_access0_2 S z w) S W0) (wr := lx_R cI cZ cJ a S) (xh_runS (g := F0 m 644 ls [.ref (a 34), .int w, .int z, .int 0, .ref (a 0)]) (As := [.ref (a 0), .int 0, .int z, .int w, .ref (a 34)]) (rest := []) ⟨C.hx, C.hb, C.hml, C.hown, C.hg⟩ (c_La_access0_2 l C.hLx D cI cZ cJ (a 0) (a 1) (a 2) (a 3) (a 4) (a 5) (a 6) (a 7) (a 8) (a 9) (a 10) (a 11) (a 12) (a 13) (a 14) (a 15) (a 16) S.P S.F S.B S.sr S.sd S.Rs S.Cs S.As S.Rt S.Ct S.At S.n S.k S.ks S.kt S.hs S.ds S.es S.xs S.ht S.dt S.et z w (a 34) W0 (g1) (g2) H.size) m_La_access q550 rfl rfl ⟨Nat.le_of_ble_eq_true rfl, Nat.le_of_ble_eq_true rfl⟩ ⟨xh_blind, xh_pre C.hK (lx_hT C.hT hS) C.hV hP hD [0, 1, 2, 3, 4, 5, 6, 7, 8, 9, 10, 11, 12, 13, 14, 15, 16, 34] (by decide) rfl⟩ rfl rfl hl.1 rfl (lv_room (Nat.le_of_ble_eq_true rfl)) d_La_law_644 ⟨hce, hsl⟩) hP hD hS hA [0, 1, 2, 3, 4, 5, 6, 7, 8, 9, 10, 11, 12, 13, 14, 15, 16, 34] [17, 18, 19, 20, 21, 22, 23, 24, 25, 26, 27, 28, 29, 30, 31, 32, 33] [17, 18, 19, 20, 21, 22, 23, 24, 25, 26, 27, 28, 29, 30, 31, 32, 33, 0, 1, 2, 3, 4, 5, 6, 7, 8, 9, 10, 11, 12, 13, 14, 15, 16, 34] rfl rfl (by decide) (by decide) rfl (by decide) (fun H locs hP hD hS => ?_)
  refine lv_istore hx hb d_La_law_647 hl (by decide) rfl (fun ls hl => ?_)
  have hl : lv_has ls 7 [(5, .int 2), (4, .int (nI i)), (3, .ref (a 34)), (2, .ref (a 17)), (1, .ref (a 0)), (0, .ref b)] := hl
  refine lv_aload_n hx hb d_La_law_649 rfl (lv_at hl 3 rfl) ?_
  refine lv_aload_n hx hb d_La_law_650 rfl (lv_at hl 5 rfl) ?_
  refine lv_iload hx hb d_La_law_651 (lv_at hl 1 rfl) ?_
  refine lv_iconst (v := 1) hx hb d_La_law_653 (by decide) ?_
  refine lv_iadd hx hb d_La_law_654 ?_
  have eq9 : ((nI i) + 1 : Int32) = nI (i + 1) := nI_add i 1
  refine W.eq (g2 := F0 m 655 ls [.int (nI (i + 1)), .ref b, .ref (a 17)]) (by rw [eq9]) ?_
  refine lx_ld (kx := i + 1) (v := 0) C hS E1 (by omega) d_La_law_655 ?_
  refine lv_aload_n hx hb d_La_law_656 rfl (lv_at hl 5 rfl) ?_
  refine lv_iload hx hb d_La_law_657 (lv_at hl 1 rfl) ?_
  refine lv_iconst (v := 2) hx hb d_La_law_659 (by decide) ?_
  refine lv_iadd hx hb d_La_law_660 ?_
  have eq9 : ((nI i) + 2 : Int32) = nI (i + 2) := nI_add i 2
  refine W.eq (g2 := F0 m 661 ls [.int (nI (i + 2)), .ref b, .int 0, .ref (a 17)]) (by rw [eq9]) ?_
  refine lx_ld (kx := i + 2) (v := z) C hS E2 (by omega) d_La_law_661 ?_
  refine lv_aload_n hx hb d_La_law_662 rfl (lv_at hl 5 rfl) ?_
  refine lv_iload hx hb d_La_law_663 (lv_at hl 1 rfl) ?_
  refine lv_iconst (v := 3) hx hb d_La_law_665 (by decide) ?_
  refine lv_iadd hx hb d_La_law_666 ?_
  have eq9 : ((nI i) + 3 : Int32) = nI (i + 3) := nI_add i 3
  refine W.eq (g2 := F0 m 667 ls [.int (nI (i + 3)), .ref b, .int z, .int 0, .ref (a 17)]) (by rw [eq9]) ?_
  refine lx_ld (kx := i + 3) (v := w) C hS E3 (by omega) d_La_law_667 ?_
  refine xi_go (w2 := lx_W cI cZ cJ a (s1_access0_2 S z w) (s1_access0_2 S z w) W0) (wr := lx_X cI cZ cJ a (s1_access0_2 S z w) ++ [lx_w cJ a W0]) (va_runV (As := [.int 0, .int z, .int w]) (rest := []) (C := R_Mo) ⟨C.hx, C.hb, C.hml, C.hown, C.hg⟩ (c_Mo_access0_2 l D cI cZ cJ (a 17) (a 18) (a 19) (a 20) (a 21) (a 22) (a 23) (a 24) (a 25) (a 26) (a 27) (a 28) (a 29) (a 30) (a 31) (a 32) (a 33) S.Po S.Pa S.Pb S.Pc S.G S.O S.Bm S.sr S.sd (tm_jn 8 S.Rs S.Rt) (tm_jn 64 S.Cs S.Ct) (tm_tw S.es S.et) (tm_tw S.hs S.ht) (tm_tw S.ds S.dt) (tm_tw (nI S.ks) (nI S.kt)) (tm_jn 120 S.As S.At) S.n S.k S.th S.tl S.nx z w (g1) (g2) H.size) ⟨xg_B C.hg m_Mo_access.1 m_Mo_access.2.2.1 m_Mo_access.2.2.2.1 m_Mo_access.2.2.2.2 q752 rfl rfl ⟨Nat.le_of_ble_eq_true rfl, Nat.le_of_ble_eq_true rfl⟩, C.hg _ m_Mo_access.2.1, C.hg _ q754⟩ ⟨xw_blind, (va_recv (q0 := 17) C.hK.1 hP rfl rfl), xw_pre C.hK hP hD [17, 18, 19, 20, 21, 22, 23, 24, 25, 26, 27, 28, 29, 30, 31, 32, 33] (by decide) rfl⟩ rfl rfl hl.1 rfl (lv_room (Nat.le_of_ble_eq_true rfl)) d_La_law_668 ⟨hce, hsl⟩) hP hD hS hA [17, 18, 19, 20, 21, 22, 23, 24, 25, 26, 27, 28, 29, 30, 31, 32, 33] [0, 1, 2, 3, 4, 5, 6, 7, 8, 9, 10, 11, 12, 13, 14, 15, 16, 34] [0, 1, 2, 3, 4, 5, 6, 7, 8, 9, 10, 11, 12, 13, 14, 15, 16, 18, 19, 20, 21, 22, 23, 24, 25, 26, 27, 28, 29, 30, 31, 32, 33, 34, 17] rfl rfl (by decide) (by decide) rfl (by decide) (fun H locs hP hD hS => ?_)
  refine lv_istore hx hb d_La_law_671 hl (by decide) rfl (fun ls hl => ?_)
  have hl : lv_has ls 7 [(6, .int 0), (5, .int 2), (4, .int (nI i)), (3, .ref (a 34)), (2, .ref (a 17)), (1, .ref (a 0)), (0, .ref b)] := hl
  refine lv_aload_n hx hb d_La_law_673 rfl (lv_at hl 4 rfl) ?_
  refine xr_V (C := R_Mo) (As := []) (rest := []) ⟨C.hx, C.hb, C.hml, C.hown, C.hg⟩ (c_Mo_thrown l D cI cZ cJ (a 17) (a 18) (a 19) (a 20) (a 21) (a 22) (a 23) (a 24) (a 25) (a 26) (a 27) (a 28) (a 29) (a 30) (a 31) (a 32) (a 33) ((s1_access0_2 S z w).Po) ((s1_access0_2 S z w).Pa) ((s1_access0_2 S z w).Pb) ((s1_access0_2 S z w).Pc) ((s1_access0_2 S z w).G) ((s1_access0_2 S z w).O) ((s1_access0_2 S z w).Bm) ((s1_access0_2 S z w).sr) ((s1_access0_2 S z w).sd) (tm_jn 8 ((s1_access0_2 S z w).Rs) ((s1_access0_2 S z w).Rt)) (tm_jn 64 ((s1_access0_2 S z w).Cs) ((s1_access0_2 S z w).Ct)) (tm_tw ((s1_access0_2 S z w).es) ((s1_access0_2 S z w).et)) (tm_tw ((s1_access0_2 S z w).hs) ((s1_access0_2 S z w).ht)) (tm_tw ((s1_access0_2 S z w).ds) ((s1_access0_2 S z w).dt)) (tm_tw (nI (s1_access0_2 S z w).ks) (nI (s1_access0_2 S z w).kt)) (tm_jn 120 ((s1_access0_2 S z w).As) ((s1_access0_2 S z w).At)) ((s1_access0_2 S z w).n) ((s1_access0_2 S z w).k) 2 ((s1_access0_2 S z w).tl) ((s1_access0_2 S z w).nx)) m_Mo_thrown q628 q630 ⟨rfl, rfl⟩ ⟨Nat.le_of_ble_eq_true rfl, Nat.le_of_ble_eq_true rfl⟩ C.hK hP [17, 18, 19, 20, 21, 22, 23, 24, 25, 26, 27, 28, 29, 30, 31, 32, 33] rfl (va_recv (q0 := 17) C.hK.1 hP rfl rfl) rfl hl.1 rfl (Nat.le_of_ble_eq_true rfl) d_La_law_674 ⟨hce, hsl⟩ ?_
  refine lv_iload hx hb d_La_law_677 (lv_at hl 1 rfl) ?_
  refine lv_icmp_eq (tgt := 684) hx hb d_La_law_679 rfl (fun _ => ?_) (fun hz9 => absurd (by decide) hz9)
  refine lv_iload hx hb d_La_law_684 (lv_at hl 1 rfl) ?_
  refine lv_if_ne (tgt := 701) hx hb d_La_law_686 rfl (fun _ => ?_) (fun hz9 => absurd hz9 (by decide))
  refine lv_goto (tgt := 704) hx hb d_La_law_701 rfl ?_
  exact W.widen (by omega) (by omega) (k _ H locs ls ⟨hP, hD, hS⟩ (lv_sub hl [2, 3, 4, 5, 6] rfl))

def s1_access1 (S : lx_S) (q w : Nat) : lx_S := lx_mk S.P S.F S.B S.sr S.sd S.Rs S.Cs S.As S.Rt S.Ct S.At S.Po S.Pa S.Pb S.Pc S.G S.O S.Bm S.n S.k S.ks S.kt S.hs S.ds S.es S.xs S.ht S.dt S.et S.tl S.nx 0
set_option maxHeartbeats 4000000 in
set_option maxRecDepth 100000 in
theorem la_access1 {p : Program} {l : Launch} {e : Env} {s : State} {m : MethodId} {args : Array Value} {below : List Frame} {meth : Method} {c : Code} {D : va_G} {cI cZ cJ : ClassId} {b L : Nat} {xs : Nat → Int32} {Q : State → Prop} (C : lx_C p l s m args c D cI cZ cJ b L xs) {a : Nat → Nat} {S : lx_S} {W0 : Nat → Int64} {H : Heap} {locs : List Loc} (X : lx_H D cI cZ cJ s a S S W0 H locs) {ls : Array Slot} {i : Nat} (hi : i + 5 ≤ L) (hl : lv_has ls 7 [(4, .int (nI i)), (3, .ref (a 34)), (2, .ref (a 17)), (1, .ref (a 0)), (0, .ref b)]) {cells slots : Nat} (hce : cells + 1 ≤ room_1.cells) (hsl : slots + 6 ≤ room_1.slots) (q w : Nat) (E1 : xs (i + 1) = 1) (E2 : xs (i + 2) = nI q) (E3 : xs (i + 3) = nI w) (hkp : S.kt ≤ 40) (hq : q < S.kt) (hw : w < 3)
    (k : ∀ (W1 : Nat → Int64) (H1 : Heap) (locs1 : List Loc) (ls1 : Array Slot), lx_H D cI cZ cJ s a (s1_access1 S q w) (s1_access1 S q w) W1 H1 locs1 → lv_has ls1 7 [(4, .int (nI i)), (3, .ref (a 34)), (2, .ref (a 17)), (1, .ref (a 0)), (0, .ref b)] → W p l e room_1 s m args below meth c H1 locs1 (cells + 1) (slots + 6) Q (F0 m 704 ls1 [])) : W p l e room_1 s m args below meth c H locs cells slots Q (F0 m 624 ls []) := by
  obtain ⟨hP, hD, hS⟩ := X
  have hx := C.hx
  have hb := C.hb
  have hK := C.hK
  have hL := C.hL
  have hA : ∀ q : Nat, s.heap.size ≤ q → lx_A s q := fun _ h => h
  have hce0 : cells ≤ room_1.cells := Nat.le_of_succ_le hce
  have hsl0 : slots ≤ room_1.slots := Nat.le_trans (Nat.le_add_right _ _) hsl
  refine lv_aload_n hx hb d_La_law_624 rfl (lv_at hl 3 rfl) ?_
  refine lv_aload_n hx hb d_La_law_625 rfl (lv_at hl 4 rfl) ?_
  refine lv_iload hx hb d_La_law_626 (lv_at hl 0 rfl) ?_
  refine lv_iconst (v := 1) hx hb d_La_law_628 (by decide) ?_
  refine lv_iadd hx hb d_La_law_629 ?_
  have eq9 : ((nI i) + 1 : Int32) = nI (i + 1) := nI_add i 1
  refine W.eq (g2 := F0 m 630 ls [.int (nI (i + 1)), .ref b, .ref (a 0)]) (by rw [eq9]) ?_
  refine lx_ld (kx := i + 1) (v := 1) C hS E1 (by omega) d_La_law_630 ?_
  refine lv_aload_n hx hb d_La_law_631 rfl (lv_at hl 4 rfl) ?_
  refine lv_iload hx hb d_La_law_632 (lv_at hl 0 rfl) ?_
  refine lv_iconst (v := 2) hx hb d_La_law_634 (by decide) ?_
  refine lv_iadd hx hb d_La_law_635 ?_
  have eq9 : ((nI i) + 2 : Int32) = nI (i + 2) := nI_add i 2
  refine W.eq (g2 := F0 m 636 ls [.int (nI (i + 2)), .ref b, .int 1, .ref (a 0)]) (by rw [eq9]) ?_
  refine lx_ld (kx := i + 2) (v := nI q) C hS E2 (by omega) d_La_law_636 ?_
  refine lv_aload_n hx hb d_La_law_637 rfl (lv_at hl 4 rfl) ?_
  refine lv_iload hx hb d_La_law_638 (lv_at hl 0 rfl) ?_
  refine lv_iconst (v := 3) hx hb d_La_law_640 (by decide) ?_
  refine lv_iadd hx hb d_La_law_641 ?_
  have eq9 : ((nI i) + 3 : Int32) = nI (i + 3) := nI_add i 3
  refine W.eq (g2 := F0 m 642 ls [.int (nI (i + 3)), .ref b, .int (nI q), .int 1, .ref (a 0)]) (by rw [eq9]) ?_
  refine lx_ld (kx := i + 3) (v := nI w) C hS E3 (by omega) d_La_law_642 ?_
  refine lv_aload_n hx hb d_La_law_643 rfl (lv_at hl 1 rfl) ?_
  refine xh_go (w2 := lx_W cI cZ cJ a (s1_access1 S q w) S (vp_updL W0 0 (S.At (q * 3 + w)).toInt64)) (wr := lx_R cI cZ cJ a S) (xh_runS (g := F0 m 644 ls [.ref (a 34), .int (nI w), .int (nI q), .int 1, .ref (a 0)]) (As := [.ref (a 0), .int 1, .int (nI q), .int (nI w), .ref (a 34)]) (rest := []) ⟨C.hx, C.hb, C.hml, C.hown, C.hg⟩ (c_La_access1 l C.hLx D cI cZ cJ (a 0) (a 1) (a 2) (a 3) (a 4) (a 5) (a 6) (a 7) (a 8) (a 9) (a 10) (a 11) (a 12) (a 13) (a 14) (a 15) (a 16) S.P S.F S.B S.sr S.sd S.Rs S.Cs S.As S.Rt S.Ct S.At S.n S.k S.ks S.kt S.hs S.ds S.es S.xs S.ht S.dt S.et q w (a 34) W0 (hkp) (hq) (hw) H.size) m_La_access q550 rfl rfl ⟨Nat.le_of_ble_eq_true rfl, Nat.le_of_ble_eq_true rfl⟩ ⟨xh_blind, xh_pre C.hK (lx_hT C.hT hS) C.hV hP hD [0, 1, 2, 3, 4, 5, 6, 7, 8, 9, 10, 11, 12, 13, 14, 15, 16, 34] (by decide) rfl⟩ rfl rfl hl.1 rfl (lv_room (Nat.le_of_ble_eq_true rfl)) d_La_law_644 ⟨hce0, hsl0⟩) hP hD hS hA [0, 1, 2, 3, 4, 5, 6, 7, 8, 9, 10, 11, 12, 13, 14, 15, 16, 34] [17, 18, 19, 20, 21, 22, 23, 24, 25, 26, 27, 28, 29, 30, 31, 32, 33] [17, 18, 19, 20, 21, 22, 23, 24, 25, 26, 27, 28, 29, 30, 31, 32, 33, 0, 1, 2, 3, 4, 5, 6, 7, 8, 9, 10, 11, 12, 13, 14, 15, 16, 34] rfl rfl (by decide) (by decide) rfl (by decide) (fun H locs hP hD hS => ?_)
  refine lv_istore hx hb d_La_law_647 hl (by decide) rfl (fun ls hl => ?_)
  have hl : lv_has ls 7 [(5, .int 0), (4, .int (nI i)), (3, .ref (a 34)), (2, .ref (a 17)), (1, .ref (a 0)), (0, .ref b)] := hl
  refine lv_aload_n hx hb d_La_law_649 rfl (lv_at hl 3 rfl) ?_
  refine lv_aload_n hx hb d_La_law_650 rfl (lv_at hl 5 rfl) ?_
  refine lv_iload hx hb d_La_law_651 (lv_at hl 1 rfl) ?_
  refine lv_iconst (v := 1) hx hb d_La_law_653 (by decide) ?_
  refine lv_iadd hx hb d_La_law_654 ?_
  have eq9 : ((nI i) + 1 : Int32) = nI (i + 1) := nI_add i 1
  refine W.eq (g2 := F0 m 655 ls [.int (nI (i + 1)), .ref b, .ref (a 17)]) (by rw [eq9]) ?_
  refine lx_ld (kx := i + 1) (v := 1) C hS E1 (by omega) d_La_law_655 ?_
  refine lv_aload_n hx hb d_La_law_656 rfl (lv_at hl 5 rfl) ?_
  refine lv_iload hx hb d_La_law_657 (lv_at hl 1 rfl) ?_
  refine lv_iconst (v := 2) hx hb d_La_law_659 (by decide) ?_
  refine lv_iadd hx hb d_La_law_660 ?_
  have eq9 : ((nI i) + 2 : Int32) = nI (i + 2) := nI_add i 2
  refine W.eq (g2 := F0 m 661 ls [.int (nI (i + 2)), .ref b, .int 1, .ref (a 17)]) (by rw [eq9]) ?_
  refine lx_ld (kx := i + 2) (v := nI q) C hS E2 (by omega) d_La_law_661 ?_
  refine lv_aload_n hx hb d_La_law_662 rfl (lv_at hl 5 rfl) ?_
  refine lv_iload hx hb d_La_law_663 (lv_at hl 1 rfl) ?_
  refine lv_iconst (v := 3) hx hb d_La_law_665 (by decide) ?_
  refine lv_iadd hx hb d_La_law_666 ?_
  have eq9 : ((nI i) + 3 : Int32) = nI (i + 3) := nI_add i 3
  refine W.eq (g2 := F0 m 667 ls [.int (nI (i + 3)), .ref b, .int (nI q), .int 1, .ref (a 17)]) (by rw [eq9]) ?_
  refine lx_ld (kx := i + 3) (v := nI w) C hS E3 (by omega) d_La_law_667 ?_
  refine xi_go (w2 := lx_W cI cZ cJ a (s1_access1 S q w) (s1_access1 S q w) (vp_updL W0 0 (S.At (q * 3 + w)).toInt64)) (wr := lx_X cI cZ cJ a (s1_access1 S q w) ++ [lx_w cJ a (vp_updL W0 0 (S.At (q * 3 + w)).toInt64)]) (va_runV (As := [.int 1, .int (nI q), .int (nI w)]) (rest := []) (C := R_Mo) ⟨C.hx, C.hb, C.hml, C.hown, C.hg⟩ (c_Mo_access1 l D cI cZ cJ (a 17) (a 18) (a 19) (a 20) (a 21) (a 22) (a 23) (a 24) (a 25) (a 26) (a 27) (a 28) (a 29) (a 30) (a 31) (a 32) (a 33) S.Po S.Pa S.Pb S.Pc S.G S.O S.Bm S.sr S.sd (tm_jn 8 S.Rs S.Rt) (tm_jn 64 S.Cs S.Ct) (tm_tw S.es S.et) (tm_tw S.hs S.ht) (tm_tw S.ds S.dt) (tm_tw (nI S.ks) (nI S.kt)) (tm_jn 120 S.As S.At) S.n S.k S.th S.tl S.nx q w S.kt (rfl) (hkp) (hq) (hw) H.size) ⟨xg_B C.hg m_Mo_access.1 m_Mo_access.2.2.1 m_Mo_access.2.2.2.1 m_Mo_access.2.2.2.2 q752 rfl rfl ⟨Nat.le_of_ble_eq_true rfl, Nat.le_of_ble_eq_true rfl⟩, C.hg _ m_Mo_access.2.1, C.hg _ q754⟩ ⟨xw_blind, (va_recv (q0 := 17) C.hK.1 hP rfl rfl), xw_pre C.hK hP hD [17, 18, 19, 20, 21, 22, 23, 24, 25, 26, 27, 28, 29, 30, 31, 32, 33] (by decide) rfl⟩ rfl rfl hl.1 rfl (lv_room (Nat.le_of_ble_eq_true rfl)) d_La_law_668 ⟨hce0, hsl0⟩) hP hD hS hA [17, 18, 19, 20, 21, 22, 23, 24, 25, 26, 27, 28, 29, 30, 31, 32, 33] [0, 1, 2, 3, 4, 5, 6, 7, 8, 9, 10, 11, 12, 13, 14, 15, 16, 34] [0, 1, 2, 3, 4, 5, 6, 7, 8, 9, 10, 11, 12, 13, 14, 15, 16, 18, 19, 20, 21, 22, 23, 24, 25, 26, 27, 28, 29, 30, 31, 32, 33, 34, 17] rfl rfl (by decide) (by decide) rfl (by decide) (fun H locs hP hD hS => ?_)
  refine lv_istore hx hb d_La_law_671 hl (by decide) rfl (fun ls hl => ?_)
  have hl : lv_has ls 7 [(6, .int ((tm_jn 120 S.As S.At) (120 + 3 * q + w))), (5, .int 0), (4, .int (nI i)), (3, .ref (a 34)), (2, .ref (a 17)), (1, .ref (a 0)), (0, .ref b)] := hl
  refine lv_aload_n hx hb d_La_law_673 rfl (lv_at hl 4 rfl) ?_
  refine xr_V (C := R_Mo) (As := []) (rest := []) ⟨C.hx, C.hb, C.hml, C.hown, C.hg⟩ (c_Mo_thrown l D cI cZ cJ (a 17) (a 18) (a 19) (a 20) (a 21) (a 22) (a 23) (a 24) (a 25) (a 26) (a 27) (a 28) (a 29) (a 30) (a 31) (a 32) (a 33) ((s1_access1 S q w).Po) ((s1_access1 S q w).Pa) ((s1_access1 S q w).Pb) ((s1_access1 S q w).Pc) ((s1_access1 S q w).G) ((s1_access1 S q w).O) ((s1_access1 S q w).Bm) ((s1_access1 S q w).sr) ((s1_access1 S q w).sd) (tm_jn 8 ((s1_access1 S q w).Rs) ((s1_access1 S q w).Rt)) (tm_jn 64 ((s1_access1 S q w).Cs) ((s1_access1 S q w).Ct)) (tm_tw ((s1_access1 S q w).es) ((s1_access1 S q w).et)) (tm_tw ((s1_access1 S q w).hs) ((s1_access1 S q w).ht)) (tm_tw ((s1_access1 S q w).ds) ((s1_access1 S q w).dt)) (tm_tw (nI (s1_access1 S q w).ks) (nI (s1_access1 S q w).kt)) (tm_jn 120 ((s1_access1 S q w).As) ((s1_access1 S q w).At)) ((s1_access1 S q w).n) ((s1_access1 S q w).k) 0 ((s1_access1 S q w).tl) ((s1_access1 S q w).nx)) m_Mo_thrown q628 q630 ⟨rfl, rfl⟩ ⟨Nat.le_of_ble_eq_true rfl, Nat.le_of_ble_eq_true rfl⟩ C.hK hP [17, 18, 19, 20, 21, 22, 23, 24, 25, 26, 27, 28, 29, 30, 31, 32, 33] rfl (va_recv (q0 := 17) C.hK.1 hP rfl rfl) rfl hl.1 rfl (Nat.le_of_ble_eq_true rfl) d_La_law_674 ⟨hce0, hsl0⟩ ?_
  refine lv_iload hx hb d_La_law_677 (lv_at hl 1 rfl) ?_
  refine lv_icmp_eq (tgt := 684) hx hb d_La_law_679 rfl (fun _ => ?_) (fun hz9 => absurd (by decide) hz9)
  refine lv_iload hx hb d_La_law_684 (lv_at hl 1 rfl) ?_
  refine lv_if_ne (tgt := 701) hx hb d_La_law_686 rfl (fun hz9 => absurd (by decide) hz9) (fun _ => ?_)
  refine lv_aload_n hx hb d_La_law_689 rfl (lv_at hl 3 rfl) ?_
  refine lv_iconst (v := 0) hx hb d_La_law_690 (by decide) ?_
  refine xa_jd hx hb hK hP 34 2 rfl rfl (kx := 0) (rfl) (by decide) (by decide) d_La_law_691 ?_
  refine lv_iload hx hb d_La_law_692 (lv_at hl 0 rfl) ?_
  refine lv_i2l (v := ((tm_jn 120 S.As S.At) (120 + 3 * q + w)).toInt64) hx hb d_La_law_694 rfl ?_
  refine lx_cmp C (lx_acc1 (by omega)) d_La_law_695 ?_
  refine lv_if_eq (tgt := 701) hx hb d_La_law_696 rfl (fun _ => ?_) (fun hz9 => absurd (by decide) hz9)
  refine lv_goto (tgt := 704) hx hb d_La_law_701 rfl ?_
  exact W.widen (by omega) (by omega) (k _ H locs ls ⟨hP, hD, hS⟩ (lv_sub hl [2, 3, 4, 5, 6] rfl))

def s1_access1_2 (S : lx_S) (z w : Int32) : lx_S := lx_mk S.P S.F S.B S.sr S.sd S.Rs S.Cs S.As S.Rt S.Ct S.At S.Po S.Pa S.Pb S.Pc S.G S.O S.Bm S.n S.k S.ks S.kt S.hs S.ds S.es S.xs S.ht S.dt S.et S.tl S.nx 2
set_option maxHeartbeats 4000000 in
set_option maxRecDepth 100000 in
theorem la_access1_2 {p : Program} {l : Launch} {e : Env} {s : State} {m : MethodId} {args : Array Value} {below : List Frame} {meth : Method} {c : Code} {D : va_G} {cI cZ cJ : ClassId} {b L : Nat} {xs : Nat → Int32} {Q : State → Prop} (C : lx_C p l s m args c D cI cZ cJ b L xs) {a : Nat → Nat} {S : lx_S} {W0 : Nat → Int64} {H : Heap} {locs : List Loc} (X : lx_H D cI cZ cJ s a S S W0 H locs) {ls : Array Slot} {i : Nat} (hi : i + 5 ≤ L) (hl : lv_has ls 7 [(4, .int (nI i)), (3, .ref (a 34)), (2, .ref (a 17)), (1, .ref (a 0)), (0, .ref b)]) {cells slots : Nat} (hce : cells + 1 ≤ room_1.cells) (hsl : slots + 6 ≤ room_1.slots) (z w : Int32) (E1 : xs (i + 1) = 1) (E2 : xs (i + 2) = z) (E3 : xs (i + 3) = w) (g1 : ¬ tm_wi w 0 2 = 0) (g2 : tm_wi z 0 (nI S.kt - 1) = 0)
    (k : ∀ (W1 : Nat → Int64) (H1 : Heap) (locs1 : List Loc) (ls1 : Array Slot), lx_H D cI cZ cJ s a (s1_access1_2 S z w) (s1_access1_2 S z w) W1 H1 locs1 → lv_has ls1 7 [(4, .int (nI i)), (3, .ref (a 34)), (2, .ref (a 17)), (1, .ref (a 0)), (0, .ref b)] → W p l e room_1 s m args below meth c H1 locs1 (cells + 1) (slots + 6) Q (F0 m 704 ls1 [])) : W p l e room_1 s m args below meth c H locs cells slots Q (F0 m 624 ls []) := by
  obtain ⟨hP, hD, hS⟩ := X
  have hx := C.hx
  have hb := C.hb
  have hK := C.hK
  have hL := C.hL
  have hA : ∀ q : Nat, s.heap.size ≤ q → lx_A s q := fun _ h => h
  have hce0 : cells ≤ room_1.cells := Nat.le_of_succ_le hce
  have hsl0 : slots ≤ room_1.slots := Nat.le_trans (Nat.le_add_right _ _) hsl
  refine lv_aload_n hx hb d_La_law_624 rfl (lv_at hl 3 rfl) ?_
  refine lv_aload_n hx hb d_La_law_625 rfl (lv_at hl 4 rfl) ?_
  refine lv_iload hx hb d_La_law_626 (lv_at hl 0 rfl) ?_
  refine lv_iconst (v := 1) hx hb d_La_law_628 (by decide) ?_
  refine lv_iadd hx hb d_La_law_629 ?_
  have eq9 : ((nI i) + 1 : Int32) = nI (i + 1) := nI_add i 1
  refine W.eq (g2 := F0 m 630 ls [.int (nI (i + 1)), .ref b, .ref (a 0)]) (by rw [eq9]) ?_
  refine lx_ld (kx := i + 1) (v := 1) C hS E1 (by omega) d_La_law_630 ?_
  refine lv_aload_n hx hb d_La_law_631 rfl (lv_at hl 4 rfl) ?_
  refine lv_iload hx hb d_La_law_632 (lv_at hl 0 rfl) ?_
  refine lv_iconst (v := 2) hx hb d_La_law_634 (by decide) ?_
  refine lv_iadd hx hb d_La_law_635 ?_
  have eq9 : ((nI i) + 2 : Int32) = nI (i + 2) := nI_add i 2
  refine W.eq (g2 := F0 m 636 ls [.int (nI (i + 2)), .ref b, .int 1, .ref (a 0)]) (by rw [eq9]) ?_
  refine lx_ld (kx := i + 2) (v := z) C hS E2 (by omega) d_La_law_636 ?_
  refine lv_aload_n hx hb d_La_law_637 rfl (lv_at hl 4 rfl) ?_
  refine lv_iload hx hb d_La_law_638 (lv_at hl 0 rfl) ?_
  refine lv_iconst (v := 3) hx hb d_La_law_640 (by decide) ?_
  refine lv_iadd hx hb d_La_law_641 ?_
  have eq9 : ((nI i) + 3 : Int32) = nI (i + 3) := nI_add i 3
  refine W.eq (g2 := F0 m 642 ls [.int (nI (i + 3)), .ref b, .int z, .int 1, .ref (a 0)]) (by rw [eq9]) ?_
  refine lx_ld (kx := i + 3) (v := w) C hS E3 (by omega) d_La_law_642 ?_
  refine lv_aload_n hx hb d_La_law_643 rfl (lv_at hl 1 rfl) ?_
  refine xh_go (w2 := lx_W cI cZ cJ a (s1_access1_2 S z w) S W0) (wr := lx_R cI cZ cJ a S) (xh_runS (g := F0 m 644 ls [.ref (a 34), .int w, .int z, .int 1, .ref (a 0)]) (As := [.ref (a 0), .int 1, .int z, .int w, .ref (a 34)]) (rest := []) ⟨C.hx, C.hb, C.hml, C.hown, C.hg⟩ (c_La_access1_2 l C.hLx D cI cZ cJ (a 0) (a 1) (a 2) (a 3) (a 4) (a 5) (a 6) (a 7) (a 8) (a 9) (a 10) (a 11) (a 12) (a 13) (a 14) (a 15) (a 16) S.P S.F S.B S.sr S.sd S.Rs S.Cs S.As S.Rt S.Ct S.At S.n S.k S.ks S.kt S.hs S.ds S.es S.xs S.ht S.dt S.et z w (a 34) W0 (g1) (g2) H.size) m_La_access q550 rfl rfl ⟨Nat.le_of_ble_eq_true rfl, Nat.le_of_ble_eq_true rfl⟩ ⟨xh_blind, xh_pre C.hK (lx_hT C.hT hS) C.hV hP hD [0, 1, 2, 3, 4, 5, 6, 7, 8, 9, 10, 11, 12, 13, 14, 15, 16, 34] (by decide) rfl⟩ rfl rfl hl.1 rfl (lv_room (Nat.le_of_ble_eq_true rfl)) d_La_law_644 ⟨hce, hsl⟩) hP hD hS hA [0, 1, 2, 3, 4, 5, 6, 7, 8, 9, 10, 11, 12, 13, 14, 15, 16, 34] [17, 18, 19, 20, 21, 22, 23, 24, 25, 26, 27, 28, 29, 30, 31, 32, 33] [17, 18, 19, 20, 21, 22, 23, 24, 25, 26, 27, 28, 29, 30, 31, 32, 33, 0, 1, 2, 3, 4, 5, 6, 7, 8, 9, 10, 11, 12, 13, 14, 15, 16, 34] rfl rfl (by decide) (by decide) rfl (by decide) (fun H locs hP hD hS => ?_)
  refine lv_istore hx hb d_La_law_647 hl (by decide) rfl (fun ls hl => ?_)
  have hl : lv_has ls 7 [(5, .int 2), (4, .int (nI i)), (3, .ref (a 34)), (2, .ref (a 17)), (1, .ref (a 0)), (0, .ref b)] := hl
  refine lv_aload_n hx hb d_La_law_649 rfl (lv_at hl 3 rfl) ?_
  refine lv_aload_n hx hb d_La_law_650 rfl (lv_at hl 5 rfl) ?_
  refine lv_iload hx hb d_La_law_651 (lv_at hl 1 rfl) ?_
  refine lv_iconst (v := 1) hx hb d_La_law_653 (by decide) ?_
  refine lv_iadd hx hb d_La_law_654 ?_
  have eq9 : ((nI i) + 1 : Int32) = nI (i + 1) := nI_add i 1
  refine W.eq (g2 := F0 m 655 ls [.int (nI (i + 1)), .ref b, .ref (a 17)]) (by rw [eq9]) ?_
  refine lx_ld (kx := i + 1) (v := 1) C hS E1 (by omega) d_La_law_655 ?_
  refine lv_aload_n hx hb d_La_law_656 rfl (lv_at hl 5 rfl) ?_
  refine lv_iload hx hb d_La_law_657 (lv_at hl 1 rfl) ?_
  refine lv_iconst (v := 2) hx hb d_La_law_659 (by decide) ?_
  refine lv_iadd hx hb d_La_law_660 ?_
  have eq9 : ((nI i) + 2 : Int32) = nI (i + 2) := nI_add i 2
  refine W.eq (g2 := F0 m 661 ls [.int (nI (i + 2)), .ref b, .int 1, .ref (a 17)]) (by rw [eq9]) ?_
  refine lx_ld (kx := i + 2) (v := z) C hS E2 (by omega) d_La_law_661 ?_
  refine lv_aload_n hx hb d_La_law_662 rfl (lv_at hl 5 rfl) ?_
  refine lv_iload hx hb d_La_law_663 (lv_at hl 1 rfl) ?_
  refine lv_iconst (v := 3) hx hb d_La_law_665 (by decide) ?_
  refine lv_iadd hx hb d_La_law_666 ?_
  have eq9 : ((nI i) + 3 : Int32) = nI (i + 3) := nI_add i 3
  refine W.eq (g2 := F0 m 667 ls [.int (nI (i + 3)), .ref b, .int z, .int 1, .ref (a 17)]) (by rw [eq9]) ?_
  refine lx_ld (kx := i + 3) (v := w) C hS E3 (by omega) d_La_law_667 ?_
  refine xi_go (w2 := lx_W cI cZ cJ a (s1_access1_2 S z w) (s1_access1_2 S z w) W0) (wr := lx_X cI cZ cJ a (s1_access1_2 S z w) ++ [lx_w cJ a W0]) (va_runV (As := [.int 1, .int z, .int w]) (rest := []) (C := R_Mo) ⟨C.hx, C.hb, C.hml, C.hown, C.hg⟩ (c_Mo_access1_2 l D cI cZ cJ (a 17) (a 18) (a 19) (a 20) (a 21) (a 22) (a 23) (a 24) (a 25) (a 26) (a 27) (a 28) (a 29) (a 30) (a 31) (a 32) (a 33) S.Po S.Pa S.Pb S.Pc S.G S.O S.Bm S.sr S.sd (tm_jn 8 S.Rs S.Rt) (tm_jn 64 S.Cs S.Ct) (tm_tw S.es S.et) (tm_tw S.hs S.ht) (tm_tw S.ds S.dt) (tm_tw (nI S.ks) (nI S.kt)) (tm_jn 120 S.As S.At) S.n S.k S.th S.tl S.nx z w (g1) (g2) H.size) ⟨xg_B C.hg m_Mo_access.1 m_Mo_access.2.2.1 m_Mo_access.2.2.2.1 m_Mo_access.2.2.2.2 q752 rfl rfl ⟨Nat.le_of_ble_eq_true rfl, Nat.le_of_ble_eq_true rfl⟩, C.hg _ m_Mo_access.2.1, C.hg _ q754⟩ ⟨xw_blind, (va_recv (q0 := 17) C.hK.1 hP rfl rfl), xw_pre C.hK hP hD [17, 18, 19, 20, 21, 22, 23, 24, 25, 26, 27, 28, 29, 30, 31, 32, 33] (by decide) rfl⟩ rfl rfl hl.1 rfl (lv_room (Nat.le_of_ble_eq_true rfl)) d_La_law_668 ⟨hce, hsl⟩) hP hD hS hA [17, 18, 19, 20, 21, 22, 23, 24, 25, 26, 27, 28, 29, 30, 31, 32, 33] [0, 1, 2, 3, 4, 5, 6, 7, 8, 9, 10, 11, 12, 13, 14, 15, 16, 34] [0, 1, 2, 3, 4, 5, 6, 7, 8, 9, 10, 11, 12, 13, 14, 15, 16, 18, 19, 20, 21, 22, 23, 24, 25, 26, 27, 28, 29, 30, 31, 32, 33, 34, 17] rfl rfl (by decide) (by decide) rfl (by decide) (fun H locs hP hD hS => ?_)
  refine lv_istore hx hb d_La_law_671 hl (by decide) rfl (fun ls hl => ?_)
  have hl : lv_has ls 7 [(6, .int 0), (5, .int 2), (4, .int (nI i)), (3, .ref (a 34)), (2, .ref (a 17)), (1, .ref (a 0)), (0, .ref b)] := hl
  refine lv_aload_n hx hb d_La_law_673 rfl (lv_at hl 4 rfl) ?_
  refine xr_V (C := R_Mo) (As := []) (rest := []) ⟨C.hx, C.hb, C.hml, C.hown, C.hg⟩ (c_Mo_thrown l D cI cZ cJ (a 17) (a 18) (a 19) (a 20) (a 21) (a 22) (a 23) (a 24) (a 25) (a 26) (a 27) (a 28) (a 29) (a 30) (a 31) (a 32) (a 33) ((s1_access1_2 S z w).Po) ((s1_access1_2 S z w).Pa) ((s1_access1_2 S z w).Pb) ((s1_access1_2 S z w).Pc) ((s1_access1_2 S z w).G) ((s1_access1_2 S z w).O) ((s1_access1_2 S z w).Bm) ((s1_access1_2 S z w).sr) ((s1_access1_2 S z w).sd) (tm_jn 8 ((s1_access1_2 S z w).Rs) ((s1_access1_2 S z w).Rt)) (tm_jn 64 ((s1_access1_2 S z w).Cs) ((s1_access1_2 S z w).Ct)) (tm_tw ((s1_access1_2 S z w).es) ((s1_access1_2 S z w).et)) (tm_tw ((s1_access1_2 S z w).hs) ((s1_access1_2 S z w).ht)) (tm_tw ((s1_access1_2 S z w).ds) ((s1_access1_2 S z w).dt)) (tm_tw (nI (s1_access1_2 S z w).ks) (nI (s1_access1_2 S z w).kt)) (tm_jn 120 ((s1_access1_2 S z w).As) ((s1_access1_2 S z w).At)) ((s1_access1_2 S z w).n) ((s1_access1_2 S z w).k) 2 ((s1_access1_2 S z w).tl) ((s1_access1_2 S z w).nx)) m_Mo_thrown q628 q630 ⟨rfl, rfl⟩ ⟨Nat.le_of_ble_eq_true rfl, Nat.le_of_ble_eq_true rfl⟩ C.hK hP [17, 18, 19, 20, 21, 22, 23, 24, 25, 26, 27, 28, 29, 30, 31, 32, 33] rfl (va_recv (q0 := 17) C.hK.1 hP rfl rfl) rfl hl.1 rfl (Nat.le_of_ble_eq_true rfl) d_La_law_674 ⟨hce, hsl⟩ ?_
  refine lv_iload hx hb d_La_law_677 (lv_at hl 1 rfl) ?_
  refine lv_icmp_eq (tgt := 684) hx hb d_La_law_679 rfl (fun _ => ?_) (fun hz9 => absurd (by decide) hz9)
  refine lv_iload hx hb d_La_law_684 (lv_at hl 1 rfl) ?_
  refine lv_if_ne (tgt := 701) hx hb d_La_law_686 rfl (fun _ => ?_) (fun hz9 => absurd hz9 (by decide))
  refine lv_goto (tgt := 704) hx hb d_La_law_701 rfl ?_
  exact W.widen (by omega) (by omega) (k _ H locs ls ⟨hP, hD, hS⟩ (lv_sub hl [2, 3, 4, 5, 6] rfl))

def s1_access_1 (S : lx_S) (y z w : Int32) : lx_S := lx_mk S.P S.F S.B S.sr S.sd S.Rs S.Cs S.As S.Rt S.Ct S.At S.Po S.Pa S.Pb S.Pc S.G S.O S.Bm S.n S.k S.ks S.kt S.hs S.ds S.es S.xs S.ht S.dt S.et S.tl S.nx 1
set_option maxHeartbeats 4000000 in
set_option maxRecDepth 100000 in
theorem la_access_1 {p : Program} {l : Launch} {e : Env} {s : State} {m : MethodId} {args : Array Value} {below : List Frame} {meth : Method} {c : Code} {D : va_G} {cI cZ cJ : ClassId} {b L : Nat} {xs : Nat → Int32} {Q : State → Prop} (C : lx_C p l s m args c D cI cZ cJ b L xs) {a : Nat → Nat} {S : lx_S} {W0 : Nat → Int64} {H : Heap} {locs : List Loc} (X : lx_H D cI cZ cJ s a S S W0 H locs) {ls : Array Slot} {i : Nat} (hi : i + 5 ≤ L) (hl : lv_has ls 7 [(4, .int (nI i)), (3, .ref (a 34)), (2, .ref (a 17)), (1, .ref (a 0)), (0, .ref b)]) {cells slots : Nat} (hce : cells + 1 ≤ room_1.cells) (hsl : slots + 6 ≤ room_1.slots) (y z w : Int32) (E1 : xs (i + 1) = y) (E2 : xs (i + 2) = z) (E3 : xs (i + 3) = w) (hbad : tm_im y = 0 ∨ tm_wi w 0 2 = 0)
    (k : ∀ (W1 : Nat → Int64) (H1 : Heap) (locs1 : List Loc) (ls1 : Array Slot), lx_H D cI cZ cJ s a (s1_access_1 S y z w) (s1_access_1 S y z w) W1 H1 locs1 → lv_has ls1 7 [(4, .int (nI i)), (3, .ref (a 34)), (2, .ref (a 17)), (1, .ref (a 0)), (0, .ref b)] → W p l e room_1 s m args below meth c H1 locs1 (cells + 1) (slots + 6) Q (F0 m 704 ls1 [])) : W p l e room_1 s m args below meth c H locs cells slots Q (F0 m 624 ls []) := by
  obtain ⟨hP, hD, hS⟩ := X
  have hx := C.hx
  have hb := C.hb
  have hK := C.hK
  have hL := C.hL
  have hA : ∀ q : Nat, s.heap.size ≤ q → lx_A s q := fun _ h => h
  have hce0 : cells ≤ room_1.cells := Nat.le_of_succ_le hce
  have hsl0 : slots ≤ room_1.slots := Nat.le_trans (Nat.le_add_right _ _) hsl
  refine lv_aload_n hx hb d_La_law_624 rfl (lv_at hl 3 rfl) ?_
  refine lv_aload_n hx hb d_La_law_625 rfl (lv_at hl 4 rfl) ?_
  refine lv_iload hx hb d_La_law_626 (lv_at hl 0 rfl) ?_
  refine lv_iconst (v := 1) hx hb d_La_law_628 (by decide) ?_
  refine lv_iadd hx hb d_La_law_629 ?_
  have eq9 : ((nI i) + 1 : Int32) = nI (i + 1) := nI_add i 1
  refine W.eq (g2 := F0 m 630 ls [.int (nI (i + 1)), .ref b, .ref (a 0)]) (by rw [eq9]) ?_
  refine lx_ld (kx := i + 1) (v := y) C hS E1 (by omega) d_La_law_630 ?_
  refine lv_aload_n hx hb d_La_law_631 rfl (lv_at hl 4 rfl) ?_
  refine lv_iload hx hb d_La_law_632 (lv_at hl 0 rfl) ?_
  refine lv_iconst (v := 2) hx hb d_La_law_634 (by decide) ?_
  refine lv_iadd hx hb d_La_law_635 ?_
  have eq9 : ((nI i) + 2 : Int32) = nI (i + 2) := nI_add i 2
  refine W.eq (g2 := F0 m 636 ls [.int (nI (i + 2)), .ref b, .int y, .ref (a 0)]) (by rw [eq9]) ?_
  refine lx_ld (kx := i + 2) (v := z) C hS E2 (by omega) d_La_law_636 ?_
  refine lv_aload_n hx hb d_La_law_637 rfl (lv_at hl 4 rfl) ?_
  refine lv_iload hx hb d_La_law_638 (lv_at hl 0 rfl) ?_
  refine lv_iconst (v := 3) hx hb d_La_law_640 (by decide) ?_
  refine lv_iadd hx hb d_La_law_641 ?_
  have eq9 : ((nI i) + 3 : Int32) = nI (i + 3) := nI_add i 3
  refine W.eq (g2 := F0 m 642 ls [.int (nI (i + 3)), .ref b, .int z, .int y, .ref (a 0)]) (by rw [eq9]) ?_
  refine lx_ld (kx := i + 3) (v := w) C hS E3 (by omega) d_La_law_642 ?_
  refine lv_aload_n hx hb d_La_law_643 rfl (lv_at hl 1 rfl) ?_
  refine xh_go (w2 := lx_W cI cZ cJ a (s1_access_1 S y z w) S W0) (wr := lx_R cI cZ cJ a S) (xh_runS (g := F0 m 644 ls [.ref (a 34), .int w, .int z, .int y, .ref (a 0)]) (As := [.ref (a 0), .int y, .int z, .int w, .ref (a 34)]) (rest := []) ⟨C.hx, C.hb, C.hml, C.hown, C.hg⟩ (c_La_access_1 l C.hLx D cI cZ cJ (a 0) (a 1) (a 2) (a 3) (a 4) (a 5) (a 6) (a 7) (a 8) (a 9) (a 10) (a 11) (a 12) (a 13) (a 14) (a 15) (a 16) S.P S.F S.B S.sr S.sd S.Rs S.Cs S.As S.Rt S.Ct S.At S.n S.k S.ks S.kt S.hs S.ds S.es S.xs S.ht S.dt S.et y z w (a 34) W0 (hbad) H.size) m_La_access q550 rfl rfl ⟨Nat.le_of_ble_eq_true rfl, Nat.le_of_ble_eq_true rfl⟩ ⟨xh_blind, xh_pre C.hK (lx_hT C.hT hS) C.hV hP hD [0, 1, 2, 3, 4, 5, 6, 7, 8, 9, 10, 11, 12, 13, 14, 15, 16, 34] (by decide) rfl⟩ rfl rfl hl.1 rfl (lv_room (Nat.le_of_ble_eq_true rfl)) d_La_law_644 ⟨hce, hsl⟩) hP hD hS hA [0, 1, 2, 3, 4, 5, 6, 7, 8, 9, 10, 11, 12, 13, 14, 15, 16, 34] [17, 18, 19, 20, 21, 22, 23, 24, 25, 26, 27, 28, 29, 30, 31, 32, 33] [17, 18, 19, 20, 21, 22, 23, 24, 25, 26, 27, 28, 29, 30, 31, 32, 33, 0, 1, 2, 3, 4, 5, 6, 7, 8, 9, 10, 11, 12, 13, 14, 15, 16, 34] rfl rfl (by decide) (by decide) rfl (by decide) (fun H locs hP hD hS => ?_)
  refine lv_istore hx hb d_La_law_647 hl (by decide) rfl (fun ls hl => ?_)
  have hl : lv_has ls 7 [(5, .int 1), (4, .int (nI i)), (3, .ref (a 34)), (2, .ref (a 17)), (1, .ref (a 0)), (0, .ref b)] := hl
  refine lv_aload_n hx hb d_La_law_649 rfl (lv_at hl 3 rfl) ?_
  refine lv_aload_n hx hb d_La_law_650 rfl (lv_at hl 5 rfl) ?_
  refine lv_iload hx hb d_La_law_651 (lv_at hl 1 rfl) ?_
  refine lv_iconst (v := 1) hx hb d_La_law_653 (by decide) ?_
  refine lv_iadd hx hb d_La_law_654 ?_
  have eq9 : ((nI i) + 1 : Int32) = nI (i + 1) := nI_add i 1
  refine W.eq (g2 := F0 m 655 ls [.int (nI (i + 1)), .ref b, .ref (a 17)]) (by rw [eq9]) ?_
  refine lx_ld (kx := i + 1) (v := y) C hS E1 (by omega) d_La_law_655 ?_
  refine lv_aload_n hx hb d_La_law_656 rfl (lv_at hl 5 rfl) ?_
  refine lv_iload hx hb d_La_law_657 (lv_at hl 1 rfl) ?_
  refine lv_iconst (v := 2) hx hb d_La_law_659 (by decide) ?_
  refine lv_iadd hx hb d_La_law_660 ?_
  have eq9 : ((nI i) + 2 : Int32) = nI (i + 2) := nI_add i 2
  refine W.eq (g2 := F0 m 661 ls [.int (nI (i + 2)), .ref b, .int y, .ref (a 17)]) (by rw [eq9]) ?_
  refine lx_ld (kx := i + 2) (v := z) C hS E2 (by omega) d_La_law_661 ?_
  refine lv_aload_n hx hb d_La_law_662 rfl (lv_at hl 5 rfl) ?_
  refine lv_iload hx hb d_La_law_663 (lv_at hl 1 rfl) ?_
  refine lv_iconst (v := 3) hx hb d_La_law_665 (by decide) ?_
  refine lv_iadd hx hb d_La_law_666 ?_
  have eq9 : ((nI i) + 3 : Int32) = nI (i + 3) := nI_add i 3
  refine W.eq (g2 := F0 m 667 ls [.int (nI (i + 3)), .ref b, .int z, .int y, .ref (a 17)]) (by rw [eq9]) ?_
  refine lx_ld (kx := i + 3) (v := w) C hS E3 (by omega) d_La_law_667 ?_
  refine xi_go (w2 := lx_W cI cZ cJ a (s1_access_1 S y z w) (s1_access_1 S y z w) W0) (wr := lx_X cI cZ cJ a (s1_access_1 S y z w) ++ [lx_w cJ a W0]) (va_runV (As := [.int y, .int z, .int w]) (rest := []) (C := R_Mo) ⟨C.hx, C.hb, C.hml, C.hown, C.hg⟩ (c_Mo_access_1 l D cI cZ cJ (a 17) (a 18) (a 19) (a 20) (a 21) (a 22) (a 23) (a 24) (a 25) (a 26) (a 27) (a 28) (a 29) (a 30) (a 31) (a 32) (a 33) S.Po S.Pa S.Pb S.Pc S.G S.O S.Bm S.sr S.sd (tm_jn 8 S.Rs S.Rt) (tm_jn 64 S.Cs S.Ct) (tm_tw S.es S.et) (tm_tw S.hs S.ht) (tm_tw S.ds S.dt) (tm_tw (nI S.ks) (nI S.kt)) (tm_jn 120 S.As S.At) S.n S.k S.th S.tl S.nx y z w (by rw [← tm_im_eq]; exact hbad) H.size) ⟨xg_B C.hg m_Mo_access.1 m_Mo_access.2.2.1 m_Mo_access.2.2.2.1 m_Mo_access.2.2.2.2 q752 rfl rfl ⟨Nat.le_of_ble_eq_true rfl, Nat.le_of_ble_eq_true rfl⟩, C.hg _ m_Mo_access.2.1, C.hg _ q754⟩ ⟨xw_blind, (va_recv (q0 := 17) C.hK.1 hP rfl rfl), xw_pre C.hK hP hD [17, 18, 19, 20, 21, 22, 23, 24, 25, 26, 27, 28, 29, 30, 31, 32, 33] (by decide) rfl⟩ rfl rfl hl.1 rfl (lv_room (Nat.le_of_ble_eq_true rfl)) d_La_law_668 ⟨hce, hsl⟩) hP hD hS hA [17, 18, 19, 20, 21, 22, 23, 24, 25, 26, 27, 28, 29, 30, 31, 32, 33] [0, 1, 2, 3, 4, 5, 6, 7, 8, 9, 10, 11, 12, 13, 14, 15, 16, 34] [0, 1, 2, 3, 4, 5, 6, 7, 8, 9, 10, 11, 12, 13, 14, 15, 16, 18, 19, 20, 21, 22, 23, 24, 25, 26, 27, 28, 29, 30, 31, 32, 33, 34, 17] rfl rfl (by decide) (by decide) rfl (by decide) (fun H locs hP hD hS => ?_)
  refine lv_istore hx hb d_La_law_671 hl (by decide) rfl (fun ls hl => ?_)
  have hl : lv_has ls 7 [(6, .int 0), (5, .int 1), (4, .int (nI i)), (3, .ref (a 34)), (2, .ref (a 17)), (1, .ref (a 0)), (0, .ref b)] := hl
  refine lv_aload_n hx hb d_La_law_673 rfl (lv_at hl 4 rfl) ?_
  refine xr_V (C := R_Mo) (As := []) (rest := []) ⟨C.hx, C.hb, C.hml, C.hown, C.hg⟩ (c_Mo_thrown l D cI cZ cJ (a 17) (a 18) (a 19) (a 20) (a 21) (a 22) (a 23) (a 24) (a 25) (a 26) (a 27) (a 28) (a 29) (a 30) (a 31) (a 32) (a 33) ((s1_access_1 S y z w).Po) ((s1_access_1 S y z w).Pa) ((s1_access_1 S y z w).Pb) ((s1_access_1 S y z w).Pc) ((s1_access_1 S y z w).G) ((s1_access_1 S y z w).O) ((s1_access_1 S y z w).Bm) ((s1_access_1 S y z w).sr) ((s1_access_1 S y z w).sd) (tm_jn 8 ((s1_access_1 S y z w).Rs) ((s1_access_1 S y z w).Rt)) (tm_jn 64 ((s1_access_1 S y z w).Cs) ((s1_access_1 S y z w).Ct)) (tm_tw ((s1_access_1 S y z w).es) ((s1_access_1 S y z w).et)) (tm_tw ((s1_access_1 S y z w).hs) ((s1_access_1 S y z w).ht)) (tm_tw ((s1_access_1 S y z w).ds) ((s1_access_1 S y z w).dt)) (tm_tw (nI (s1_access_1 S y z w).ks) (nI (s1_access_1 S y z w).kt)) (tm_jn 120 ((s1_access_1 S y z w).As) ((s1_access_1 S y z w).At)) ((s1_access_1 S y z w).n) ((s1_access_1 S y z w).k) 1 ((s1_access_1 S y z w).tl) ((s1_access_1 S y z w).nx)) m_Mo_thrown q628 q630 ⟨rfl, rfl⟩ ⟨Nat.le_of_ble_eq_true rfl, Nat.le_of_ble_eq_true rfl⟩ C.hK hP [17, 18, 19, 20, 21, 22, 23, 24, 25, 26, 27, 28, 29, 30, 31, 32, 33] rfl (va_recv (q0 := 17) C.hK.1 hP rfl rfl) rfl hl.1 rfl (Nat.le_of_ble_eq_true rfl) d_La_law_674 ⟨hce, hsl⟩ ?_
  refine lv_iload hx hb d_La_law_677 (lv_at hl 1 rfl) ?_
  refine lv_icmp_eq (tgt := 684) hx hb d_La_law_679 rfl (fun _ => ?_) (fun hz9 => absurd (by decide) hz9)
  refine lv_iload hx hb d_La_law_684 (lv_at hl 1 rfl) ?_
  refine lv_if_ne (tgt := 701) hx hb d_La_law_686 rfl (fun _ => ?_) (fun hz9 => absurd hz9 (by decide))
  refine lv_goto (tgt := 704) hx hb d_La_law_701 rfl ?_
  exact W.widen (by omega) (by omega) (k _ H locs ls ⟨hP, hD, hS⟩ (lv_sub hl [2, 3, 4, 5, 6] rfl))
