/-! THE LAW: its calls, case by case (printed by wip/whole/gen/c43.py) -/
def s1_add (S : lx_S) (u1 u2 u3 u4 : Int32) : lx_S := lx_mk (tm_w4 S.P S.n u1 u2 u3 u4) S.F S.B S.sr S.sd S.Rs S.Cs S.As S.Rt S.Ct S.At (upd S.Po S.n u1) (upd S.Pa S.n u2) (upd S.Pb S.n u3) (upd S.Pc S.n u4) S.G S.O S.Bm (S.n + 1) 0 S.ks S.kt S.hs S.ds S.es S.xs S.ht S.dt S.et 0 S.nx 0
set_option maxHeartbeats 4000000 in
set_option maxRecDepth 100000 in
theorem la_add {p : Program} {l : Launch} {e : Env} {s : State} {m : MethodId} {args : Array Value} {below : List Frame} {meth : Method} {c : Code} {D : va_G} {cI cZ cJ : ClassId} {b L : Nat} {xs : Nat → Int32} {Q : State → Prop} (C : lx_C p l s m args c D cI cZ cJ b L xs) {a : Nat → Nat} {S : lx_S} {W0 : Nat → Int64} {H : Heap} {locs : List Loc} (X : lx_H D cI cZ cJ s a S S W0 H locs) {ls : Array Slot} {i : Nat} (hi : i + 5 ≤ L) (hl : lv_has ls 7 [(4, .int (nI i)), (3, .ref (a 34)), (2, .ref (a 17)), (1, .ref (a 0)), (0, .ref b)]) {cells slots : Nat} (hce : cells + 1 ≤ room_1.cells) (hsl : slots + 6 ≤ room_1.slots) (u1 u2 u3 u4 : Int32) (E1 : xs (i + 1) = u1) (E2 : xs (i + 2) = u2) (E3 : xs (i + 3) = u3) (E4 : xs (i + 4) = u4) (g1 : ¬ tm_wi u1 0 15 = 0) (g2 : ¬ tm_wi u2 0 7 = 0) (g3 : ¬ tm_wi u3 0 7 = 0) (g4 : ¬ tm_wi u4 (-128) 127 = 0) (hn : S.n < 24)
    (k : ∀ (W1 : Nat → Int64) (H1 : Heap) (locs1 : List Loc) (ls1 : Array Slot), lx_H D cI cZ cJ s a (s1_add S u1 u2 u3 u4) (s1_add S u1 u2 u3 u4) W1 H1 locs1 → lv_has ls1 7 [(4, .int (nI i)), (3, .ref (a 34)), (2, .ref (a 17)), (1, .ref (a 0)), (0, .ref b)] → W p l e room_1 s m args below meth c H1 locs1 (cells + 1) (slots + 6) Q (F0 m 704 ls1 [])) : W p l e room_1 s m args below meth c H locs cells slots Q (F0 m 100 ls []) := by
  obtain ⟨hP, hD, hS⟩ := X
  have hx := C.hx
  have hb := C.hb
  have hK := C.hK
  have hL := C.hL
  have hA : ∀ q : Nat, s.heap.size ≤ q → lx_A s q := fun _ h => h
  have hce0 : cells ≤ room_1.cells := Nat.le_of_succ_le hce
  have hsl0 : slots ≤ room_1.slots := Nat.le_trans (Nat.le_add_right _ _) hsl
  refine lv_aload_n hx hb d_La_law_100 rfl (lv_at hl 3 rfl) ?_
  refine lv_aload_n hx hb d_La_law_101 rfl (lv_at hl 4 rfl) ?_
  refine lv_iload hx hb d_La_law_102 (lv_at hl 0 rfl) ?_
  refine lv_iconst (v := 1) hx hb d_La_law_104 (by decide) ?_
  refine lv_iadd hx hb d_La_law_105 ?_
  have eq9 : ((nI i) + 1 : Int32) = nI (i + 1) := nI_add i 1
  refine W.eq (g2 := F0 m 106 ls [.int (nI (i + 1)), .ref b, .ref (a 0)]) (by rw [eq9]) ?_
  refine lx_ld (kx := i + 1) (v := u1) C hS E1 (by omega) d_La_law_106 ?_
  refine lv_aload_n hx hb d_La_law_107 rfl (lv_at hl 4 rfl) ?_
  refine lv_iload hx hb d_La_law_108 (lv_at hl 0 rfl) ?_
  refine lv_iconst (v := 2) hx hb d_La_law_110 (by decide) ?_
  refine lv_iadd hx hb d_La_law_111 ?_
  have eq9 : ((nI i) + 2 : Int32) = nI (i + 2) := nI_add i 2
  refine W.eq (g2 := F0 m 112 ls [.int (nI (i + 2)), .ref b, .int u1, .ref (a 0)]) (by rw [eq9]) ?_
  refine lx_ld (kx := i + 2) (v := u2) C hS E2 (by omega) d_La_law_112 ?_
  refine lv_aload_n hx hb d_La_law_113 rfl (lv_at hl 4 rfl) ?_
  refine lv_iload hx hb d_La_law_114 (lv_at hl 0 rfl) ?_
  refine lv_iconst (v := 3) hx hb d_La_law_116 (by decide) ?_
  refine lv_iadd hx hb d_La_law_117 ?_
  have eq9 : ((nI i) + 3 : Int32) = nI (i + 3) := nI_add i 3
  refine W.eq (g2 := F0 m 118 ls [.int (nI (i + 3)), .ref b, .int u2, .int u1, .ref (a 0)]) (by rw [eq9]) ?_
  refine lx_ld (kx := i + 3) (v := u3) C hS E3 (by omega) d_La_law_118 ?_
  refine lv_aload_n hx hb d_La_law_119 rfl (lv_at hl 4 rfl) ?_
  refine lv_iload hx hb d_La_law_120 (lv_at hl 0 rfl) ?_
  refine lv_iconst (v := 4) hx hb d_La_law_122 (by decide) ?_
  refine lv_iadd hx hb d_La_law_123 ?_
  have eq9 : ((nI i) + 4 : Int32) = nI (i + 4) := nI_add i 4
  refine W.eq (g2 := F0 m 124 ls [.int (nI (i + 4)), .ref b, .int u3, .int u2, .int u1, .ref (a 0)]) (by rw [eq9]) ?_
  refine lx_ld (kx := i + 4) (v := u4) C hS E4 (by omega) d_La_law_124 ?_
  refine lv_aload_n hx hb d_La_law_125 rfl (lv_at hl 1 rfl) ?_
  refine xh_go (w2 := lx_W cI cZ cJ a (s1_add S u1 u2 u3 u4) S (vp_updL W0 0 (nI S.n).toInt64)) (wr := lx_R cI cZ cJ a S) (xh_runS (g := F0 m 126 ls [.ref (a 34), .int u4, .int u3, .int u2, .int u1, .ref (a 0)]) (As := [.ref (a 0), .int u1, .int u2, .int u3, .int u4, .ref (a 34)]) (rest := []) ⟨C.hx, C.hb, C.hml, C.hown, C.hg⟩ (c_La_add l C.hLx D cI cZ cJ (a 0) (a 1) (a 2) (a 3) (a 4) (a 5) (a 6) (a 7) (a 8) (a 9) (a 10) (a 11) (a 12) (a 13) (a 14) (a 15) (a 16) S.P S.F S.B S.sr S.sd S.Rs S.Cs S.As S.Rt S.Ct S.At S.n S.k S.ks S.kt S.hs S.ds S.es S.xs S.ht S.dt S.et u1 u2 u3 u4 (a 34) W0 (g1) (g2) (g3) (g4) (hn) H.size) m_La_add q286 rfl rfl ⟨Nat.le_of_ble_eq_true rfl, Nat.le_of_ble_eq_true rfl⟩ ⟨xh_blind, xh_pre C.hK (lx_hT C.hT hS) C.hV hP hD [0, 1, 2, 3, 4, 5, 6, 7, 8, 9, 10, 11, 12, 13, 14, 15, 16, 34] (by decide) rfl⟩ rfl rfl hl.1 rfl (lv_room (Nat.le_of_ble_eq_true rfl)) d_La_law_126 ⟨hce0, hsl0⟩) hP hD hS hA [0, 1, 2, 3, 4, 5, 6, 7, 8, 9, 10, 11, 12, 13, 14, 15, 16, 34] [17, 18, 19, 20, 21, 22, 23, 24, 25, 26, 27, 28, 29, 30, 31, 32, 33] [17, 18, 19, 20, 21, 22, 23, 24, 25, 26, 27, 28, 29, 30, 31, 32, 33, 0, 1, 2, 3, 4, 5, 6, 7, 8, 9, 10, 11, 12, 13, 14, 15, 16, 34] rfl rfl (by decide) (by decide) rfl (by decide) (fun H locs hP hD hS => ?_)
  refine lv_istore hx hb d_La_law_129 hl (by decide) rfl (fun ls hl => ?_)
  have hl : lv_has ls 7 [(5, .int 0), (4, .int (nI i)), (3, .ref (a 34)), (2, .ref (a 17)), (1, .ref (a 0)), (0, .ref b)] := hl
  refine lv_aload_n hx hb d_La_law_131 rfl (lv_at hl 3 rfl) ?_
  refine lv_aload_n hx hb d_La_law_132 rfl (lv_at hl 5 rfl) ?_
  refine lv_iload hx hb d_La_law_133 (lv_at hl 1 rfl) ?_
  refine lv_iconst (v := 1) hx hb d_La_law_135 (by decide) ?_
  refine lv_iadd hx hb d_La_law_136 ?_
  have eq9 : ((nI i) + 1 : Int32) = nI (i + 1) := nI_add i 1
  refine W.eq (g2 := F0 m 137 ls [.int (nI (i + 1)), .ref b, .ref (a 17)]) (by rw [eq9]) ?_
  refine lx_ld (kx := i + 1) (v := u1) C hS E1 (by omega) d_La_law_137 ?_
  refine lv_aload_n hx hb d_La_law_138 rfl (lv_at hl 5 rfl) ?_
  refine lv_iload hx hb d_La_law_139 (lv_at hl 1 rfl) ?_
  refine lv_iconst (v := 2) hx hb d_La_law_141 (by decide) ?_
  refine lv_iadd hx hb d_La_law_142 ?_
  have eq9 : ((nI i) + 2 : Int32) = nI (i + 2) := nI_add i 2
  refine W.eq (g2 := F0 m 143 ls [.int (nI (i + 2)), .ref b, .int u1, .ref (a 17)]) (by rw [eq9]) ?_
  refine lx_ld (kx := i + 2) (v := u2) C hS E2 (by omega) d_La_law_143 ?_
  refine lv_aload_n hx hb d_La_law_144 rfl (lv_at hl 5 rfl) ?_
  refine lv_iload hx hb d_La_law_145 (lv_at hl 1 rfl) ?_
  refine lv_iconst (v := 3) hx hb d_La_law_147 (by decide) ?_
  refine lv_iadd hx hb d_La_law_148 ?_
  have eq9 : ((nI i) + 3 : Int32) = nI (i + 3) := nI_add i 3
  refine W.eq (g2 := F0 m 149 ls [.int (nI (i + 3)), .ref b, .int u2, .int u1, .ref (a 17)]) (by rw [eq9]) ?_
  refine lx_ld (kx := i + 3) (v := u3) C hS E3 (by omega) d_La_law_149 ?_
  refine lv_aload_n hx hb d_La_law_150 rfl (lv_at hl 5 rfl) ?_
  refine lv_iload hx hb d_La_law_151 (lv_at hl 1 rfl) ?_
  refine lv_iconst (v := 4) hx hb d_La_law_153 (by decide) ?_
  refine lv_iadd hx hb d_La_law_154 ?_
  have eq9 : ((nI i) + 4 : Int32) = nI (i + 4) := nI_add i 4
  refine W.eq (g2 := F0 m 155 ls [.int (nI (i + 4)), .ref b, .int u3, .int u2, .int u1, .ref (a 17)]) (by rw [eq9]) ?_
  refine lx_ld (kx := i + 4) (v := u4) C hS E4 (by omega) d_La_law_155 ?_
  refine xi_go (w2 := lx_W cI cZ cJ a (s1_add S u1 u2 u3 u4) (s1_add S u1 u2 u3 u4) (vp_updL W0 0 (nI S.n).toInt64)) (wr := lx_X cI cZ cJ a (s1_add S u1 u2 u3 u4) ++ [lx_w cJ a (vp_updL W0 0 (nI S.n).toInt64)]) (va_runV (As := [.int u1, .int u2, .int u3, .int u4]) (rest := []) (C := R_Mo) ⟨C.hx, C.hb, C.hml, C.hown, C.hg⟩ (c_Mo_add l D cI cZ cJ (a 17) (a 18) (a 19) (a 20) (a 21) (a 22) (a 23) (a 24) (a 25) (a 26) (a 27) (a 28) (a 29) (a 30) (a 31) (a 32) (a 33) S.Po S.Pa S.Pb S.Pc S.G S.O S.Bm S.sr S.sd (tm_jn 8 S.Rs S.Rt) (tm_jn 64 S.Cs S.Ct) (tm_tw S.es S.et) (tm_tw S.hs S.ht) (tm_tw S.ds S.dt) (tm_tw (nI S.ks) (nI S.kt)) (tm_jn 120 S.As S.At) S.n S.k S.th S.tl S.nx u1 u2 u3 u4 (g1) (g2) (g3) (g4) (hn) H.size) ⟨xg_B C.hg m_Mo_add.1 m_Mo_add.2.2.1 m_Mo_add.2.2.2.1 m_Mo_add.2.2.2.2 q632 rfl rfl ⟨Nat.le_of_ble_eq_true rfl, Nat.le_of_ble_eq_true rfl⟩, C.hg _ m_Mo_add.2.1, C.hg _ q634⟩ ⟨xw_blind, (va_recv (q0 := 17) C.hK.1 hP rfl rfl), xw_pre C.hK hP hD [17, 18, 19, 20, 21, 22, 23, 24, 25, 26, 27, 28, 29, 30, 31, 32, 33] (by decide) rfl⟩ rfl rfl hl.1 rfl (lv_room (Nat.le_of_ble_eq_true rfl)) d_La_law_156 ⟨hce0, hsl0⟩) hP hD hS hA [17, 18, 19, 20, 21, 22, 23, 24, 25, 26, 27, 28, 29, 30, 31, 32, 33] [0, 1, 2, 3, 4, 5, 6, 7, 8, 9, 10, 11, 12, 13, 14, 15, 16, 34] [0, 1, 2, 3, 4, 5, 6, 7, 8, 9, 10, 11, 12, 13, 14, 15, 16, 18, 19, 20, 21, 22, 23, 24, 25, 26, 27, 28, 29, 30, 31, 32, 33, 34, 17] rfl rfl (by decide) (by decide) rfl (by decide) (fun H locs hP hD hS => ?_)
  refine lv_istore hx hb d_La_law_159 hl (by decide) rfl (fun ls hl => ?_)
  have hl : lv_has ls 7 [(6, .int (nI S.n)), (5, .int 0), (4, .int (nI i)), (3, .ref (a 34)), (2, .ref (a 17)), (1, .ref (a 0)), (0, .ref b)] := hl
  refine lv_aload_n hx hb d_La_law_161 rfl (lv_at hl 4 rfl) ?_
  refine xr_V (C := R_Mo) (As := []) (rest := []) ⟨C.hx, C.hb, C.hml, C.hown, C.hg⟩ (c_Mo_thrown l D cI cZ cJ (a 17) (a 18) (a 19) (a 20) (a 21) (a 22) (a 23) (a 24) (a 25) (a 26) (a 27) (a 28) (a 29) (a 30) (a 31) (a 32) (a 33) ((s1_add S u1 u2 u3 u4).Po) ((s1_add S u1 u2 u3 u4).Pa) ((s1_add S u1 u2 u3 u4).Pb) ((s1_add S u1 u2 u3 u4).Pc) ((s1_add S u1 u2 u3 u4).G) ((s1_add S u1 u2 u3 u4).O) ((s1_add S u1 u2 u3 u4).Bm) ((s1_add S u1 u2 u3 u4).sr) ((s1_add S u1 u2 u3 u4).sd) (tm_jn 8 ((s1_add S u1 u2 u3 u4).Rs) ((s1_add S u1 u2 u3 u4).Rt)) (tm_jn 64 ((s1_add S u1 u2 u3 u4).Cs) ((s1_add S u1 u2 u3 u4).Ct)) (tm_tw ((s1_add S u1 u2 u3 u4).es) ((s1_add S u1 u2 u3 u4).et)) (tm_tw ((s1_add S u1 u2 u3 u4).hs) ((s1_add S u1 u2 u3 u4).ht)) (tm_tw ((s1_add S u1 u2 u3 u4).ds) ((s1_add S u1 u2 u3 u4).dt)) (tm_tw (nI (s1_add S u1 u2 u3 u4).ks) (nI (s1_add S u1 u2 u3 u4).kt)) (tm_jn 120 ((s1_add S u1 u2 u3 u4).As) ((s1_add S u1 u2 u3 u4).At)) ((s1_add S u1 u2 u3 u4).n) ((s1_add S u1 u2 u3 u4).k) 0 ((s1_add S u1 u2 u3 u4).tl) ((s1_add S u1 u2 u3 u4).nx)) m_Mo_thrown q628 q630 ⟨rfl, rfl⟩ ⟨Nat.le_of_ble_eq_true rfl, Nat.le_of_ble_eq_true rfl⟩ C.hK hP [17, 18, 19, 20, 21, 22, 23, 24, 25, 26, 27, 28, 29, 30, 31, 32, 33] rfl (va_recv (q0 := 17) C.hK.1 hP rfl rfl) rfl hl.1 rfl (Nat.le_of_ble_eq_true rfl) d_La_law_162 ⟨hce0, hsl0⟩ ?_
  refine lv_iload hx hb d_La_law_165 (lv_at hl 1 rfl) ?_
  refine lv_icmp_eq (tgt := 172) hx hb d_La_law_167 rfl (fun _ => ?_) (fun hz9 => absurd (by decide) hz9)
  refine lv_iload hx hb d_La_law_172 (lv_at hl 1 rfl) ?_
  refine lv_if_ne (tgt := 189) hx hb d_La_law_174 rfl (fun hz9 => absurd (by decide) hz9) (fun _ => ?_)
  refine lv_aload_n hx hb d_La_law_177 rfl (lv_at hl 3 rfl) ?_
  refine lv_iconst (v := 0) hx hb d_La_law_178 (by decide) ?_
  refine xa_jd hx hb hK hP 34 2 rfl rfl (kx := 0) (rfl) (by decide) (by decide) d_La_law_179 ?_
  refine lv_iload hx hb d_La_law_180 (lv_at hl 0 rfl) ?_
  refine lv_i2l (v := (nI S.n).toInt64) hx hb d_La_law_182 rfl ?_
  refine lx_cmp C (rfl) d_La_law_183 ?_
  refine lv_if_eq (tgt := 189) hx hb d_La_law_184 rfl (fun _ => ?_) (fun hz9 => absurd (by decide) hz9)
  refine lv_goto (tgt := 704) hx hb d_La_law_189 rfl ?_
  exact W.widen (by omega) (by omega) (k _ H locs ls ⟨hP, hD, hS⟩ (lv_sub hl [2, 3, 4, 5, 6] rfl))

def s1_add_2 (S : lx_S) (u1 u2 u3 u4 : Int32) : lx_S := lx_mk S.P S.F S.B S.sr S.sd S.Rs S.Cs S.As S.Rt S.Ct S.At S.Po S.Pa S.Pb S.Pc S.G S.O S.Bm S.n S.k S.ks S.kt S.hs S.ds S.es S.xs S.ht S.dt S.et S.tl S.nx 2
set_option maxHeartbeats 4000000 in
set_option maxRecDepth 100000 in
theorem la_add_2 {p : Program} {l : Launch} {e : Env} {s : State} {m : MethodId} {args : Array Value} {below : List Frame} {meth : Method} {c : Code} {D : va_G} {cI cZ cJ : ClassId} {b L : Nat} {xs : Nat → Int32} {Q : State → Prop} (C : lx_C p l s m args c D cI cZ cJ b L xs) {a : Nat → Nat} {S : lx_S} {W0 : Nat → Int64} {H : Heap} {locs : List Loc} (X : lx_H D cI cZ cJ s a S S W0 H locs) {ls : Array Slot} {i : Nat} (hi : i + 5 ≤ L) (hl : lv_has ls 7 [(4, .int (nI i)), (3, .ref (a 34)), (2, .ref (a 17)), (1, .ref (a 0)), (0, .ref b)]) {cells slots : Nat} (hce : cells + 1 ≤ room_1.cells) (hsl : slots + 6 ≤ room_1.slots) (u1 u2 u3 u4 : Int32) (E1 : xs (i + 1) = u1) (E2 : xs (i + 2) = u2) (E3 : xs (i + 3) = u3) (E4 : xs (i + 4) = u4) (g1 : ¬ tm_wi u1 0 15 = 0) (g2 : ¬ tm_wi u2 0 7 = 0) (g3 : ¬ tm_wi u3 0 7 = 0) (g4 : ¬ tm_wi u4 (-128) 127 = 0) (hn : S.n = 24)
    (k : ∀ (W1 : Nat → Int64) (H1 : Heap) (locs1 : List Loc) (ls1 : Array Slot), lx_H D cI cZ cJ s a (s1_add_2 S u1 u2 u3 u4) (s1_add_2 S u1 u2 u3 u4) W1 H1 locs1 → lv_has ls1 7 [(4, .int (nI i)), (3, .ref (a 34)), (2, .ref (a 17)), (1, .ref (a 0)), (0, .ref b)] → W p l e room_1 s m args below meth c H1 locs1 (cells + 1) (slots + 6) Q (F0 m 704 ls1 [])) : W p l e room_1 s m args below meth c H locs cells slots Q (F0 m 100 ls []) := by
  obtain ⟨hP, hD, hS⟩ := X
  have hx := C.hx
  have hb := C.hb
  have hK := C.hK
  have hL := C.hL
  have hA : ∀ q : Nat, s.heap.size ≤ q → lx_A s q := fun _ h => h
  have hce0 : cells ≤ room_1.cells := Nat.le_of_succ_le hce
  have hsl0 : slots ≤ room_1.slots := Nat.le_trans (Nat.le_add_right _ _) hsl
  refine lv_aload_n hx hb d_La_law_100 rfl (lv_at hl 3 rfl) ?_
  refine lv_aload_n hx hb d_La_law_101 rfl (lv_at hl 4 rfl) ?_
  refine lv_iload hx hb d_La_law_102 (lv_at hl 0 rfl) ?_
  refine lv_iconst (v := 1) hx hb d_La_law_104 (by decide) ?_
  refine lv_iadd hx hb d_La_law_105 ?_
  have eq9 : ((nI i) + 1 : Int32) = nI (i + 1) := nI_add i 1
  refine W.eq (g2 := F0 m 106 ls [.int (nI (i + 1)), .ref b, .ref (a 0)]) (by rw [eq9]) ?_
  refine lx_ld (kx := i + 1) (v := u1) C hS E1 (by omega) d_La_law_106 ?_
  refine lv_aload_n hx hb d_La_law_107 rfl (lv_at hl 4 rfl) ?_
  refine lv_iload hx hb d_La_law_108 (lv_at hl 0 rfl) ?_
  refine lv_iconst (v := 2) hx hb d_La_law_110 (by decide) ?_
  refine lv_iadd hx hb d_La_law_111 ?_
  have eq9 : ((nI i) + 2 : Int32) = nI (i + 2) := nI_add i 2
  refine W.eq (g2 := F0 m 112 ls [.int (nI (i + 2)), .ref b, .int u1, .ref (a 0)]) (by rw [eq9]) ?_
  refine lx_ld (kx := i + 2) (v := u2) C hS E2 (by omega) d_La_law_112 ?_
  refine lv_aload_n hx hb d_La_law_113 rfl (lv_at hl 4 rfl) ?_
  refine lv_iload hx hb d_La_law_114 (lv_at hl 0 rfl) ?_
  refine lv_iconst (v := 3) hx hb d_La_law_116 (by decide) ?_
  refine lv_iadd hx hb d_La_law_117 ?_
  have eq9 : ((nI i) + 3 : Int32) = nI (i + 3) := nI_add i 3
  refine W.eq (g2 := F0 m 118 ls [.int (nI (i + 3)), .ref b, .int u2, .int u1, .ref (a 0)]) (by rw [eq9]) ?_
  refine lx_ld (kx := i + 3) (v := u3) C hS E3 (by omega) d_La_law_118 ?_
  refine lv_aload_n hx hb d_La_law_119 rfl (lv_at hl 4 rfl) ?_
  refine lv_iload hx hb d_La_law_120 (lv_at hl 0 rfl) ?_
  refine lv_iconst (v := 4) hx hb d_La_law_122 (by decide) ?_
  refine lv_iadd hx hb d_La_law_123 ?_
  have eq9 : ((nI i) + 4 : Int32) = nI (i + 4) := nI_add i 4
  refine W.eq (g2 := F0 m 124 ls [.int (nI (i + 4)), .ref b, .int u3, .int u2, .int u1, .ref (a 0)]) (by rw [eq9]) ?_
  refine lx_ld (kx := i + 4) (v := u4) C hS E4 (by omega) d_La_law_124 ?_
  refine lv_aload_n hx hb d_La_law_125 rfl (lv_at hl 1 rfl) ?_
  refine xh_go (w2 := lx_W cI cZ cJ a (s1_add_2 S u1 u2 u3 u4) S W0) (wr := lx_R cI cZ cJ a S) (xh_runS (g := F0 m 126 ls [.ref (a 34), .int u4, .int u3, .int u2, .int u1, .ref (a 0)]) (As := [.ref (a 0), .int u1, .int u2, .int u3, .int u4, .ref (a 34)]) (rest := []) ⟨C.hx, C.hb, C.hml, C.hown, C.hg⟩ (c_La_add_2 l C.hLx D cI cZ cJ (a 0) (a 1) (a 2) (a 3) (a 4) (a 5) (a 6) (a 7) (a 8) (a 9) (a 10) (a 11) (a 12) (a 13) (a 14) (a 15) (a 16) S.P S.F S.B S.sr S.sd S.Rs S.Cs S.As S.Rt S.Ct S.At S.n S.k S.ks S.kt S.hs S.ds S.es S.xs S.ht S.dt S.et u1 u2 u3 u4 (a 34) W0 (g1) (g2) (g3) (g4) (hn) H.size) m_La_add q286 rfl rfl ⟨Nat.le_of_ble_eq_true rfl, Nat.le_of_ble_eq_true rfl⟩ ⟨xh_blind, xh_pre C.hK (lx_hT C.hT hS) C.hV hP hD [0, 1, 2, 3, 4, 5, 6, 7, 8, 9, 10, 11, 12, 13, 14, 15, 16, 34] (by decide) rfl⟩ rfl rfl hl.1 rfl (lv_room (Nat.le_of_ble_eq_true rfl)) d_La_law_126 ⟨hce, hsl⟩) hP hD hS hA [0, 1, 2, 3, 4, 5, 6, 7, 8, 9, 10, 11, 12, 13, 14, 15, 16, 34] [17, 18, 19, 20, 21, 22, 23, 24, 25, 26, 27, 28, 29, 30, 31, 32, 33] [17, 18, 19, 20, 21, 22, 23, 24, 25, 26, 27, 28, 29, 30, 31, 32, 33, 0, 1, 2, 3, 4, 5, 6, 7, 8, 9, 10, 11, 12, 13, 14, 15, 16, 34] rfl rfl (by decide) (by decide) rfl (by decide) (fun H locs hP hD hS => ?_)
  refine lv_istore hx hb d_La_law_129 hl (by decide) rfl (fun ls hl => ?_)
  have hl : lv_has ls 7 [(5, .int 2), (4, .int (nI i)), (3, .ref (a 34)), (2, .ref (a 17)), (1, .ref (a 0)), (0, .ref b)] := hl
  refine lv_aload_n hx hb d_La_law_131 rfl (lv_at hl 3 rfl) ?_
  refine lv_aload_n hx hb d_La_law_132 rfl (lv_at hl 5 rfl) ?_
  refine lv_iload hx hb d_La_law_133 (lv_at hl 1 rfl) ?_
  refine lv_iconst (v := 1) hx hb d_La_law_135 (by decide) ?_
  refine lv_iadd hx hb d_La_law_136 ?_
  have eq9 : ((nI i) + 1 : Int32) = nI (i + 1) := nI_add i 1
  refine W.eq (g2 := F0 m 137 ls [.int (nI (i + 1)), .ref b, .ref (a 17)]) (by rw [eq9]) ?_
  refine lx_ld (kx := i + 1) (v := u1) C hS E1 (by omega) d_La_law_137 ?_
  refine lv_aload_n hx hb d_La_law_138 rfl (lv_at hl 5 rfl) ?_
  refine lv_iload hx hb d_La_law_139 (lv_at hl 1 rfl) ?_
  refine lv_iconst (v := 2) hx hb d_La_law_141 (by decide) ?_
  refine lv_iadd hx hb d_La_law_142 ?_
  have eq9 : ((nI i) + 2 : Int32) = nI (i + 2) := nI_add i 2
  refine W.eq (g2 := F0 m 143 ls [.int (nI (i + 2)), .ref b, .int u1, .ref (a 17)]) (by rw [eq9]) ?_
  refine lx_ld (kx := i + 2) (v := u2) C hS E2 (by omega) d_La_law_143 ?_
  refine lv_aload_n hx hb d_La_law_144 rfl (lv_at hl 5 rfl) ?_
  refine lv_iload hx hb d_La_law_145 (lv_at hl 1 rfl) ?_
  refine lv_iconst (v := 3) hx hb d_La_law_147 (by decide) ?_
  refine lv_iadd hx hb d_La_law_148 ?_
  have eq9 : ((nI i) + 3 : Int32) = nI (i + 3) := nI_add i 3
  refine W.eq (g2 := F0 m 149 ls [.int (nI (i + 3)), .ref b, .int u2, .int u1, .ref (a 17)]) (by rw [eq9]) ?_
  refine lx_ld (kx := i + 3) (v := u3) C hS E3 (by omega) d_La_law_149 ?_
  refine lv_aload_n hx hb d_La_law_150 rfl (lv_at hl 5 rfl) ?_
  refine lv_iload hx hb d_La_law_151 (lv_at hl 1 rfl) ?_
  refine lv_iconst (v := 4) hx hb d_La_law_153 (by decide) ?_
  refine lv_iadd hx hb d_La_law_154 ?_
  have eq9 : ((nI i) + 4 : Int32) = nI (i + 4) := nI_add i 4
  refine W.eq (g2 := F0 m 155 ls [.int (nI (i + 4)), .ref b, .int u3, .int u2, .int u1, .ref (a 17)]) (by rw [eq9]) ?_
  refine lx_ld (kx := i + 4) (v := u4) C hS E4 (by omega) d_La_law_155 ?_
  refine xi_go (w2 := lx_W cI cZ cJ a (s1_add_2 S u1 u2 u3 u4) (s1_add_2 S u1 u2 u3 u4) W0) (wr := lx_X cI cZ cJ a (s1_add_2 S u1 u2 u3 u4) ++ [lx_w cJ a W0]) (va_runV (As := [.int u1, .int u2, .int u3, .int u4]) (rest := []) (C := R_Mo) ⟨C.hx, C.hb, C.hml, C.hown, C.hg⟩ (c_Mo_add_2 l D cI cZ cJ (a 17) (a 18) (a 19) (a 20) (a 21) (a 22) (a 23) (a 24) (a 25) (a 26) (a 27) (a 28) (a 29) (a 30) (a 31) (a 32) (a 33) S.Po S.Pa S.Pb S.Pc S.G S.O S.Bm S.sr S.sd (tm_jn 8 S.Rs S.Rt) (tm_jn 64 S.Cs S.Ct) (tm_tw S.es S.et) (tm_tw S.hs S.ht) (tm_tw S.ds S.dt) (tm_tw (nI S.ks) (nI S.kt)) (tm_jn 120 S.As S.At) S.n S.k S.th S.tl S.nx u1 u2 u3 u4 (g1) (g2) (g3) (g4) (hn) H.size) ⟨xg_B C.hg m_Mo_add.1 m_Mo_add.2.2.1 m_Mo_add.2.2.2.1 m_Mo_add.2.2.2.2 q632 rfl rfl ⟨Nat.le_of_ble_eq_true rfl, Nat.le_of_ble_eq_true rfl⟩, C.hg _ m_Mo_add.2.1, C.hg _ q634⟩ ⟨xw_blind, (va_recv (q0 := 17) C.hK.1 hP rfl rfl), xw_pre C.hK hP hD [17, 18, 19, 20, 21, 22, 23, 24, 25, 26, 27, 28, 29, 30, 31, 32, 33] (by decide) rfl⟩ rfl rfl hl.1 rfl (lv_room (Nat.le_of_ble_eq_true rfl)) d_La_law_156 ⟨hce, hsl⟩) hP hD hS hA [17, 18, 19, 20, 21, 22, 23, 24, 25, 26, 27, 28, 29, 30, 31, 32, 33] [0, 1, 2, 3, 4, 5, 6, 7, 8, 9, 10, 11, 12, 13, 14, 15, 16, 34] [0, 1, 2, 3, 4, 5, 6, 7, 8, 9, 10, 11, 12, 13, 14, 15, 16, 18, 19, 20, 21, 22, 23, 24, 25, 26, 27, 28, 29, 30, 31, 32, 33, 34, 17] rfl rfl (by decide) (by decide) rfl (by decide) (fun H locs hP hD hS => ?_)
  refine lv_istore hx hb d_La_law_159 hl (by decide) rfl (fun ls hl => ?_)
  have hl : lv_has ls 7 [(6, .int 0), (5, .int 2), (4, .int (nI i)), (3, .ref (a 34)), (2, .ref (a 17)), (1, .ref (a 0)), (0, .ref b)] := hl
  refine lv_aload_n hx hb d_La_law_161 rfl (lv_at hl 4 rfl) ?_
  refine xr_V (C := R_Mo) (As := []) (rest := []) ⟨C.hx, C.hb, C.hml, C.hown, C.hg⟩ (c_Mo_thrown l D cI cZ cJ (a 17) (a 18) (a 19) (a 20) (a 21) (a 22) (a 23) (a 24) (a 25) (a 26) (a 27) (a 28) (a 29) (a 30) (a 31) (a 32) (a 33) ((s1_add_2 S u1 u2 u3 u4).Po) ((s1_add_2 S u1 u2 u3 u4).Pa) ((s1_add_2 S u1 u2 u3 u4).Pb) ((s1_add_2 S u1 u2 u3 u4).Pc) ((s1_add_2 S u1 u2 u3 u4).G) ((s1_add_2 S u1 u2 u3 u4).O) ((s1_add_2 S u1 u2 u3 u4).Bm) ((s1_add_2 S u1 u2 u3 u4).sr) ((s1_add_2 S u1 u2 u3 u4).sd) (tm_jn 8 ((s1_add_2 S u1 u2 u3 u4).Rs) ((s1_add_2 S u1 u2 u3 u4).Rt)) (tm_jn 64 ((s1_add_2 S u1 u2 u3 u4).Cs) ((s1_add_2 S u1 u2 u3 u4).Ct)) (tm_tw ((s1_add_2 S u1 u2 u3 u4).es) ((s1_add_2 S u1 u2 u3 u4).et)) (tm_tw ((s1_add_2 S u1 u2 u3 u4).hs) ((s1_add_2 S u1 u2 u3 u4).ht)) (tm_tw ((s1_add_2 S u1 u2 u3 u4).ds) ((s1_add_2 S u1 u2 u3 u4).dt)) (tm_tw (nI (s1_add_2 S u1 u2 u3 u4).ks) (nI (s1_add_2 S u1 u2 u3 u4).kt)) (tm_jn 120 ((s1_add_2 S u1 u2 u3 u4).As) ((s1_add_2 S u1 u2 u3 u4).At)) ((s1_add_2 S u1 u2 u3 u4).n) ((s1_add_2 S u1 u2 u3 u4).k) 2 ((s1_add_2 S u1 u2 u3 u4).tl) ((s1_add_2 S u1 u2 u3 u4).nx)) m_Mo_thrown q628 q630 ⟨rfl, rfl⟩ ⟨Nat.le_of_ble_eq_true rfl, Nat.le_of_ble_eq_true rfl⟩ C.hK hP [17, 18, 19, 20, 21, 22, 23, 24, 25, 26, 27, 28, 29, 30, 31, 32, 33] rfl (va_recv (q0 := 17) C.hK.1 hP rfl rfl) rfl hl.1 rfl (Nat.le_of_ble_eq_true rfl) d_La_law_162 ⟨hce, hsl⟩ ?_
  refine lv_iload hx hb d_La_law_165 (lv_at hl 1 rfl) ?_
  refine lv_icmp_eq (tgt := 172) hx hb d_La_law_167 rfl (fun _ => ?_) (fun hz9 => absurd (by decide) hz9)
  refine lv_iload hx hb d_La_law_172 (lv_at hl 1 rfl) ?_
  refine lv_if_ne (tgt := 189) hx hb d_La_law_174 rfl (fun _ => ?_) (fun hz9 => absurd hz9 (by decide))
  refine lv_goto (tgt := 704) hx hb d_La_law_189 rfl ?_
  exact W.widen (by omega) (by omega) (k _ H locs ls ⟨hP, hD, hS⟩ (lv_sub hl [2, 3, 4, 5, 6] rfl))

def s1_add_1 (S : lx_S) (u1 u2 u3 u4 : Int32) : lx_S := lx_mk S.P S.F S.B S.sr S.sd S.Rs S.Cs S.As S.Rt S.Ct S.At S.Po S.Pa S.Pb S.Pc S.G S.O S.Bm S.n S.k S.ks S.kt S.hs S.ds S.es S.xs S.ht S.dt S.et S.tl S.nx 1
set_option maxHeartbeats 4000000 in
set_option maxRecDepth 100000 in
theorem la_add_1 {p : Program} {l : Launch} {e : Env} {s : State} {m : MethodId} {args : Array Value} {below : List Frame} {meth : Method} {c : Code} {D : va_G} {cI cZ cJ : ClassId} {b L : Nat} {xs : Nat → Int32} {Q : State → Prop} (C : lx_C p l s m args c D cI cZ cJ b L xs) {a : Nat → Nat} {S : lx_S} {W0 : Nat → Int64} {H : Heap} {locs : List Loc} (X : lx_H D cI cZ cJ s a S S W0 H locs) {ls : Array Slot} {i : Nat} (hi : i + 5 ≤ L) (hl : lv_has ls 7 [(4, .int (nI i)), (3, .ref (a 34)), (2, .ref (a 17)), (1, .ref (a 0)), (0, .ref b)]) {cells slots : Nat} (hce : cells + 1 ≤ room_1.cells) (hsl : slots + 6 ≤ room_1.slots) (u1 u2 u3 u4 : Int32) (E1 : xs (i + 1) = u1) (E2 : xs (i + 2) = u2) (E3 : xs (i + 3) = u3) (E4 : xs (i + 4) = u4) (hbad : tm_wi u1 0 15 = 0 ∨ tm_wi u2 0 7 = 0 ∨ tm_wi u3 0 7 = 0 ∨ tm_wi u4 (-128) 127 = 0)
    (k : ∀ (W1 : Nat → Int64) (H1 : Heap) (locs1 : List Loc) (ls1 : Array Slot), lx_H D cI cZ cJ s a (s1_add_1 S u1 u2 u3 u4) (s1_add_1 S u1 u2 u3 u4) W1 H1 locs1 → lv_has ls1 7 [(4, .int (nI i)), (3, .ref (a 34)), (2, .ref (a 17)), (1, .ref (a 0)), (0, .ref b)] → W p l e room_1 s m args below meth c H1 locs1 (cells + 1) (slots + 6) Q (F0 m 704 ls1 [])) : W p l e room_1 s m args below meth c H locs cells slots Q (F0 m 100 ls []) := by
  obtain ⟨hP, hD, hS⟩ := X
  have hx := C.hx
  have hb := C.hb
  have hK := C.hK
  have hL := C.hL
  have hA : ∀ q : Nat, s.heap.size ≤ q → lx_A s q := fun _ h => h
  have hce0 : cells ≤ room_1.cells := Nat.le_of_succ_le hce
  have hsl0 : slots ≤ room_1.slots := Nat.le_trans (Nat.le_add_right _ _) hsl
  refine lv_aload_n hx hb d_La_law_100 rfl (lv_at hl 3 rfl) ?_
  refine lv_aload_n hx hb d_La_law_101 rfl (lv_at hl 4 rfl) ?_
  refine lv_iload hx hb d_La_law_102 (lv_at hl 0 rfl) ?_
  refine lv_iconst (v := 1) hx hb d_La_law_104 (by decide) ?_
  refine lv_iadd hx hb d_La_law_105 ?_
  have eq9 : ((nI i) + 1 : Int32) = nI (i + 1) := nI_add i 1
  refine W.eq (g2 := F0 m 106 ls [.int (nI (i + 1)), .ref b, .ref (a 0)]) (by rw [eq9]) ?_
  refine lx_ld (kx := i + 1) (v := u1) C hS E1 (by omega) d_La_law_106 ?_
  refine lv_aload_n hx hb d_La_law_107 rfl (lv_at hl 4 rfl) ?_
  refine lv_iload hx hb d_La_law_108 (lv_at hl 0 rfl) ?_
  refine lv_iconst (v := 2) hx hb d_La_law_110 (by decide) ?_
  refine lv_iadd hx hb d_La_law_111 ?_
  have eq9 : ((nI i) + 2 : Int32) = nI (i + 2) := nI_add i 2
  refine W.eq (g2 := F0 m 112 ls [.int (nI (i + 2)), .ref b, .int u1, .ref (a 0)]) (by rw [eq9]) ?_
  refine lx_ld (kx := i + 2) (v := u2) C hS E2 (by omega) d_La_law_112 ?_
  refine lv_aload_n hx hb d_La_law_113 rfl (lv_at hl 4 rfl) ?_
  refine lv_iload hx hb d_La_law_114 (lv_at hl 0 rfl) ?_
  refine lv_iconst (v := 3) hx hb d_La_law_116 (by decide) ?_
  refine lv_iadd hx hb d_La_law_117 ?_
  have eq9 : ((nI i) + 3 : Int32) = nI (i + 3) := nI_add i 3
  refine W.eq (g2 := F0 m 118 ls [.int (nI (i + 3)), .ref b, .int u2, .int u1, .ref (a 0)]) (by rw [eq9]) ?_
  refine lx_ld (kx := i + 3) (v := u3) C hS E3 (by omega) d_La_law_118 ?_
  refine lv_aload_n hx hb d_La_law_119 rfl (lv_at hl 4 rfl) ?_
  refine lv_iload hx hb d_La_law_120 (lv_at hl 0 rfl) ?_
  refine lv_iconst (v := 4) hx hb d_La_law_122 (by decide) ?_
  refine lv_iadd hx hb d_La_law_123 ?_
  have eq9 : ((nI i) + 4 : Int32) = nI (i + 4) := nI_add i 4
  refine W.eq (g2 := F0 m 124 ls [.int (nI (i + 4)), .ref b, .int u3, .int u2, .int u1, .ref (a 0)]) (by rw [eq9]) ?_
  refine lx_ld (kx := i + 4) (v := u4) C hS E4 (by omega) d_La_law_124 ?_
  refine lv_aload_n hx hb d_La_law_125 rfl (lv_at hl 1 rfl) ?_
  refine xh_go (w2 := lx_W cI cZ cJ a (s1_add_1 S u1 u2 u3 u4) S W0) (wr := lx_R cI cZ cJ a S) (xh_runS (g := F0 m 126 ls [.ref (a 34), .int u4, .int u3, .int u2, .int u1, .ref (a 0)]) (As := [.ref (a 0), .int u1, .int u2, .int u3, .int u4, .ref (a 34)]) (rest := []) ⟨C.hx, C.hb, C.hml, C.hown, C.hg⟩ (c_La_add_1 l C.hLx D cI cZ cJ (a 0) (a 1) (a 2) (a 3) (a 4) (a 5) (a 6) (a 7) (a 8) (a 9) (a 10) (a 11) (a 12) (a 13) (a 14) (a 15) (a 16) S.P S.F S.B S.sr S.sd S.Rs S.Cs S.As S.Rt S.Ct S.At S.n S.k S.ks S.kt S.hs S.ds S.es S.xs S.ht S.dt S.et u1 u2 u3 u4 (a 34) W0 (hbad) H.size) m_La_add q286 rfl rfl ⟨Nat.le_of_ble_eq_true rfl, Nat.le_of_ble_eq_true rfl⟩ ⟨xh_blind, xh_pre C.hK (lx_hT C.hT hS) C.hV hP hD [0, 1, 2, 3, 4, 5, 6, 7, 8, 9, 10, 11, 12, 13, 14, 15, 16, 34] (by decide) rfl⟩ rfl rfl hl.1 rfl (lv_room (Nat.le_of_ble_eq_true rfl)) d_La_law_126 ⟨hce, hsl⟩) hP hD hS hA [0, 1, 2, 3, 4, 5, 6, 7, 8, 9, 10, 11, 12, 13, 14, 15, 16, 34] [17, 18, 19, 20, 21, 22, 23, 24, 25, 26, 27, 28, 29, 30, 31, 32, 33] [17, 18, 19, 20, 21, 22, 23, 24, 25, 26, 27, 28, 29, 30, 31, 32, 33, 0, 1, 2, 3, 4, 5, 6, 7, 8, 9, 10, 11, 12, 13, 14, 15, 16, 34] rfl rfl (by decide) (by decide) rfl (by decide) (fun H locs hP hD hS => ?_)
  refine lv_istore hx hb d_La_law_129 hl (by decide) rfl (fun ls hl => ?_)
  have hl : lv_has ls 7 [(5, .int 1), (4, .int (nI i)), (3, .ref (a 34)), (2, .ref (a 17)), (1, .ref (a 0)), (0, .ref b)] := hl
  refine lv_aload_n hx hb d_La_law_131 rfl (lv_at hl 3 rfl) ?_
  refine lv_aload_n hx hb d_La_law_132 rfl (lv_at hl 5 rfl) ?_
  refine lv_iload hx hb d_La_law_133 (lv_at hl 1 rfl) ?_
  refine lv_iconst (v := 1) hx hb d_La_law_135 (by decide) ?_
  refine lv_iadd hx hb d_La_law_136 ?_
  have eq9 : ((nI i) + 1 : Int32) = nI (i + 1) := nI_add i 1
  refine W.eq (g2 := F0 m 137 ls [.int (nI (i + 1)), .ref b, .ref (a 17)]) (by rw [eq9]) ?_
  refine lx_ld (kx := i + 1) (v := u1) C hS E1 (by omega) d_La_law_137 ?_
  refine lv_aload_n hx hb d_La_law_138 rfl (lv_at hl 5 rfl) ?_
  refine lv_iload hx hb d_La_law_139 (lv_at hl 1 rfl) ?_
  refine lv_iconst (v := 2) hx hb d_La_law_141 (by decide) ?_
  refine lv_iadd hx hb d_La_law_142 ?_
  have eq9 : ((nI i) + 2 : Int32) = nI (i + 2) := nI_add i 2
  refine W.eq (g2 := F0 m 143 ls [.int (nI (i + 2)), .ref b, .int u1, .ref (a 17)]) (by rw [eq9]) ?_
  refine lx_ld (kx := i + 2) (v := u2) C hS E2 (by omega) d_La_law_143 ?_
  refine lv_aload_n hx hb d_La_law_144 rfl (lv_at hl 5 rfl) ?_
  refine lv_iload hx hb d_La_law_145 (lv_at hl 1 rfl) ?_
  refine lv_iconst (v := 3) hx hb d_La_law_147 (by decide) ?_
  refine lv_iadd hx hb d_La_law_148 ?_
  have eq9 : ((nI i) + 3 : Int32) = nI (i + 3) := nI_add i 3
  refine W.eq (g2 := F0 m 149 ls [.int (nI (i + 3)), .ref b, .int u2, .int u1, .ref (a 17)]) (by rw [eq9]) ?_
  refine lx_ld (kx := i + 3) (v := u3) C hS E3 (by omega) d_La_law_149 ?_
  refine lv_aload_n hx hb d_La_law_150 rfl (lv_at hl 5 rfl) ?_
  refine lv_iload hx hb d_La_law_151 (lv_at hl 1 rfl) ?_
  refine lv_iconst (v := 4) hx hb d_La_law_153 (by decide) ?_
  refine lv_iadd hx hb d_La_law_154 ?_
  have eq9 : ((nI i) + 4 : Int32) = nI (i + 4) := nI_add i 4
  refine W.eq (g2 := F0 m 155 ls [.int (nI (i + 4)), .ref b, .int u3, .int u2, .int u1, .ref (a 17)]) (by rw [eq9]) ?_
  refine lx_ld (kx := i + 4) (v := u4) C hS E4 (by omega) d_La_law_155 ?_
  refine xi_go (w2 := lx_W cI cZ cJ a (s1_add_1 S u1 u2 u3 u4) (s1_add_1 S u1 u2 u3 u4) W0) (wr := lx_X cI cZ cJ a (s1_add_1 S u1 u2 u3 u4) ++ [lx_w cJ a W0]) (va_runV (As := [.int u1, .int u2, .int u3, .int u4]) (rest := []) (C := R_Mo) ⟨C.hx, C.hb, C.hml, C.hown, C.hg⟩ (c_Mo_add_1 l D cI cZ cJ (a 17) (a 18) (a 19) (a 20) (a 21) (a 22) (a 23) (a 24) (a 25) (a 26) (a 27) (a 28) (a 29) (a 30) (a 31) (a 32) (a 33) S.Po S.Pa S.Pb S.Pc S.G S.O S.Bm S.sr S.sd (tm_jn 8 S.Rs S.Rt) (tm_jn 64 S.Cs S.Ct) (tm_tw S.es S.et) (tm_tw S.hs S.ht) (tm_tw S.ds S.dt) (tm_tw (nI S.ks) (nI S.kt)) (tm_jn 120 S.As S.At) S.n S.k S.th S.tl S.nx u1 u2 u3 u4 (hbad) H.size) ⟨xg_B C.hg m_Mo_add.1 m_Mo_add.2.2.1 m_Mo_add.2.2.2.1 m_Mo_add.2.2.2.2 q632 rfl rfl ⟨Nat.le_of_ble_eq_true rfl, Nat.le_of_ble_eq_true rfl⟩, C.hg _ m_Mo_add.2.1, C.hg _ q634⟩ ⟨xw_blind, (va_recv (q0 := 17) C.hK.1 hP rfl rfl), xw_pre C.hK hP hD [17, 18, 19, 20, 21, 22, 23, 24, 25, 26, 27, 28, 29, 30, 31, 32, 33] (by decide) rfl⟩ rfl rfl hl.1 rfl (lv_room (Nat.le_of_ble_eq_true rfl)) d_La_law_156 ⟨hce, hsl⟩) hP hD hS hA [17, 18, 19, 20, 21, 22, 23, 24, 25, 26, 27, 28, 29, 30, 31, 32, 33] [0, 1, 2, 3, 4, 5, 6, 7, 8, 9, 10, 11, 12, 13, 14, 15, 16, 34] [0, 1, 2, 3, 4, 5, 6, 7, 8, 9, 10, 11, 12, 13, 14, 15, 16, 18, 19, 20, 21, 22, 23, 24, 25, 26, 27, 28, 29, 30, 31, 32, 33, 34, 17] rfl rfl (by decide) (by decide) rfl (by decide) (fun H locs hP hD hS => ?_)
  refine lv_istore hx hb d_La_law_159 hl (by decide) rfl (fun ls hl => ?_)
  have hl : lv_has ls 7 [(6, .int 0), (5, .int 1), (4, .int (nI i)), (3, .ref (a 34)), (2, .ref (a 17)), (1, .ref (a 0)), (0, .ref b)] := hl
  refine lv_aload_n hx hb d_La_law_161 rfl (lv_at hl 4 rfl) ?_
  refine xr_V (C := R_Mo) (As := []) (rest := []) ⟨C.hx, C.hb, C.hml, C.hown, C.hg⟩ (c_Mo_thrown l D cI cZ cJ (a 17) (a 18) (a 19) (a 20) (a 21) (a 22) (a 23) (a 24) (a 25) (a 26) (a 27) (a 28) (a 29) (a 30) (a 31) (a 32) (a 33) ((s1_add_1 S u1 u2 u3 u4).Po) ((s1_add_1 S u1 u2 u3 u4).Pa) ((s1_add_1 S u1 u2 u3 u4).Pb) ((s1_add_1 S u1 u2 u3 u4).Pc) ((s1_add_1 S u1 u2 u3 u4).G) ((s1_add_1 S u1 u2 u3 u4).O) ((s1_add_1 S u1 u2 u3 u4).Bm) ((s1_add_1 S u1 u2 u3 u4).sr) ((s1_add_1 S u1 u2 u3 u4).sd) (tm_jn 8 ((s1_add_1 S u1 u2 u3 u4).Rs) ((s1_add_1 S u1 u2 u3 u4).Rt)) (tm_jn 64 ((s1_add_1 S u1 u2 u3 u4).Cs) ((s1_add_1 S u1 u2 u3 u4).Ct)) (tm_tw ((s1_add_1 S u1 u2 u3 u4).es) ((s1_add_1 S u1 u2 u3 u4).et)) (tm_tw ((s1_add_1 S u1 u2 u3 u4).hs) ((s1_add_1 S u1 u2 u3 u4).ht)) (tm_tw ((s1_add_1 S u1 u2 u3 u4).ds) ((s1_add_1 S u1 u2 u3 u4).dt)) (tm_tw (nI (s1_add_1 S u1 u2 u3 u4).ks) (nI (s1_add_1 S u1 u2 u3 u4).kt)) (tm_jn 120 ((s1_add_1 S u1 u2 u3 u4).As) ((s1_add_1 S u1 u2 u3 u4).At)) ((s1_add_1 S u1 u2 u3 u4).n) ((s1_add_1 S u1 u2 u3 u4).k) 1 ((s1_add_1 S u1 u2 u3 u4).tl) ((s1_add_1 S u1 u2 u3 u4).nx)) m_Mo_thrown q628 q630 ⟨rfl, rfl⟩ ⟨Nat.le_of_ble_eq_true rfl, Nat.le_of_ble_eq_true rfl⟩ C.hK hP [17, 18, 19, 20, 21, 22, 23, 24, 25, 26, 27, 28, 29, 30, 31, 32, 33] rfl (va_recv (q0 := 17) C.hK.1 hP rfl rfl) rfl hl.1 rfl (Nat.le_of_ble_eq_true rfl) d_La_law_162 ⟨hce, hsl⟩ ?_
  refine lv_iload hx hb d_La_law_165 (lv_at hl 1 rfl) ?_
  refine lv_icmp_eq (tgt := 172) hx hb d_La_law_167 rfl (fun _ => ?_) (fun hz9 => absurd (by decide) hz9)
  refine lv_iload hx hb d_La_law_172 (lv_at hl 1 rfl) ?_
  refine lv_if_ne (tgt := 189) hx hb d_La_law_174 rfl (fun _ => ?_) (fun hz9 => absurd hz9 (by decide))
  refine lv_goto (tgt := 704) hx hb d_La_law_189 rfl ?_
  exact W.widen (by omega) (by omega) (k _ H locs ls ⟨hP, hD, hS⟩ (lv_sub hl [2, 3, 4, 5, 6] rfl))

def s1_clear (S : lx_S)  : lx_S := lx_mk S.P S.F S.B S.sr S.sd S.Rs S.Cs S.As S.Rt S.Ct S.At S.Po S.Pa S.Pb S.Pc S.G S.O S.Bm 0 0 S.ks S.kt S.hs S.ds S.es S.xs S.ht S.dt S.et 0 S.nx 0
set_option maxHeartbeats 4000000 in
set_option maxRecDepth 100000 in
theorem la_clear {p : Program} {l : Launch} {e : Env} {s : State} {m : MethodId} {args : Array Value} {below : List Frame} {meth : Method} {c : Code} {D : va_G} {cI cZ cJ : ClassId} {b L : Nat} {xs : Nat → Int32} {Q : State → Prop} (C : lx_C p l s m args c D cI cZ cJ b L xs) {a : Nat → Nat} {S : lx_S} {W0 : Nat → Int64} {H : Heap} {locs : List Loc} (X : lx_H D cI cZ cJ s a S S W0 H locs) {ls : Array Slot} {i : Nat} (hi : i + 5 ≤ L) (hl : lv_has ls 7 [(4, .int (nI i)), (3, .ref (a 34)), (2, .ref (a 17)), (1, .ref (a 0)), (0, .ref b)]) {cells slots : Nat} (hce : cells + 1 ≤ room_1.cells) (hsl : slots + 6 ≤ room_1.slots)
    (k : ∀ (W1 : Nat → Int64) (H1 : Heap) (locs1 : List Loc) (ls1 : Array Slot), lx_H D cI cZ cJ s a (s1_clear S) (s1_clear S) W1 H1 locs1 → lv_has ls1 7 [(4, .int (nI i)), (3, .ref (a 34)), (2, .ref (a 17)), (1, .ref (a 0)), (0, .ref b)] → W p l e room_1 s m args below meth c H1 locs1 (cells + 1) (slots + 6) Q (F0 m 704 ls1 [])) : W p l e room_1 s m args below meth c H locs cells slots Q (F0 m 192 ls []) := by
  obtain ⟨hP, hD, hS⟩ := X
  have hx := C.hx
  have hb := C.hb
  have hK := C.hK
  have hL := C.hL
  have hA : ∀ q : Nat, s.heap.size ≤ q → lx_A s q := fun _ h => h
  have hce0 : cells ≤ room_1.cells := Nat.le_of_succ_le hce
  have hsl0 : slots ≤ room_1.slots := Nat.le_trans (Nat.le_add_right _ _) hsl
  refine lv_aload_n hx hb d_La_law_192 rfl (lv_at hl 3 rfl) ?_
  refine xi_go (w2 := lx_W cI cZ cJ a (s1_clear S) S W0) (wr := lx_R cI cZ cJ a S ++ [lx_w cJ a W0]) (va_runV (As := []) (rest := []) (C := R_TM) ⟨C.hx, C.hb, C.hml, C.hown, C.hg⟩ (c_TM_clear l D cI cZ cJ (a 0) (a 1) (a 2) (a 3) (a 4) (a 5) (a 6) (a 7) (a 8) (a 9) (a 10) (a 11) (a 12) (a 13) (a 14) (a 15) (a 16) S.P S.F S.B S.sr S.sd S.Rs S.Cs S.As S.Rt S.Ct S.At S.n S.k S.ks S.kt S.hs S.ds S.es S.xs S.ht S.dt S.et H.size) ⟨xg_B C.hg m_TM_clear.1 m_TM_clear.2.2.1 m_TM_clear.2.2.2.1 m_TM_clear.2.2.2.2 q159 rfl rfl ⟨Nat.le_of_ble_eq_true rfl, Nat.le_of_ble_eq_true rfl⟩, C.hg _ m_TM_clear.2.1, C.hg _ q161⟩ ⟨xw_blind, (va_recv (q0 := 0) C.hK.1 hP rfl rfl), xw_pre C.hK hP hD [0, 1, 2, 3, 4, 5, 6, 7, 8, 9, 10, 11, 12, 13, 14, 15, 16] (by decide) rfl⟩ rfl rfl hl.1 rfl (lv_room (Nat.le_of_ble_eq_true rfl)) d_La_law_193 ⟨hce0, hsl0⟩) hP hD hS hA [0, 1, 2, 3, 4, 5, 6, 7, 8, 9, 10, 11, 12, 13, 14, 15, 16] [17, 18, 19, 20, 21, 22, 23, 24, 25, 26, 27, 28, 29, 30, 31, 32, 33, 34] [18, 19, 20, 21, 22, 23, 24, 25, 26, 27, 28, 29, 30, 31, 32, 33, 34, 0, 1, 2, 3, 4, 5, 6, 7, 8, 9, 10, 11, 12, 13, 14, 15, 16, 17] rfl rfl (by decide) (by decide) rfl (by decide) (fun H locs hP hD hS => ?_)
  refine lv_aload_n hx hb d_La_law_196 rfl (lv_at hl 2 rfl) ?_
  refine xi_go (w2 := lx_W cI cZ cJ a (s1_clear S) (s1_clear S) W0) (wr := lx_X cI cZ cJ a (s1_clear S) ++ [lx_w cJ a W0]) (va_runV (As := []) (rest := [.int (nI S.n)]) (C := R_Mo) ⟨C.hx, C.hb, C.hml, C.hown, C.hg⟩ (c_Mo_clear l D cI cZ cJ (a 17) (a 18) (a 19) (a 20) (a 21) (a 22) (a 23) (a 24) (a 25) (a 26) (a 27) (a 28) (a 29) (a 30) (a 31) (a 32) (a 33) S.Po S.Pa S.Pb S.Pc S.G S.O S.Bm S.sr S.sd (tm_jn 8 S.Rs S.Rt) (tm_jn 64 S.Cs S.Ct) (tm_tw S.es S.et) (tm_tw S.hs S.ht) (tm_tw S.ds S.dt) (tm_tw (nI S.ks) (nI S.kt)) (tm_jn 120 S.As S.At) S.n S.k S.th S.tl S.nx H.size) ⟨xg_B C.hg m_Mo_clear.1 m_Mo_clear.2.2.1 m_Mo_clear.2.2.2.1 m_Mo_clear.2.2.2.2 q643 rfl rfl ⟨Nat.le_of_ble_eq_true rfl, Nat.le_of_ble_eq_true rfl⟩, C.hg _ m_Mo_clear.2.1, C.hg _ q645⟩ ⟨xw_blind, (va_recv (q0 := 17) C.hK.1 hP rfl rfl), xw_pre C.hK hP hD [17, 18, 19, 20, 21, 22, 23, 24, 25, 26, 27, 28, 29, 30, 31, 32, 33] (by decide) rfl⟩ rfl rfl hl.1 rfl (lv_room (Nat.le_of_ble_eq_true rfl)) d_La_law_197 ⟨hce0, hsl0⟩) hP hD hS hA [17, 18, 19, 20, 21, 22, 23, 24, 25, 26, 27, 28, 29, 30, 31, 32, 33] [0, 1, 2, 3, 4, 5, 6, 7, 8, 9, 10, 11, 12, 13, 14, 15, 16, 34] [0, 1, 2, 3, 4, 5, 6, 7, 8, 9, 10, 11, 12, 13, 14, 15, 16, 18, 19, 20, 21, 22, 23, 24, 25, 26, 27, 28, 29, 30, 31, 32, 33, 34, 17] rfl rfl (by decide) (by decide) rfl (by decide) (fun H locs hP hD hS => ?_)
  refine lv_icmp_eq (tgt := 704) hx hb d_La_law_200 rfl (fun _ => ?_) (fun hz9 => absurd (rfl) hz9)
  exact W.widen (by omega) (by omega) (k _ H locs ls ⟨hP, hD, hS⟩ (lv_sub hl [0, 1, 2, 3, 4] rfl))

def s1_translate_no (S : lx_S)  : lx_S := lx_mk S.P S.F S.B S.sr S.sd S.Rs S.Cs S.As S.Rt S.Ct S.At S.Po S.Pa S.Pb S.Pc S.G S.O S.Bm S.n 0 S.ks S.kt S.hs S.ds S.es S.xs S.ht S.dt S.et 0 S.nx 0
set_option maxHeartbeats 4000000 in
set_option maxRecDepth 100000 in
theorem la_translate_no {p : Program} {l : Launch} {e : Env} {s : State} {m : MethodId} {args : Array Value} {below : List Frame} {meth : Method} {c : Code} {D : va_G} {cI cZ cJ : ClassId} {b L : Nat} {xs : Nat → Int32} {Q : State → Prop} (C : lx_C p l s m args c D cI cZ cJ b L xs) {a : Nat → Nat} {S : lx_S} {W0 : Nat → Int64} {H : Heap} {locs : List Loc} (X : lx_H D cI cZ cJ s a S S W0 H locs) {ls : Array Slot} {i : Nat} (hi : i + 5 ≤ L) (hl : lv_has ls 7 [(4, .int (nI i)), (3, .ref (a 34)), (2, .ref (a 17)), (1, .ref (a 0)), (0, .ref b)]) {cells slots : Nat} (hce : cells + 1 ≤ room_1.cells) (hsl : slots + 6 ≤ room_1.slots) (hPo : ∀ i, S.Po i = S.P (4 * i)) (hPa : ∀ i, S.Pa i = S.P (4 * i + 1)) (hPb : ∀ i, S.Pb i = S.P (4 * i + 2)) (hPc : ∀ i, S.Pc i = S.P (4 * i + 3)) (hn : S.n ≤ 24) (hin : tm_in S.P S.n) (hr0 : ¬ tm_ref S.P S.n = 0)
    (k : ∀ (W1 : Nat → Int64) (H1 : Heap) (locs1 : List Loc) (ls1 : Array Slot), lx_H D cI cZ cJ s a (s1_translate_no S) (s1_translate_no S) W1 H1 locs1 → lv_has ls1 7 [(4, .int (nI i)), (3, .ref (a 34)), (2, .ref (a 17)), (1, .ref (a 0)), (0, .ref b)] → W p l e room_1 s m args below meth c H1 locs1 (cells + 1) (slots + 6) Q (F0 m 704 ls1 [])) : W p l e room_1 s m args below meth c H locs cells slots Q (F0 m 205 ls []) := by
  obtain ⟨hP, hD, hS⟩ := X
  have hx := C.hx
  have hb := C.hb
  have hK := C.hK
  have hL := C.hL
  have hA : ∀ q : Nat, s.heap.size ≤ q → lx_A s q := fun _ h => h
  have hce0 : cells ≤ room_1.cells := Nat.le_of_succ_le hce
  have hsl0 : slots ≤ room_1.slots := Nat.le_trans (Nat.le_add_right _ _) hsl
  refine lv_aload_n hx hb d_La_law_205 rfl (lv_at hl 3 rfl) ?_
  refine xi_go (w2 := lx_W cI cZ cJ a (s1_translate_no S) S W0) (wr := lx_R cI cZ cJ a S ++ [lx_w cJ a W0]) (va_runV (As := []) (rest := []) (C := R_TM) ⟨C.hx, C.hb, C.hml, C.hown, C.hg⟩ (c_TM_translate_no l D cI cZ cJ (a 0) (a 1) (a 2) (a 3) (a 4) (a 5) (a 6) (a 7) (a 8) (a 9) (a 10) (a 11) (a 12) (a 13) (a 14) (a 15) (a 16) S.P S.F S.B S.sr S.sd S.Rs S.Cs S.As S.Rt S.Ct S.At S.n S.k S.ks S.kt S.hs S.ds S.es S.xs S.ht S.dt S.et (hn) (hr0) H.size) ⟨xg_B C.hg m_TM_translate.1 m_TM_translate.2.2.1 m_TM_translate.2.2.2.1 m_TM_translate.2.2.2.2 q167 rfl rfl ⟨Nat.le_of_ble_eq_true rfl, Nat.le_of_ble_eq_true rfl⟩, C.hg _ m_TM_translate.2.1, C.hg _ q169⟩ ⟨xw_blind, (va_recv (q0 := 0) C.hK.1 hP rfl rfl), xw_pre C.hK hP hD [0, 1, 2, 3, 4, 5, 6, 7, 8, 9, 10, 11, 12, 13, 14, 15, 16] (by decide) rfl⟩ rfl rfl hl.1 rfl (lv_room (Nat.le_of_ble_eq_true rfl)) d_La_law_206 ⟨hce0, hsl0⟩) hP hD hS hA [0, 1, 2, 3, 4, 5, 6, 7, 8, 9, 10, 11, 12, 13, 14, 15, 16] [17, 18, 19, 20, 21, 22, 23, 24, 25, 26, 27, 28, 29, 30, 31, 32, 33, 34] [18, 19, 20, 21, 22, 23, 24, 25, 26, 27, 28, 29, 30, 31, 32, 33, 34, 0, 1, 2, 3, 4, 5, 6, 7, 8, 9, 10, 11, 12, 13, 14, 15, 16, 17] rfl rfl (by decide) (by decide) rfl (by decide) (fun H locs hP hD hS => ?_)
  refine lv_aload_n hx hb d_La_law_209 rfl (lv_at hl 2 rfl) ?_
  refine xi_go (w2 := lx_W cI cZ cJ a (s1_translate_no S) (s1_translate_no S) W0) (wr := lx_X cI cZ cJ a (s1_translate_no S) ++ [lx_w cJ a W0]) (va_runV (As := []) (rest := [.int (tm_ref S.P S.n)]) (C := R_Mo) ⟨C.hx, C.hb, C.hml, C.hown, C.hg⟩ (c_Mo_translate_no l D cI cZ cJ (a 17) (a 18) (a 19) (a 20) (a 21) (a 22) (a 23) (a 24) (a 25) (a 26) (a 27) (a 28) (a 29) (a 30) (a 31) (a 32) (a 33) S.Po S.Pa S.Pb S.Pc S.G S.O S.Bm S.sr S.sd (tm_jn 8 S.Rs S.Rt) (tm_jn 64 S.Cs S.Ct) (tm_tw S.es S.et) (tm_tw S.hs S.ht) (tm_tw S.ds S.dt) (tm_tw (nI S.ks) (nI S.kt)) (tm_jn 120 S.As S.At) S.n S.k S.th S.tl S.nx S.P (hPo) (hPa) (hPb) (hPc) (hn) (hin) (hr0) H.size) ⟨xg_B C.hg m_Mo_translate.1 m_Mo_translate.2.2.1 m_Mo_translate.2.2.2.1 m_Mo_translate.2.2.2.2 q647 rfl rfl ⟨Nat.le_of_ble_eq_true rfl, Nat.le_of_ble_eq_true rfl⟩, C.hg _ m_Mo_translate.2.1, C.hg _ q649⟩ ⟨xw_blind, (va_recv (q0 := 17) C.hK.1 hP rfl rfl), xw_pre C.hK hP hD [17, 18, 19, 20, 21, 22, 23, 24, 25, 26, 27, 28, 29, 30, 31, 32, 33] (by decide) rfl⟩ rfl rfl hl.1 rfl (lv_room (Nat.le_of_ble_eq_true rfl)) d_La_law_210 ⟨hce0, hsl0⟩) hP hD hS hA [17, 18, 19, 20, 21, 22, 23, 24, 25, 26, 27, 28, 29, 30, 31, 32, 33] [0, 1, 2, 3, 4, 5, 6, 7, 8, 9, 10, 11, 12, 13, 14, 15, 16, 34] [0, 1, 2, 3, 4, 5, 6, 7, 8, 9, 10, 11, 12, 13, 14, 15, 16, 18, 19, 20, 21, 22, 23, 24, 25, 26, 27, 28, 29, 30, 31, 32, 33, 34, 17] rfl rfl (by decide) (by decide) rfl (by decide) (fun H locs hP hD hS => ?_)
  refine lv_icmp_eq (tgt := 704) hx hb d_La_law_213 rfl (fun _ => ?_) (fun hz9 => absurd (rfl) hz9)
  exact W.widen (by omega) (by omega) (k _ H locs ls ⟨hP, hD, hS⟩ (lv_sub hl [0, 1, 2, 3, 4] rfl))

def s1_translate_ok (S : lx_S)  : lx_S := lx_mk S.P (tm_p1 S.P S.n (tm_bg S.P S.n S.B (S.n + 1)) (tm_p1 S.P S.n S.B S.F)) (tm_bg S.P S.n (tm_bg S.P S.n S.B (S.n + 1)) (S.n + 1)) S.sr S.sd S.Rs S.Cs S.As S.Rt S.Ct S.At S.Po S.Pa S.Pb S.Pc (tm_pt (tm_bg S.P S.n S.Bm (S.n + 1)) (tm_po S.O 0 (tm_all S.P S.n)) (tm_pa tm_rw S.G 0 (tm_all S.P S.n)) (tm_of S.P S.n S.n + 1)) (tm_po S.O 0 (tm_all S.P S.n)) (tm_bg S.P S.n S.Bm (S.n + 1)) S.n (tm_of S.P S.n S.n + 1) S.ks S.kt S.hs S.ds S.es S.xs S.ht S.dt S.et 1 S.nx 0
set_option maxHeartbeats 4000000 in
set_option maxRecDepth 100000 in
theorem la_translate_ok {p : Program} {l : Launch} {e : Env} {s : State} {m : MethodId} {args : Array Value} {below : List Frame} {meth : Method} {c : Code} {D : va_G} {cI cZ cJ : ClassId} {b L : Nat} {xs : Nat → Int32} {Q : State → Prop} (C : lx_C p l s m args c D cI cZ cJ b L xs) {a : Nat → Nat} {S : lx_S} {W0 : Nat → Int64} {H : Heap} {locs : List Loc} (X : lx_H D cI cZ cJ s a S S W0 H locs) {ls : Array Slot} {i : Nat} (hi : i + 5 ≤ L) (hl : lv_has ls 7 [(4, .int (nI i)), (3, .ref (a 34)), (2, .ref (a 17)), (1, .ref (a 0)), (0, .ref b)]) {cells slots : Nat} (hce : cells + 1 ≤ room_1.cells) (hsl : slots + 6 ≤ room_1.slots) (hPo : ∀ i, S.Po i = S.P (4 * i)) (hPa : ∀ i, S.Pa i = S.P (4 * i + 1)) (hPb : ∀ i, S.Pb i = S.P (4 * i + 2)) (hPc : ∀ i, S.Pc i = S.P (4 * i + 3)) (hn : S.n ≤ 24) (hin : tm_in S.P S.n) (hok : tm_ok S.P S.n) (hr0 : tm_ref S.P S.n = 0) (hop : ∀ i, i < tm_of S.P S.n S.n + 1 → ¬ tm_po S.O 0 (tm_all S.P S.n) i = 0 → ∃ j : Nat, j ≤ S.n ∧ tm_pa tm_rw S.G 0 (tm_all S.P S.n) (4 * i + 3) = nI j)
    (k : ∀ (W1 : Nat → Int64) (H1 : Heap) (locs1 : List Loc) (ls1 : Array Slot), lx_H D cI cZ cJ s a (s1_translate_ok S) (s1_translate_ok S) W1 H1 locs1 → lv_has ls1 7 [(4, .int (nI i)), (3, .ref (a 34)), (2, .ref (a 17)), (1, .ref (a 0)), (0, .ref b)] → W p l e room_1 s m args below meth c H1 locs1 (cells + 1) (slots + 6) Q (F0 m 704 ls1 [])) : W p l e room_1 s m args below meth c H locs cells slots Q (F0 m 205 ls []) := by
  obtain ⟨hP, hD, hS⟩ := X
  have hx := C.hx
  have hb := C.hb
  have hK := C.hK
  have hL := C.hL
  have hA : ∀ q : Nat, s.heap.size ≤ q → lx_A s q := fun _ h => h
  have hce0 : cells ≤ room_1.cells := Nat.le_of_succ_le hce
  have hsl0 : slots ≤ room_1.slots := Nat.le_trans (Nat.le_add_right _ _) hsl
  refine lv_aload_n hx hb d_La_law_205 rfl (lv_at hl 3 rfl) ?_
  refine xi_go (w2 := lx_W cI cZ cJ a (s1_translate_ok S) S W0) (wr := lx_R cI cZ cJ a S ++ [lx_w cJ a W0]) (va_runV (As := []) (rest := []) (C := R_TM) ⟨C.hx, C.hb, C.hml, C.hown, C.hg⟩ (c_TM_translate_ok l D cI cZ cJ (a 0) (a 1) (a 2) (a 3) (a 4) (a 5) (a 6) (a 7) (a 8) (a 9) (a 10) (a 11) (a 12) (a 13) (a 14) (a 15) (a 16) S.P S.F S.B S.sr S.sd S.Rs S.Cs S.As S.Rt S.Ct S.At S.n S.k S.ks S.kt S.hs S.ds S.es S.xs S.ht S.dt S.et (hn) (hr0) (hin) (hok) H.size) ⟨xg_B C.hg m_TM_translate.1 m_TM_translate.2.2.1 m_TM_translate.2.2.2.1 m_TM_translate.2.2.2.2 q167 rfl rfl ⟨Nat.le_of_ble_eq_true rfl, Nat.le_of_ble_eq_true rfl⟩, C.hg _ m_TM_translate.2.1, C.hg _ q169⟩ ⟨xw_blind, (va_recv (q0 := 0) C.hK.1 hP rfl rfl), xw_pre C.hK hP hD [0, 1, 2, 3, 4, 5, 6, 7, 8, 9, 10, 11, 12, 13, 14, 15, 16] (by decide) rfl⟩ rfl rfl hl.1 rfl (lv_room (Nat.le_of_ble_eq_true rfl)) d_La_law_206 ⟨hce0, hsl0⟩) hP hD hS hA [0, 1, 2, 3, 4, 5, 6, 7, 8, 9, 10, 11, 12, 13, 14, 15, 16] [17, 18, 19, 20, 21, 22, 23, 24, 25, 26, 27, 28, 29, 30, 31, 32, 33, 34] [18, 19, 20, 21, 22, 23, 24, 25, 26, 27, 28, 29, 30, 31, 32, 33, 34, 0, 1, 2, 3, 4, 5, 6, 7, 8, 9, 10, 11, 12, 13, 14, 15, 16, 17] rfl rfl (by decide) (by decide) rfl (by decide) (fun H locs hP hD hS => ?_)
  refine lv_aload_n hx hb d_La_law_209 rfl (lv_at hl 2 rfl) ?_
  refine xi_go (w2 := lx_W cI cZ cJ a (s1_translate_ok S) (s1_translate_ok S) W0) (wr := lx_X cI cZ cJ a (s1_translate_ok S) ++ [lx_w cJ a W0]) (va_runV (As := []) (rest := [.int (tm_ref S.P S.n)]) (C := R_Mo) ⟨C.hx, C.hb, C.hml, C.hown, C.hg⟩ (c_Mo_translate_ok l D cI cZ cJ (a 17) (a 18) (a 19) (a 20) (a 21) (a 22) (a 23) (a 24) (a 25) (a 26) (a 27) (a 28) (a 29) (a 30) (a 31) (a 32) (a 33) S.Po S.Pa S.Pb S.Pc S.G S.O S.Bm S.sr S.sd (tm_jn 8 S.Rs S.Rt) (tm_jn 64 S.Cs S.Ct) (tm_tw S.es S.et) (tm_tw S.hs S.ht) (tm_tw S.ds S.dt) (tm_tw (nI S.ks) (nI S.kt)) (tm_jn 120 S.As S.At) S.n S.k S.th S.tl S.nx S.P (hPo) (hPa) (hPb) (hPc) (hn) (hin) (hok) (hop) H.size) ⟨xg_B C.hg m_Mo_translate.1 m_Mo_translate.2.2.1 m_Mo_translate.2.2.2.1 m_Mo_translate.2.2.2.2 q647 rfl rfl ⟨Nat.le_of_ble_eq_true rfl, Nat.le_of_ble_eq_true rfl⟩, C.hg _ m_Mo_translate.2.1, C.hg _ q649⟩ ⟨xw_blind, (va_recv (q0 := 17) C.hK.1 hP rfl rfl), xw_pre C.hK hP hD [17, 18, 19, 20, 21, 22, 23, 24, 25, 26, 27, 28, 29, 30, 31, 32, 33] (by decide) rfl⟩ rfl rfl hl.1 rfl (lv_room (Nat.le_of_ble_eq_true rfl)) d_La_law_210 ⟨hce0, hsl0⟩) hP hD hS hA [17, 18, 19, 20, 21, 22, 23, 24, 25, 26, 27, 28, 29, 30, 31, 32, 33] [0, 1, 2, 3, 4, 5, 6, 7, 8, 9, 10, 11, 12, 13, 14, 15, 16, 34] [0, 1, 2, 3, 4, 5, 6, 7, 8, 9, 10, 11, 12, 13, 14, 15, 16, 18, 19, 20, 21, 22, 23, 24, 25, 26, 27, 28, 29, 30, 31, 32, 33, 34, 17] rfl rfl (by decide) (by decide) rfl (by decide) (fun H locs hP hD hS => ?_)
  refine lv_icmp_eq (tgt := 704) hx hb d_La_law_213 rfl (fun _ => ?_) (fun hz9 => absurd (hr0) hz9)
  exact W.widen (by omega) (by omega) (k _ H locs ls ⟨hP, hD, hS⟩ (lv_sub hl [0, 1, 2, 3, 4] rfl))

def s1_size (S : lx_S)  : lx_S := lx_mk S.P S.F S.B S.sr S.sd S.Rs S.Cs S.As S.Rt S.Ct S.At S.Po S.Pa S.Pb S.Pc S.G S.O S.Bm S.n S.k S.ks S.kt S.hs S.ds S.es S.xs S.ht S.dt S.et S.tl S.nx 0
set_option maxHeartbeats 4000000 in
set_option maxRecDepth 100000 in
theorem la_size {p : Program} {l : Launch} {e : Env} {s : State} {m : MethodId} {args : Array Value} {below : List Frame} {meth : Method} {c : Code} {D : va_G} {cI cZ cJ : ClassId} {b L : Nat} {xs : Nat → Int32} {Q : State → Prop} (C : lx_C p l s m args c D cI cZ cJ b L xs) {a : Nat → Nat} {S : lx_S} {W0 : Nat → Int64} {H : Heap} {locs : List Loc} (X : lx_H D cI cZ cJ s a S S W0 H locs) {ls : Array Slot} {i : Nat} (hi : i + 5 ≤ L) (hl : lv_has ls 7 [(4, .int (nI i)), (3, .ref (a 34)), (2, .ref (a 17)), (1, .ref (a 0)), (0, .ref b)]) {cells slots : Nat} (hce : cells + 1 ≤ room_1.cells) (hsl : slots + 6 ≤ room_1.slots)
    (k : ∀ (W1 : Nat → Int64) (H1 : Heap) (locs1 : List Loc) (ls1 : Array Slot), lx_H D cI cZ cJ s a (s1_size S) (s1_size S) W1 H1 locs1 → lv_has ls1 7 [(4, .int (nI i)), (3, .ref (a 34)), (2, .ref (a 17)), (1, .ref (a 0)), (0, .ref b)] → W p l e room_1 s m args below meth c H1 locs1 (cells + 1) (slots + 6) Q (F0 m 704 ls1 [])) : W p l e room_1 s m args below meth c H locs cells slots Q (F0 m 218 ls []) := by
  obtain ⟨hP, hD, hS⟩ := X
  have hx := C.hx
  have hb := C.hb
  have hK := C.hK
  have hL := C.hL
  have hA : ∀ q : Nat, s.heap.size ≤ q → lx_A s q := fun _ h => h
  have hce0 : cells ≤ room_1.cells := Nat.le_of_succ_le hce
  have hsl0 : slots ≤ room_1.slots := Nat.le_trans (Nat.le_add_right _ _) hsl
  refine lv_aload_n hx hb d_La_law_218 rfl (lv_at hl 3 rfl) ?_
  refine xr_V (C := R_TM) (As := []) (rest := []) ⟨C.hx, C.hb, C.hml, C.hown, C.hg⟩ (c_TM_size l D cI cZ cJ (a 0) (a 1) (a 2) (a 3) (a 4) (a 5) (a 6) (a 7) (a 8) (a 9) (a 10) (a 11) (a 12) (a 13) (a 14) (a 15) (a 16) S.P S.F S.B S.sr S.sd S.Rs S.Cs S.As S.Rt S.Ct S.At S.n S.k S.ks S.kt S.hs S.ds S.es S.xs S.ht S.dt S.et) m_TM_size q259 q261 ⟨rfl, rfl⟩ ⟨Nat.le_of_ble_eq_true rfl, Nat.le_of_ble_eq_true rfl⟩ C.hK hP [0, 1, 2, 3, 4, 5, 6, 7, 8, 9, 10, 11, 12, 13, 14, 15, 16] rfl (va_recv (q0 := 0) C.hK.1 hP rfl rfl) rfl hl.1 rfl (Nat.le_of_ble_eq_true rfl) d_La_law_219 ⟨hce0, hsl0⟩ ?_
  refine lv_aload_n hx hb d_La_law_222 rfl (lv_at hl 2 rfl) ?_
  refine xi_go (w2 := lx_W cI cZ cJ a (s1_size S) (s1_size S) W0) (wr := lx_X cI cZ cJ a (s1_size S) ++ [lx_w cJ a W0]) (va_runV (As := []) (rest := [.int (nI S.k)]) (C := R_Mo) ⟨C.hx, C.hb, C.hml, C.hown, C.hg⟩ (c_Mo_size l D cI cZ cJ (a 17) (a 18) (a 19) (a 20) (a 21) (a 22) (a 23) (a 24) (a 25) (a 26) (a 27) (a 28) (a 29) (a 30) (a 31) (a 32) (a 33) S.Po S.Pa S.Pb S.Pc S.G S.O S.Bm S.sr S.sd (tm_jn 8 S.Rs S.Rt) (tm_jn 64 S.Cs S.Ct) (tm_tw S.es S.et) (tm_tw S.hs S.ht) (tm_tw S.ds S.dt) (tm_tw (nI S.ks) (nI S.kt)) (tm_jn 120 S.As S.At) S.n S.k S.th S.tl S.nx H.size) ⟨xg_B C.hg m_Mo_size.1 m_Mo_size.2.2.1 m_Mo_size.2.2.2.1 m_Mo_size.2.2.2.2 q690 rfl rfl ⟨Nat.le_of_ble_eq_true rfl, Nat.le_of_ble_eq_true rfl⟩, C.hg _ m_Mo_size.2.1, C.hg _ q692⟩ ⟨xw_blind, (va_recv (q0 := 17) C.hK.1 hP rfl rfl), xw_pre C.hK hP hD [17, 18, 19, 20, 21, 22, 23, 24, 25, 26, 27, 28, 29, 30, 31, 32, 33] (by decide) rfl⟩ rfl rfl hl.1 rfl (lv_room (Nat.le_of_ble_eq_true rfl)) d_La_law_223 ⟨hce0, hsl0⟩) hP hD hS hA [17, 18, 19, 20, 21, 22, 23, 24, 25, 26, 27, 28, 29, 30, 31, 32, 33] [0, 1, 2, 3, 4, 5, 6, 7, 8, 9, 10, 11, 12, 13, 14, 15, 16, 34] [0, 1, 2, 3, 4, 5, 6, 7, 8, 9, 10, 11, 12, 13, 14, 15, 16, 18, 19, 20, 21, 22, 23, 24, 25, 26, 27, 28, 29, 30, 31, 32, 33, 34, 17] rfl rfl (by decide) (by decide) rfl (by decide) (fun H locs hP hD hS => ?_)
  refine lv_icmp_eq (tgt := 704) hx hb d_La_law_226 rfl (fun _ => ?_) (fun hz9 => absurd (rfl) hz9)
  exact W.widen (by omega) (by omega) (k _ H locs ls ⟨hP, hD, hS⟩ (lv_sub hl [0, 1, 2, 3, 4] rfl))

def s1_code (S : lx_S) (q w : Nat) : lx_S := lx_mk S.P S.F S.B S.sr S.sd S.Rs S.Cs S.As S.Rt S.Ct S.At S.Po S.Pa S.Pb S.Pc S.G S.O S.Bm S.n S.k S.ks S.kt S.hs S.ds S.es S.xs S.ht S.dt S.et S.tl S.nx 0
set_option maxHeartbeats 4000000 in
set_option maxRecDepth 100000 in
theorem la_code {p : Program} {l : Launch} {e : Env} {s : State} {m : MethodId} {args : Array Value} {below : List Frame} {meth : Method} {c : Code} {D : va_G} {cI cZ cJ : ClassId} {b L : Nat} {xs : Nat → Int32} {Q : State → Prop} (C : lx_C p l s m args c D cI cZ cJ b L xs) {a : Nat → Nat} {S : lx_S} {W0 : Nat → Int64} {H : Heap} {locs : List Loc} (X : lx_H D cI cZ cJ s a S S W0 H locs) {ls : Array Slot} {i : Nat} (hi : i + 5 ≤ L) (hl : lv_has ls 7 [(4, .int (nI i)), (3, .ref (a 34)), (2, .ref (a 17)), (1, .ref (a 0)), (0, .ref b)]) {cells slots : Nat} (hce : cells + 1 ≤ room_1.cells) (hsl : slots + 6 ≤ room_1.slots) (q w : Nat) (E1 : xs (i + 1) = nI q) (E2 : xs (i + 2) = nI w) (hk : S.k ≤ 217) (hq : q < S.k) (hw : w < 4) (hFG : S.F (4 * q + w) = S.G (4 * q + w))
    (k : ∀ (W1 : Nat → Int64) (H1 : Heap) (locs1 : List Loc) (ls1 : Array Slot), lx_H D cI cZ cJ s a (s1_code S q w) (s1_code S q w) W1 H1 locs1 → lv_has ls1 7 [(4, .int (nI i)), (3, .ref (a 34)), (2, .ref (a 17)), (1, .ref (a 0)), (0, .ref b)] → W p l e room_1 s m args below meth c H1 locs1 (cells + 1) (slots + 6) Q (F0 m 704 ls1 [])) : W p l e room_1 s m args below meth c H locs cells slots Q (F0 m 231 ls []) := by
  obtain ⟨hP, hD, hS⟩ := X
  have hx := C.hx
  have hb := C.hb
  have hK := C.hK
  have hL := C.hL
  have hA : ∀ q : Nat, s.heap.size ≤ q → lx_A s q := fun _ h => h
  have hce0 : cells ≤ room_1.cells := Nat.le_of_succ_le hce
  have hsl0 : slots ≤ room_1.slots := Nat.le_trans (Nat.le_add_right _ _) hsl
  refine lv_aload_n hx hb d_La_law_231 rfl (lv_at hl 3 rfl) ?_
  refine lv_aload_n hx hb d_La_law_232 rfl (lv_at hl 4 rfl) ?_
  refine lv_iload hx hb d_La_law_233 (lv_at hl 0 rfl) ?_
  refine lv_iconst (v := 1) hx hb d_La_law_235 (by decide) ?_
  refine lv_iadd hx hb d_La_law_236 ?_
  have eq9 : ((nI i) + 1 : Int32) = nI (i + 1) := nI_add i 1
  refine W.eq (g2 := F0 m 237 ls [.int (nI (i + 1)), .ref b, .ref (a 0)]) (by rw [eq9]) ?_
  refine lx_ld (kx := i + 1) (v := nI q) C hS E1 (by omega) d_La_law_237 ?_
  refine lv_aload_n hx hb d_La_law_238 rfl (lv_at hl 4 rfl) ?_
  refine lv_iload hx hb d_La_law_239 (lv_at hl 0 rfl) ?_
  refine lv_iconst (v := 2) hx hb d_La_law_241 (by decide) ?_
  refine lv_iadd hx hb d_La_law_242 ?_
  have eq9 : ((nI i) + 2 : Int32) = nI (i + 2) := nI_add i 2
  refine W.eq (g2 := F0 m 243 ls [.int (nI (i + 2)), .ref b, .int (nI q), .ref (a 0)]) (by rw [eq9]) ?_
  refine lx_ld (kx := i + 2) (v := nI w) C hS E2 (by omega) d_La_law_243 ?_
  refine lv_aload_n hx hb d_La_law_244 rfl (lv_at hl 1 rfl) ?_
  refine xh_go (w2 := lx_W cI cZ cJ a (s1_code S q w) S (vp_updL W0 0 (S.F (4 * q + w)).toInt64)) (wr := lx_R cI cZ cJ a S) (xh_runS (g := F0 m 245 ls [.ref (a 34), .int (nI w), .int (nI q), .ref (a 0)]) (As := [.ref (a 0), .int (nI q), .int (nI w), .ref (a 34)]) (rest := []) ⟨C.hx, C.hb, C.hml, C.hown, C.hg⟩ (c_La_code l C.hLx D cI cZ cJ (a 0) (a 1) (a 2) (a 3) (a 4) (a 5) (a 6) (a 7) (a 8) (a 9) (a 10) (a 11) (a 12) (a 13) (a 14) (a 15) (a 16) S.P S.F S.B S.sr S.sd S.Rs S.Cs S.As S.Rt S.Ct S.At S.n S.k S.ks S.kt S.hs S.ds S.es S.xs S.ht S.dt S.et q w (a 34) W0 (hk) (hq) (hw) H.size) m_La_code q374 rfl rfl ⟨Nat.le_of_ble_eq_true rfl, Nat.le_of_ble_eq_true rfl⟩ ⟨xh_blind, xh_pre C.hK (lx_hT C.hT hS) C.hV hP hD [0, 1, 2, 3, 4, 5, 6, 7, 8, 9, 10, 11, 12, 13, 14, 15, 16, 34] (by decide) rfl⟩ rfl rfl hl.1 rfl (lv_room (Nat.le_of_ble_eq_true rfl)) d_La_law_245 ⟨hce0, hsl0⟩) hP hD hS hA [0, 1, 2, 3, 4, 5, 6, 7, 8, 9, 10, 11, 12, 13, 14, 15, 16, 34] [17, 18, 19, 20, 21, 22, 23, 24, 25, 26, 27, 28, 29, 30, 31, 32, 33] [17, 18, 19, 20, 21, 22, 23, 24, 25, 26, 27, 28, 29, 30, 31, 32, 33, 0, 1, 2, 3, 4, 5, 6, 7, 8, 9, 10, 11, 12, 13, 14, 15, 16, 34] rfl rfl (by decide) (by decide) rfl (by decide) (fun H locs hP hD hS => ?_)
  refine lv_istore hx hb d_La_law_248 hl (by decide) rfl (fun ls hl => ?_)
  have hl : lv_has ls 7 [(5, .int 0), (4, .int (nI i)), (3, .ref (a 34)), (2, .ref (a 17)), (1, .ref (a 0)), (0, .ref b)] := hl
  refine lv_aload_n hx hb d_La_law_250 rfl (lv_at hl 3 rfl) ?_
  refine lv_aload_n hx hb d_La_law_251 rfl (lv_at hl 5 rfl) ?_
  refine lv_iload hx hb d_La_law_252 (lv_at hl 1 rfl) ?_
  refine lv_iconst (v := 1) hx hb d_La_law_254 (by decide) ?_
  refine lv_iadd hx hb d_La_law_255 ?_
  have eq9 : ((nI i) + 1 : Int32) = nI (i + 1) := nI_add i 1
  refine W.eq (g2 := F0 m 256 ls [.int (nI (i + 1)), .ref b, .ref (a 17)]) (by rw [eq9]) ?_
  refine lx_ld (kx := i + 1) (v := nI q) C hS E1 (by omega) d_La_law_256 ?_
  refine lv_aload_n hx hb d_La_law_257 rfl (lv_at hl 5 rfl) ?_
  refine lv_iload hx hb d_La_law_258 (lv_at hl 1 rfl) ?_
  refine lv_iconst (v := 2) hx hb d_La_law_260 (by decide) ?_
  refine lv_iadd hx hb d_La_law_261 ?_
  have eq9 : ((nI i) + 2 : Int32) = nI (i + 2) := nI_add i 2
  refine W.eq (g2 := F0 m 262 ls [.int (nI (i + 2)), .ref b, .int (nI q), .ref (a 17)]) (by rw [eq9]) ?_
  refine lx_ld (kx := i + 2) (v := nI w) C hS E2 (by omega) d_La_law_262 ?_
  refine xi_go (w2 := lx_W cI cZ cJ a (s1_code S q w) (s1_code S q w) (vp_updL W0 0 (S.F (4 * q + w)).toInt64)) (wr := lx_X cI cZ cJ a (s1_code S q w) ++ [lx_w cJ a (vp_updL W0 0 (S.F (4 * q + w)).toInt64)]) (va_runV (As := [.int (nI q), .int (nI w)]) (rest := []) (C := R_Mo) ⟨C.hx, C.hb, C.hml, C.hown, C.hg⟩ (c_Mo_code l D cI cZ cJ (a 17) (a 18) (a 19) (a 20) (a 21) (a 22) (a 23) (a 24) (a 25) (a 26) (a 27) (a 28) (a 29) (a 30) (a 31) (a 32) (a 33) S.Po S.Pa S.Pb S.Pc S.G S.O S.Bm S.sr S.sd (tm_jn 8 S.Rs S.Rt) (tm_jn 64 S.Cs S.Ct) (tm_tw S.es S.et) (tm_tw S.hs S.ht) (tm_tw S.ds S.dt) (tm_tw (nI S.ks) (nI S.kt)) (tm_jn 120 S.As S.At) S.n S.k S.th S.tl S.nx q w (hk) (hq) (hw) H.size) ⟨xg_B C.hg m_Mo_code.1 m_Mo_code.2.2.1 m_Mo_code.2.2.2.1 m_Mo_code.2.2.2.2 q694 rfl rfl ⟨Nat.le_of_ble_eq_true rfl, Nat.le_of_ble_eq_true rfl⟩, C.hg _ m_Mo_code.2.1, C.hg _ q696⟩ ⟨xw_blind, (va_recv (q0 := 17) C.hK.1 hP rfl rfl), xw_pre C.hK hP hD [17, 18, 19, 20, 21, 22, 23, 24, 25, 26, 27, 28, 29, 30, 31, 32, 33] (by decide) rfl⟩ rfl rfl hl.1 rfl (lv_room (Nat.le_of_ble_eq_true rfl)) d_La_law_263 ⟨hce0, hsl0⟩) hP hD hS hA [17, 18, 19, 20, 21, 22, 23, 24, 25, 26, 27, 28, 29, 30, 31, 32, 33] [0, 1, 2, 3, 4, 5, 6, 7, 8, 9, 10, 11, 12, 13, 14, 15, 16, 34] [0, 1, 2, 3, 4, 5, 6, 7, 8, 9, 10, 11, 12, 13, 14, 15, 16, 18, 19, 20, 21, 22, 23, 24, 25, 26, 27, 28, 29, 30, 31, 32, 33, 34, 17] rfl rfl (by decide) (by decide) rfl (by decide) (fun H locs hP hD hS => ?_)
  refine lv_istore hx hb d_La_law_266 hl (by decide) rfl (fun ls hl => ?_)
  have hl : lv_has ls 7 [(6, .int (S.G (4 * q + w))), (5, .int 0), (4, .int (nI i)), (3, .ref (a 34)), (2, .ref (a 17)), (1, .ref (a 0)), (0, .ref b)] := hl
  refine lv_aload_n hx hb d_La_law_268 rfl (lv_at hl 4 rfl) ?_
  refine xr_V (C := R_Mo) (As := []) (rest := []) ⟨C.hx, C.hb, C.hml, C.hown, C.hg⟩ (c_Mo_thrown l D cI cZ cJ (a 17) (a 18) (a 19) (a 20) (a 21) (a 22) (a 23) (a 24) (a 25) (a 26) (a 27) (a 28) (a 29) (a 30) (a 31) (a 32) (a 33) ((s1_code S q w).Po) ((s1_code S q w).Pa) ((s1_code S q w).Pb) ((s1_code S q w).Pc) ((s1_code S q w).G) ((s1_code S q w).O) ((s1_code S q w).Bm) ((s1_code S q w).sr) ((s1_code S q w).sd) (tm_jn 8 ((s1_code S q w).Rs) ((s1_code S q w).Rt)) (tm_jn 64 ((s1_code S q w).Cs) ((s1_code S q w).Ct)) (tm_tw ((s1_code S q w).es) ((s1_code S q w).et)) (tm_tw ((s1_code S q w).hs) ((s1_code S q w).ht)) (tm_tw ((s1_code S q w).ds) ((s1_code S q w).dt)) (tm_tw (nI (s1_code S q w).ks) (nI (s1_code S q w).kt)) (tm_jn 120 ((s1_code S q w).As) ((s1_code S q w).At)) ((s1_code S q w).n) ((s1_code S q w).k) 0 ((s1_code S q w).tl) ((s1_code S q w).nx)) m_Mo_thrown q628 q630 ⟨rfl, rfl⟩ ⟨Nat.le_of_ble_eq_true rfl, Nat.le_of_ble_eq_true rfl⟩ C.hK hP [17, 18, 19, 20, 21, 22, 23, 24, 25, 26, 27, 28, 29, 30, 31, 32, 33] rfl (va_recv (q0 := 17) C.hK.1 hP rfl rfl) rfl hl.1 rfl (Nat.le_of_ble_eq_true rfl) d_La_law_269 ⟨hce0, hsl0⟩ ?_
  refine lv_iload hx hb d_La_law_272 (lv_at hl 1 rfl) ?_
  refine lv_icmp_eq (tgt := 279) hx hb d_La_law_274 rfl (fun _ => ?_) (fun hz9 => absurd (by decide) hz9)
  refine lv_iload hx hb d_La_law_279 (lv_at hl 1 rfl) ?_
  refine lv_if_ne (tgt := 296) hx hb d_La_law_281 rfl (fun hz9 => absurd (by decide) hz9) (fun _ => ?_)
  refine lv_aload_n hx hb d_La_law_284 rfl (lv_at hl 3 rfl) ?_
  refine lv_iconst (v := 0) hx hb d_La_law_285 (by decide) ?_
  refine xa_jd hx hb hK hP 34 2 rfl rfl (kx := 0) (rfl) (by decide) (by decide) d_La_law_286 ?_
  refine lv_iload hx hb d_La_law_287 (lv_at hl 0 rfl) ?_
  refine lv_i2l (v := (S.G (4 * q + w)).toInt64) hx hb d_La_law_289 rfl ?_
  refine lx_cmp C (hFG) d_La_law_290 ?_
  refine lv_if_eq (tgt := 296) hx hb d_La_law_291 rfl (fun _ => ?_) (fun hz9 => absurd (by decide) hz9)
  refine lv_goto (tgt := 704) hx hb d_La_law_296 rfl ?_
  exact W.widen (by omega) (by omega) (k _ H locs ls ⟨hP, hD, hS⟩ (lv_sub hl [2, 3, 4, 5, 6] rfl))

def s1_code_1 (S : lx_S) (y z : Int32) : lx_S := lx_mk S.P S.F S.B S.sr S.sd S.Rs S.Cs S.As S.Rt S.Ct S.At S.Po S.Pa S.Pb S.Pc S.G S.O S.Bm S.n S.k S.ks S.kt S.hs S.ds S.es S.xs S.ht S.dt S.et S.tl S.nx 1
set_option maxHeartbeats 4000000 in
set_option maxRecDepth 100000 in
theorem la_code_1 {p : Program} {l : Launch} {e : Env} {s : State} {m : MethodId} {args : Array Value} {below : List Frame} {meth : Method} {c : Code} {D : va_G} {cI cZ cJ : ClassId} {b L : Nat} {xs : Nat → Int32} {Q : State → Prop} (C : lx_C p l s m args c D cI cZ cJ b L xs) {a : Nat → Nat} {S : lx_S} {W0 : Nat → Int64} {H : Heap} {locs : List Loc} (X : lx_H D cI cZ cJ s a S S W0 H locs) {ls : Array Slot} {i : Nat} (hi : i + 5 ≤ L) (hl : lv_has ls 7 [(4, .int (nI i)), (3, .ref (a 34)), (2, .ref (a 17)), (1, .ref (a 0)), (0, .ref b)]) {cells slots : Nat} (hce : cells + 1 ≤ room_1.cells) (hsl : slots + 6 ≤ room_1.slots) (y z : Int32) (E1 : xs (i + 1) = y) (E2 : xs (i + 2) = z) (hbad : tm_wi z 0 3 = 0)
    (k : ∀ (W1 : Nat → Int64) (H1 : Heap) (locs1 : List Loc) (ls1 : Array Slot), lx_H D cI cZ cJ s a (s1_code_1 S y z) (s1_code_1 S y z) W1 H1 locs1 → lv_has ls1 7 [(4, .int (nI i)), (3, .ref (a 34)), (2, .ref (a 17)), (1, .ref (a 0)), (0, .ref b)] → W p l e room_1 s m args below meth c H1 locs1 (cells + 1) (slots + 6) Q (F0 m 704 ls1 [])) : W p l e room_1 s m args below meth c H locs cells slots Q (F0 m 231 ls []) := by
  obtain ⟨hP, hD, hS⟩ := X
  have hx := C.hx
  have hb := C.hb
  have hK := C.hK
  have hL := C.hL
  have hA : ∀ q : Nat, s.heap.size ≤ q → lx_A s q := fun _ h => h
  have hce0 : cells ≤ room_1.cells := Nat.le_of_succ_le hce
  have hsl0 : slots ≤ room_1.slots := Nat.le_trans (Nat.le_add_right _ _) hsl
  refine lv_aload_n hx hb d_La_law_231 rfl (lv_at hl 3 rfl) ?_
  refine lv_aload_n hx hb d_La_law_232 rfl (lv_at hl 4 rfl) ?_
  refine lv_iload hx hb d_La_law_233 (lv_at hl 0 rfl) ?_
  refine lv_iconst (v := 1) hx hb d_La_law_235 (by decide) ?_
  refine lv_iadd hx hb d_La_law_236 ?_
  have eq9 : ((nI i) + 1 : Int32) = nI (i + 1) := nI_add i 1
  refine W.eq (g2 := F0 m 237 ls [.int (nI (i + 1)), .ref b, .ref (a 0)]) (by rw [eq9]) ?_
  refine lx_ld (kx := i + 1) (v := y) C hS E1 (by omega) d_La_law_237 ?_
  refine lv_aload_n hx hb d_La_law_238 rfl (lv_at hl 4 rfl) ?_
  refine lv_iload hx hb d_La_law_239 (lv_at hl 0 rfl) ?_
  refine lv_iconst (v := 2) hx hb d_La_law_241 (by decide) ?_
  refine lv_iadd hx hb d_La_law_242 ?_
  have eq9 : ((nI i) + 2 : Int32) = nI (i + 2) := nI_add i 2
  refine W.eq (g2 := F0 m 243 ls [.int (nI (i + 2)), .ref b, .int y, .ref (a 0)]) (by rw [eq9]) ?_
  refine lx_ld (kx := i + 2) (v := z) C hS E2 (by omega) d_La_law_243 ?_
  refine lv_aload_n hx hb d_La_law_244 rfl (lv_at hl 1 rfl) ?_
  refine xh_go (w2 := lx_W cI cZ cJ a (s1_code_1 S y z) S W0) (wr := lx_R cI cZ cJ a S) (xh_runS (g := F0 m 245 ls [.ref (a 34), .int z, .int y, .ref (a 0)]) (As := [.ref (a 0), .int y, .int z, .ref (a 34)]) (rest := []) ⟨C.hx, C.hb, C.hml, C.hown, C.hg⟩ (c_La_code_1 l C.hLx D cI cZ cJ (a 0) (a 1) (a 2) (a 3) (a 4) (a 5) (a 6) (a 7) (a 8) (a 9) (a 10) (a 11) (a 12) (a 13) (a 14) (a 15) (a 16) S.P S.F S.B S.sr S.sd S.Rs S.Cs S.As S.Rt S.Ct S.At S.n S.k S.ks S.kt S.hs S.ds S.es S.xs S.ht S.dt S.et y z (a 34) W0 (hbad) H.size) m_La_code q374 rfl rfl ⟨Nat.le_of_ble_eq_true rfl, Nat.le_of_ble_eq_true rfl⟩ ⟨xh_blind, xh_pre C.hK (lx_hT C.hT hS) C.hV hP hD [0, 1, 2, 3, 4, 5, 6, 7, 8, 9, 10, 11, 12, 13, 14, 15, 16, 34] (by decide) rfl⟩ rfl rfl hl.1 rfl (lv_room (Nat.le_of_ble_eq_true rfl)) d_La_law_245 ⟨hce, hsl⟩) hP hD hS hA [0, 1, 2, 3, 4, 5, 6, 7, 8, 9, 10, 11, 12, 13, 14, 15, 16, 34] [17, 18, 19, 20, 21, 22, 23, 24, 25, 26, 27, 28, 29, 30, 31, 32, 33] [17, 18, 19, 20, 21, 22, 23, 24, 25, 26, 27, 28, 29, 30, 31, 32, 33, 0, 1, 2, 3, 4, 5, 6, 7, 8, 9, 10, 11, 12, 13, 14, 15, 16, 34] rfl rfl (by decide) (by decide) rfl (by decide) (fun H locs hP hD hS => ?_)
  refine lv_istore hx hb d_La_law_248 hl (by decide) rfl (fun ls hl => ?_)
  have hl : lv_has ls 7 [(5, .int 1), (4, .int (nI i)), (3, .ref (a 34)), (2, .ref (a 17)), (1, .ref (a 0)), (0, .ref b)] := hl
  refine lv_aload_n hx hb d_La_law_250 rfl (lv_at hl 3 rfl) ?_
  refine lv_aload_n hx hb d_La_law_251 rfl (lv_at hl 5 rfl) ?_
  refine lv_iload hx hb d_La_law_252 (lv_at hl 1 rfl) ?_
  refine lv_iconst (v := 1) hx hb d_La_law_254 (by decide) ?_
  refine lv_iadd hx hb d_La_law_255 ?_
  have eq9 : ((nI i) + 1 : Int32) = nI (i + 1) := nI_add i 1
  refine W.eq (g2 := F0 m 256 ls [.int (nI (i + 1)), .ref b, .ref (a 17)]) (by rw [eq9]) ?_
  refine lx_ld (kx := i + 1) (v := y) C hS E1 (by omega) d_La_law_256 ?_
  refine lv_aload_n hx hb d_La_law_257 rfl (lv_at hl 5 rfl) ?_
  refine lv_iload hx hb d_La_law_258 (lv_at hl 1 rfl) ?_
  refine lv_iconst (v := 2) hx hb d_La_law_260 (by decide) ?_
  refine lv_iadd hx hb d_La_law_261 ?_
  have eq9 : ((nI i) + 2 : Int32) = nI (i + 2) := nI_add i 2
  refine W.eq (g2 := F0 m 262 ls [.int (nI (i + 2)), .ref b, .int y, .ref (a 17)]) (by rw [eq9]) ?_
  refine lx_ld (kx := i + 2) (v := z) C hS E2 (by omega) d_La_law_262 ?_
  refine xi_go (w2 := lx_W cI cZ cJ a (s1_code_1 S y z) (s1_code_1 S y z) W0) (wr := lx_X cI cZ cJ a (s1_code_1 S y z) ++ [lx_w cJ a W0]) (va_runV (As := [.int y, .int z]) (rest := []) (C := R_Mo) ⟨C.hx, C.hb, C.hml, C.hown, C.hg⟩ (c_Mo_code_1 l D cI cZ cJ (a 17) (a 18) (a 19) (a 20) (a 21) (a 22) (a 23) (a 24) (a 25) (a 26) (a 27) (a 28) (a 29) (a 30) (a 31) (a 32) (a 33) S.Po S.Pa S.Pb S.Pc S.G S.O S.Bm S.sr S.sd (tm_jn 8 S.Rs S.Rt) (tm_jn 64 S.Cs S.Ct) (tm_tw S.es S.et) (tm_tw S.hs S.ht) (tm_tw S.ds S.dt) (tm_tw (nI S.ks) (nI S.kt)) (tm_jn 120 S.As S.At) S.n S.k S.th S.tl S.nx y z (hbad) H.size) ⟨xg_B C.hg m_Mo_code.1 m_Mo_code.2.2.1 m_Mo_code.2.2.2.1 m_Mo_code.2.2.2.2 q694 rfl rfl ⟨Nat.le_of_ble_eq_true rfl, Nat.le_of_ble_eq_true rfl⟩, C.hg _ m_Mo_code.2.1, C.hg _ q696⟩ ⟨xw_blind, (va_recv (q0 := 17) C.hK.1 hP rfl rfl), xw_pre C.hK hP hD [17, 18, 19, 20, 21, 22, 23, 24, 25, 26, 27, 28, 29, 30, 31, 32, 33] (by decide) rfl⟩ rfl rfl hl.1 rfl (lv_room (Nat.le_of_ble_eq_true rfl)) d_La_law_263 ⟨hce, hsl⟩) hP hD hS hA [17, 18, 19, 20, 21, 22, 23, 24, 25, 26, 27, 28, 29, 30, 31, 32, 33] [0, 1, 2, 3, 4, 5, 6, 7, 8, 9, 10, 11, 12, 13, 14, 15, 16, 34] [0, 1, 2, 3, 4, 5, 6, 7, 8, 9, 10, 11, 12, 13, 14, 15, 16, 18, 19, 20, 21, 22, 23, 24, 25, 26, 27, 28, 29, 30, 31, 32, 33, 34, 17] rfl rfl (by decide) (by decide) rfl (by decide) (fun H locs hP hD hS => ?_)
  refine lv_istore hx hb d_La_law_266 hl (by decide) rfl (fun ls hl => ?_)
  have hl : lv_has ls 7 [(6, .int 0), (5, .int 1), (4, .int (nI i)), (3, .ref (a 34)), (2, .ref (a 17)), (1, .ref (a 0)), (0, .ref b)] := hl
  refine lv_aload_n hx hb d_La_law_268 rfl (lv_at hl 4 rfl) ?_
  refine xr_V (C := R_Mo) (As := []) (rest := []) ⟨C.hx, C.hb, C.hml, C.hown, C.hg⟩ (c_Mo_thrown l D cI cZ cJ (a 17) (a 18) (a 19) (a 20) (a 21) (a 22) (a 23) (a 24) (a 25) (a 26) (a 27) (a 28) (a 29) (a 30) (a 31) (a 32) (a 33) ((s1_code_1 S y z).Po) ((s1_code_1 S y z).Pa) ((s1_code_1 S y z).Pb) ((s1_code_1 S y z).Pc) ((s1_code_1 S y z).G) ((s1_code_1 S y z).O) ((s1_code_1 S y z).Bm) ((s1_code_1 S y z).sr) ((s1_code_1 S y z).sd) (tm_jn 8 ((s1_code_1 S y z).Rs) ((s1_code_1 S y z).Rt)) (tm_jn 64 ((s1_code_1 S y z).Cs) ((s1_code_1 S y z).Ct)) (tm_tw ((s1_code_1 S y z).es) ((s1_code_1 S y z).et)) (tm_tw ((s1_code_1 S y z).hs) ((s1_code_1 S y z).ht)) (tm_tw ((s1_code_1 S y z).ds) ((s1_code_1 S y z).dt)) (tm_tw (nI (s1_code_1 S y z).ks) (nI (s1_code_1 S y z).kt)) (tm_jn 120 ((s1_code_1 S y z).As) ((s1_code_1 S y z).At)) ((s1_code_1 S y z).n) ((s1_code_1 S y z).k) 1 ((s1_code_1 S y z).tl) ((s1_code_1 S y z).nx)) m_Mo_thrown q628 q630 ⟨rfl, rfl⟩ ⟨Nat.le_of_ble_eq_true rfl, Nat.le_of_ble_eq_true rfl⟩ C.hK hP [17, 18, 19, 20, 21, 22, 23, 24, 25, 26, 27, 28, 29, 30, 31, 32, 33] rfl (va_recv (q0 := 17) C.hK.1 hP rfl rfl) rfl hl.1 rfl (Nat.le_of_ble_eq_true rfl) d_La_law_269 ⟨hce, hsl⟩ ?_
  refine lv_iload hx hb d_La_law_272 (lv_at hl 1 rfl) ?_
  refine lv_icmp_eq (tgt := 279) hx hb d_La_law_274 rfl (fun _ => ?_) (fun hz9 => absurd (by decide) hz9)
  refine lv_iload hx hb d_La_law_279 (lv_at hl 1 rfl) ?_
  refine lv_if_ne (tgt := 296) hx hb d_La_law_281 rfl (fun _ => ?_) (fun hz9 => absurd hz9 (by decide))
  refine lv_goto (tgt := 704) hx hb d_La_law_296 rfl ?_
  exact W.widen (by omega) (by omega) (k _ H locs ls ⟨hP, hD, hS⟩ (lv_sub hl [2, 3, 4, 5, 6] rfl))

def s1_code_2 (S : lx_S) (y z : Int32) : lx_S := lx_mk S.P S.F S.B S.sr S.sd S.Rs S.Cs S.As S.Rt S.Ct S.At S.Po S.Pa S.Pb S.Pc S.G S.O S.Bm S.n S.k S.ks S.kt S.hs S.ds S.es S.xs S.ht S.dt S.et S.tl S.nx 2
set_option maxHeartbeats 4000000 in
set_option maxRecDepth 100000 in
theorem la_code_2 {p : Program} {l : Launch} {e : Env} {s : State} {m : MethodId} {args : Array Value} {below : List Frame} {meth : Method} {c : Code} {D : va_G} {cI cZ cJ : ClassId} {b L : Nat} {xs : Nat → Int32} {Q : State → Prop} (C : lx_C p l s m args c D cI cZ cJ b L xs) {a : Nat → Nat} {S : lx_S} {W0 : Nat → Int64} {H : Heap} {locs : List Loc} (X : lx_H D cI cZ cJ s a S S W0 H locs) {ls : Array Slot} {i : Nat} (hi : i + 5 ≤ L) (hl : lv_has ls 7 [(4, .int (nI i)), (3, .ref (a 34)), (2, .ref (a 17)), (1, .ref (a 0)), (0, .ref b)]) {cells slots : Nat} (hce : cells + 1 ≤ room_1.cells) (hsl : slots + 6 ≤ room_1.slots) (y z : Int32) (E1 : xs (i + 1) = y) (E2 : xs (i + 2) = z) (g1 : ¬ tm_wi z 0 3 = 0) (g2 : tm_hs S.k y = 0) (g3 : tm_wi y 0 (nI S.k - 1) = 0)
    (k : ∀ (W1 : Nat → Int64) (H1 : Heap) (locs1 : List Loc) (ls1 : Array Slot), lx_H D cI cZ cJ s a (s1_code_2 S y z) (s1_code_2 S y z) W1 H1 locs1 → lv_has ls1 7 [(4, .int (nI i)), (3, .ref (a 34)), (2, .ref (a 17)), (1, .ref (a 0)), (0, .ref b)] → W p l e room_1 s m args below meth c H1 locs1 (cells + 1) (slots + 6) Q (F0 m 704 ls1 [])) : W p l e room_1 s m args below meth c H locs cells slots Q (F0 m 231 ls []) := by
  obtain ⟨hP, hD, hS⟩ := X
  have hx := C.hx
  have hb := C.hb
  have hK := C.hK
  have hL := C.hL
  have hA : ∀ q : Nat, s.heap.size ≤ q → lx_A s q := fun _ h => h
  have hce0 : cells ≤ room_1.cells := Nat.le_of_succ_le hce
  have hsl0 : slots ≤ room_1.slots := Nat.le_trans (Nat.le_add_right _ _) hsl
  refine lv_aload_n hx hb d_La_law_231 rfl (lv_at hl 3 rfl) ?_
  refine lv_aload_n hx hb d_La_law_232 rfl (lv_at hl 4 rfl) ?_
  refine lv_iload hx hb d_La_law_233 (lv_at hl 0 rfl) ?_
  refine lv_iconst (v := 1) hx hb d_La_law_235 (by decide) ?_
  refine lv_iadd hx hb d_La_law_236 ?_
  have eq9 : ((nI i) + 1 : Int32) = nI (i + 1) := nI_add i 1
  refine W.eq (g2 := F0 m 237 ls [.int (nI (i + 1)), .ref b, .ref (a 0)]) (by rw [eq9]) ?_
  refine lx_ld (kx := i + 1) (v := y) C hS E1 (by omega) d_La_law_237 ?_
  refine lv_aload_n hx hb d_La_law_238 rfl (lv_at hl 4 rfl) ?_
  refine lv_iload hx hb d_La_law_239 (lv_at hl 0 rfl) ?_
  refine lv_iconst (v := 2) hx hb d_La_law_241 (by decide) ?_
  refine lv_iadd hx hb d_La_law_242 ?_
  have eq9 : ((nI i) + 2 : Int32) = nI (i + 2) := nI_add i 2
  refine W.eq (g2 := F0 m 243 ls [.int (nI (i + 2)), .ref b, .int y, .ref (a 0)]) (by rw [eq9]) ?_
  refine lx_ld (kx := i + 2) (v := z) C hS E2 (by omega) d_La_law_243 ?_
  refine lv_aload_n hx hb d_La_law_244 rfl (lv_at hl 1 rfl) ?_
  refine xh_go (w2 := lx_W cI cZ cJ a (s1_code_2 S y z) S W0) (wr := lx_R cI cZ cJ a S) (xh_runS (g := F0 m 245 ls [.ref (a 34), .int z, .int y, .ref (a 0)]) (As := [.ref (a 0), .int y, .int z, .ref (a 34)]) (rest := []) ⟨C.hx, C.hb, C.hml, C.hown, C.hg⟩ (c_La_code_2 l C.hLx D cI cZ cJ (a 0) (a 1) (a 2) (a 3) (a 4) (a 5) (a 6) (a 7) (a 8) (a 9) (a 10) (a 11) (a 12) (a 13) (a 14) (a 15) (a 16) S.P S.F S.B S.sr S.sd S.Rs S.Cs S.As S.Rt S.Ct S.At S.n S.k S.ks S.kt S.hs S.ds S.es S.xs S.ht S.dt S.et y z (a 34) W0 (g1) (g2) H.size) m_La_code q374 rfl rfl ⟨Nat.le_of_ble_eq_true rfl, Nat.le_of_ble_eq_true rfl⟩ ⟨xh_blind, xh_pre C.hK (lx_hT C.hT hS) C.hV hP hD [0, 1, 2, 3, 4, 5, 6, 7, 8, 9, 10, 11, 12, 13, 14, 15, 16, 34] (by decide) rfl⟩ rfl rfl hl.1 rfl (lv_room (Nat.le_of_ble_eq_true rfl)) d_La_law_245 ⟨hce, hsl⟩) hP hD hS hA [0, 1, 2, 3, 4, 5, 6, 7, 8, 9, 10, 11, 12, 13, 14, 15, 16, 34] [17, 18, 19, 20, 21, 22, 23, 24, 25, 26, 27, 28, 29, 30, 31, 32, 33] [17, 18, 19, 20, 21, 22, 23, 24, 25, 26, 27, 28, 29, 30, 31, 32, 33, 0, 1, 2, 3, 4, 5, 6, 7, 8, 9, 10, 11, 12, 13, 14, 15, 16, 34] rfl rfl (by decide) (by decide) rfl (by decide) (fun H locs hP hD hS => ?_)
  refine lv_istore hx hb d_La_law_248 hl (by decide) rfl (fun ls hl => ?_)
  have hl : lv_has ls 7 [(5, .int 2), (4, .int (nI i)), (3, .ref (a 34)), (2, .ref (a 17)), (1, .ref (a 0)), (0, .ref b)] := hl
  refine lv_aload_n hx hb d_La_law_250 rfl (lv_at hl 3 rfl) ?_
  refine lv_aload_n hx hb d_La_law_251 rfl (lv_at hl 5 rfl) ?_
  refine lv_iload hx hb d_La_law_252 (lv_at hl 1 rfl) ?_
  refine lv_iconst (v := 1) hx hb d_La_law_254 (by decide) ?_
  refine lv_iadd hx hb d_La_law_255 ?_
  have eq9 : ((nI i) + 1 : Int32) = nI (i + 1) := nI_add i 1
  refine W.eq (g2 := F0 m 256 ls [.int (nI (i + 1)), .ref b, .ref (a 17)]) (by rw [eq9]) ?_
  refine lx_ld (kx := i + 1) (v := y) C hS E1 (by omega) d_La_law_256 ?_
  refine lv_aload_n hx hb d_La_law_257 rfl (lv_at hl 5 rfl) ?_
  refine lv_iload hx hb d_La_law_258 (lv_at hl 1 rfl) ?_
  refine lv_iconst (v := 2) hx hb d_La_law_260 (by decide) ?_
  refine lv_iadd hx hb d_La_law_261 ?_
  have eq9 : ((nI i) + 2 : Int32) = nI (i + 2) := nI_add i 2
  refine W.eq (g2 := F0 m 262 ls [.int (nI (i + 2)), .ref b, .int y, .ref (a 17)]) (by rw [eq9]) ?_
  refine lx_ld (kx := i + 2) (v := z) C hS E2 (by omega) d_La_law_262 ?_
  refine xi_go (w2 := lx_W cI cZ cJ a (s1_code_2 S y z) (s1_code_2 S y z) W0) (wr := lx_X cI cZ cJ a (s1_code_2 S y z) ++ [lx_w cJ a W0]) (va_runV (As := [.int y, .int z]) (rest := []) (C := R_Mo) ⟨C.hx, C.hb, C.hml, C.hown, C.hg⟩ (c_Mo_code_2 l D cI cZ cJ (a 17) (a 18) (a 19) (a 20) (a 21) (a 22) (a 23) (a 24) (a 25) (a 26) (a 27) (a 28) (a 29) (a 30) (a 31) (a 32) (a 33) S.Po S.Pa S.Pb S.Pc S.G S.O S.Bm S.sr S.sd (tm_jn 8 S.Rs S.Rt) (tm_jn 64 S.Cs S.Ct) (tm_tw S.es S.et) (tm_tw S.hs S.ht) (tm_tw S.ds S.dt) (tm_tw (nI S.ks) (nI S.kt)) (tm_jn 120 S.As S.At) S.n S.k S.th S.tl S.nx y z (g1) (g3) H.size) ⟨xg_B C.hg m_Mo_code.1 m_Mo_code.2.2.1 m_Mo_code.2.2.2.1 m_Mo_code.2.2.2.2 q694 rfl rfl ⟨Nat.le_of_ble_eq_true rfl, Nat.le_of_ble_eq_true rfl⟩, C.hg _ m_Mo_code.2.1, C.hg _ q696⟩ ⟨xw_blind, (va_recv (q0 := 17) C.hK.1 hP rfl rfl), xw_pre C.hK hP hD [17, 18, 19, 20, 21, 22, 23, 24, 25, 26, 27, 28, 29, 30, 31, 32, 33] (by decide) rfl⟩ rfl rfl hl.1 rfl (lv_room (Nat.le_of_ble_eq_true rfl)) d_La_law_263 ⟨hce, hsl⟩) hP hD hS hA [17, 18, 19, 20, 21, 22, 23, 24, 25, 26, 27, 28, 29, 30, 31, 32, 33] [0, 1, 2, 3, 4, 5, 6, 7, 8, 9, 10, 11, 12, 13, 14, 15, 16, 34] [0, 1, 2, 3, 4, 5, 6, 7, 8, 9, 10, 11, 12, 13, 14, 15, 16, 18, 19, 20, 21, 22, 23, 24, 25, 26, 27, 28, 29, 30, 31, 32, 33, 34, 17] rfl rfl (by decide) (by decide) rfl (by decide) (fun H locs hP hD hS => ?_)
  refine lv_istore hx hb d_La_law_266 hl (by decide) rfl (fun ls hl => ?_)
  have hl : lv_has ls 7 [(6, .int 0), (5, .int 2), (4, .int (nI i)), (3, .ref (a 34)), (2, .ref (a 17)), (1, .ref (a 0)), (0, .ref b)] := hl
  refine lv_aload_n hx hb d_La_law_268 rfl (lv_at hl 4 rfl) ?_
  refine xr_V (C := R_Mo) (As := []) (rest := []) ⟨C.hx, C.hb, C.hml, C.hown, C.hg⟩ (c_Mo_thrown l D cI cZ cJ (a 17) (a 18) (a 19) (a 20) (a 21) (a 22) (a 23) (a 24) (a 25) (a 26) (a 27) (a 28) (a 29) (a 30) (a 31) (a 32) (a 33) ((s1_code_2 S y z).Po) ((s1_code_2 S y z).Pa) ((s1_code_2 S y z).Pb) ((s1_code_2 S y z).Pc) ((s1_code_2 S y z).G) ((s1_code_2 S y z).O) ((s1_code_2 S y z).Bm) ((s1_code_2 S y z).sr) ((s1_code_2 S y z).sd) (tm_jn 8 ((s1_code_2 S y z).Rs) ((s1_code_2 S y z).Rt)) (tm_jn 64 ((s1_code_2 S y z).Cs) ((s1_code_2 S y z).Ct)) (tm_tw ((s1_code_2 S y z).es) ((s1_code_2 S y z).et)) (tm_tw ((s1_code_2 S y z).hs) ((s1_code_2 S y z).ht)) (tm_tw ((s1_code_2 S y z).ds) ((s1_code_2 S y z).dt)) (tm_tw (nI (s1_code_2 S y z).ks) (nI (s1_code_2 S y z).kt)) (tm_jn 120 ((s1_code_2 S y z).As) ((s1_code_2 S y z).At)) ((s1_code_2 S y z).n) ((s1_code_2 S y z).k) 2 ((s1_code_2 S y z).tl) ((s1_code_2 S y z).nx)) m_Mo_thrown q628 q630 ⟨rfl, rfl⟩ ⟨Nat.le_of_ble_eq_true rfl, Nat.le_of_ble_eq_true rfl⟩ C.hK hP [17, 18, 19, 20, 21, 22, 23, 24, 25, 26, 27, 28, 29, 30, 31, 32, 33] rfl (va_recv (q0 := 17) C.hK.1 hP rfl rfl) rfl hl.1 rfl (Nat.le_of_ble_eq_true rfl) d_La_law_269 ⟨hce, hsl⟩ ?_
  refine lv_iload hx hb d_La_law_272 (lv_at hl 1 rfl) ?_
  refine lv_icmp_eq (tgt := 279) hx hb d_La_law_274 rfl (fun _ => ?_) (fun hz9 => absurd (by decide) hz9)
  refine lv_iload hx hb d_La_law_279 (lv_at hl 1 rfl) ?_
  refine lv_if_ne (tgt := 296) hx hb d_La_law_281 rfl (fun _ => ?_) (fun hz9 => absurd hz9 (by decide))
  refine lv_goto (tgt := 704) hx hb d_La_law_296 rfl ?_
  exact W.widen (by omega) (by omega) (k _ H locs ls ⟨hP, hD, hS⟩ (lv_sub hl [2, 3, 4, 5, 6] rfl))

def s1_begins (S : lx_S) (q : Nat) : lx_S := lx_mk S.P S.F S.B S.sr S.sd S.Rs S.Cs S.As S.Rt S.Ct S.At S.Po S.Pa S.Pb S.Pc S.G S.O S.Bm S.n S.k S.ks S.kt S.hs S.ds S.es S.xs S.ht S.dt S.et S.tl S.nx 0
set_option maxHeartbeats 4000000 in
set_option maxRecDepth 100000 in
theorem la_begins {p : Program} {l : Launch} {e : Env} {s : State} {m : MethodId} {args : Array Value} {below : List Frame} {meth : Method} {c : Code} {D : va_G} {cI cZ cJ : ClassId} {b L : Nat} {xs : Nat → Int32} {Q : State → Prop} (C : lx_C p l s m args c D cI cZ cJ b L xs) {a : Nat → Nat} {S : lx_S} {W0 : Nat → Int64} {H : Heap} {locs : List Loc} (X : lx_H D cI cZ cJ s a S S W0 H locs) {ls : Array Slot} {i : Nat} (hi : i + 5 ≤ L) (hl : lv_has ls 7 [(4, .int (nI i)), (3, .ref (a 34)), (2, .ref (a 17)), (1, .ref (a 0)), (0, .ref b)]) {cells slots : Nat} (hce : cells + 1 ≤ room_1.cells) (hsl : slots + 6 ≤ room_1.slots) (q : Nat) (E1 : xs (i + 1) = nI q) (hk : S.k ≤ 217) (hk0 : 0 < S.k) (hn : S.n ≤ 24) (hq : q ≤ S.n) (htl : ¬ S.tl = 0) (hB : S.B q = S.Bm q)
    (k : ∀ (W1 : Nat → Int64) (H1 : Heap) (locs1 : List Loc) (ls1 : Array Slot), lx_H D cI cZ cJ s a (s1_begins S q) (s1_begins S q) W1 H1 locs1 → lv_has ls1 7 [(4, .int (nI i)), (3, .ref (a 34)), (2, .ref (a 17)), (1, .ref (a 0)), (0, .ref b)] → W p l e room_1 s m args below meth c H1 locs1 (cells + 1) (slots + 6) Q (F0 m 704 ls1 [])) : W p l e room_1 s m args below meth c H locs cells slots Q (F0 m 299 ls []) := by
  obtain ⟨hP, hD, hS⟩ := X
  have hx := C.hx
  have hb := C.hb
  have hK := C.hK
  have hL := C.hL
  have hA : ∀ q : Nat, s.heap.size ≤ q → lx_A s q := fun _ h => h
  have hce0 : cells ≤ room_1.cells := Nat.le_of_succ_le hce
  have hsl0 : slots ≤ room_1.slots := Nat.le_trans (Nat.le_add_right _ _) hsl
  refine lv_aload_n hx hb d_La_law_299 rfl (lv_at hl 3 rfl) ?_
  refine lv_aload_n hx hb d_La_law_300 rfl (lv_at hl 4 rfl) ?_
  refine lv_iload hx hb d_La_law_301 (lv_at hl 0 rfl) ?_
  refine lv_iconst (v := 1) hx hb d_La_law_303 (by decide) ?_
  refine lv_iadd hx hb d_La_law_304 ?_
  have eq9 : ((nI i) + 1 : Int32) = nI (i + 1) := nI_add i 1
  refine W.eq (g2 := F0 m 305 ls [.int (nI (i + 1)), .ref b, .ref (a 0)]) (by rw [eq9]) ?_
  refine lx_ld (kx := i + 1) (v := nI q) C hS E1 (by omega) d_La_law_305 ?_
  refine lv_aload_n hx hb d_La_law_306 rfl (lv_at hl 1 rfl) ?_
  refine xh_go (w2 := lx_W cI cZ cJ a (s1_begins S q) S (vp_updL W0 0 (S.B q).toInt64)) (wr := lx_R cI cZ cJ a S) (xh_runS (g := F0 m 307 ls [.ref (a 34), .int (nI q), .ref (a 0)]) (As := [.ref (a 0), .int (nI q), .ref (a 34)]) (rest := []) ⟨C.hx, C.hb, C.hml, C.hown, C.hg⟩ (c_La_begins l C.hLx D cI cZ cJ (a 0) (a 1) (a 2) (a 3) (a 4) (a 5) (a 6) (a 7) (a 8) (a 9) (a 10) (a 11) (a 12) (a 13) (a 14) (a 15) (a 16) S.P S.F S.B S.sr S.sd S.Rs S.Cs S.As S.Rt S.Ct S.At S.n S.k S.ks S.kt S.hs S.ds S.es S.xs S.ht S.dt S.et q (a 34) W0 (hk) (hk0) (hn) (hq) H.size) m_La_begins q399 rfl rfl ⟨Nat.le_of_ble_eq_true rfl, Nat.le_of_ble_eq_true rfl⟩ ⟨xh_blind, xh_pre C.hK (lx_hT C.hT hS) C.hV hP hD [0, 1, 2, 3, 4, 5, 6, 7, 8, 9, 10, 11, 12, 13, 14, 15, 16, 34] (by decide) rfl⟩ rfl rfl hl.1 rfl (lv_room (Nat.le_of_ble_eq_true rfl)) d_La_law_307 ⟨hce0, hsl0⟩) hP hD hS hA [0, 1, 2, 3, 4, 5, 6, 7, 8, 9, 10, 11, 12, 13, 14, 15, 16, 34] [17, 18, 19, 20, 21, 22, 23, 24, 25, 26, 27, 28, 29, 30, 31, 32, 33] [17, 18, 19, 20, 21, 22, 23, 24, 25, 26, 27, 28, 29, 30, 31, 32, 33, 0, 1, 2, 3, 4, 5, 6, 7, 8, 9, 10, 11, 12, 13, 14, 15, 16, 34] rfl rfl (by decide) (by decide) rfl (by decide) (fun H locs hP hD hS => ?_)
  refine lv_istore hx hb d_La_law_310 hl (by decide) rfl (fun ls hl => ?_)
  have hl : lv_has ls 7 [(5, .int 0), (4, .int (nI i)), (3, .ref (a 34)), (2, .ref (a 17)), (1, .ref (a 0)), (0, .ref b)] := hl
  refine lv_aload_n hx hb d_La_law_312 rfl (lv_at hl 3 rfl) ?_
  refine lv_aload_n hx hb d_La_law_313 rfl (lv_at hl 5 rfl) ?_
  refine lv_iload hx hb d_La_law_314 (lv_at hl 1 rfl) ?_
  refine lv_iconst (v := 1) hx hb d_La_law_316 (by decide) ?_
  refine lv_iadd hx hb d_La_law_317 ?_
  have eq9 : ((nI i) + 1 : Int32) = nI (i + 1) := nI_add i 1
  refine W.eq (g2 := F0 m 318 ls [.int (nI (i + 1)), .ref b, .ref (a 17)]) (by rw [eq9]) ?_
  refine lx_ld (kx := i + 1) (v := nI q) C hS E1 (by omega) d_La_law_318 ?_
  refine xi_go (w2 := lx_W cI cZ cJ a (s1_begins S q) (s1_begins S q) (vp_updL W0 0 (S.B q).toInt64)) (wr := lx_X cI cZ cJ a (s1_begins S q) ++ [lx_w cJ a (vp_updL W0 0 (S.B q).toInt64)]) (va_runV (As := [.int (nI q)]) (rest := []) (C := R_Mo) ⟨C.hx, C.hb, C.hml, C.hown, C.hg⟩ (c_Mo_begins l D cI cZ cJ (a 17) (a 18) (a 19) (a 20) (a 21) (a 22) (a 23) (a 24) (a 25) (a 26) (a 27) (a 28) (a 29) (a 30) (a 31) (a 32) (a 33) S.Po S.Pa S.Pb S.Pc S.G S.O S.Bm S.sr S.sd (tm_jn 8 S.Rs S.Rt) (tm_jn 64 S.Cs S.Ct) (tm_tw S.es S.et) (tm_tw S.hs S.ht) (tm_tw S.ds S.dt) (tm_tw (nI S.ks) (nI S.kt)) (tm_jn 120 S.As S.At) S.n S.k S.th S.tl S.nx q (hn) (hq) (htl) H.size) ⟨xg_B C.hg m_Mo_begins.1 m_Mo_begins.2.2.1 m_Mo_begins.2.2.2.1 m_Mo_begins.2.2.2.2 q698 rfl rfl ⟨Nat.le_of_ble_eq_true rfl, Nat.le_of_ble_eq_true rfl⟩, C.hg _ m_Mo_begins.2.1, C.hg _ q700⟩ ⟨xw_blind, (va_recv (q0 := 17) C.hK.1 hP rfl rfl), xw_pre C.hK hP hD [17, 18, 19, 20, 21, 22, 23, 24, 25, 26, 27, 28, 29, 30, 31, 32, 33] (by decide) rfl⟩ rfl rfl hl.1 rfl (lv_room (Nat.le_of_ble_eq_true rfl)) d_La_law_319 ⟨hce0, hsl0⟩) hP hD hS hA [17, 18, 19, 20, 21, 22, 23, 24, 25, 26, 27, 28, 29, 30, 31, 32, 33] [0, 1, 2, 3, 4, 5, 6, 7, 8, 9, 10, 11, 12, 13, 14, 15, 16, 34] [0, 1, 2, 3, 4, 5, 6, 7, 8, 9, 10, 11, 12, 13, 14, 15, 16, 18, 19, 20, 21, 22, 23, 24, 25, 26, 27, 28, 29, 30, 31, 32, 33, 34, 17] rfl rfl (by decide) (by decide) rfl (by decide) (fun H locs hP hD hS => ?_)
  refine lv_istore hx hb d_La_law_322 hl (by decide) rfl (fun ls hl => ?_)
  have hl : lv_has ls 7 [(6, .int (S.Bm q)), (5, .int 0), (4, .int (nI i)), (3, .ref (a 34)), (2, .ref (a 17)), (1, .ref (a 0)), (0, .ref b)] := hl
  refine lv_aload_n hx hb d_La_law_324 rfl (lv_at hl 4 rfl) ?_
  refine xr_V (C := R_Mo) (As := []) (rest := []) ⟨C.hx, C.hb, C.hml, C.hown, C.hg⟩ (c_Mo_thrown l D cI cZ cJ (a 17) (a 18) (a 19) (a 20) (a 21) (a 22) (a 23) (a 24) (a 25) (a 26) (a 27) (a 28) (a 29) (a 30) (a 31) (a 32) (a 33) ((s1_begins S q).Po) ((s1_begins S q).Pa) ((s1_begins S q).Pb) ((s1_begins S q).Pc) ((s1_begins S q).G) ((s1_begins S q).O) ((s1_begins S q).Bm) ((s1_begins S q).sr) ((s1_begins S q).sd) (tm_jn 8 ((s1_begins S q).Rs) ((s1_begins S q).Rt)) (tm_jn 64 ((s1_begins S q).Cs) ((s1_begins S q).Ct)) (tm_tw ((s1_begins S q).es) ((s1_begins S q).et)) (tm_tw ((s1_begins S q).hs) ((s1_begins S q).ht)) (tm_tw ((s1_begins S q).ds) ((s1_begins S q).dt)) (tm_tw (nI (s1_begins S q).ks) (nI (s1_begins S q).kt)) (tm_jn 120 ((s1_begins S q).As) ((s1_begins S q).At)) ((s1_begins S q).n) ((s1_begins S q).k) 0 ((s1_begins S q).tl) ((s1_begins S q).nx)) m_Mo_thrown q628 q630 ⟨rfl, rfl⟩ ⟨Nat.le_of_ble_eq_true rfl, Nat.le_of_ble_eq_true rfl⟩ C.hK hP [17, 18, 19, 20, 21, 22, 23, 24, 25, 26, 27, 28, 29, 30, 31, 32, 33] rfl (va_recv (q0 := 17) C.hK.1 hP rfl rfl) rfl hl.1 rfl (Nat.le_of_ble_eq_true rfl) d_La_law_325 ⟨hce0, hsl0⟩ ?_
  refine lv_iload hx hb d_La_law_328 (lv_at hl 1 rfl) ?_
  refine lv_icmp_eq (tgt := 335) hx hb d_La_law_330 rfl (fun _ => ?_) (fun hz9 => absurd (by decide) hz9)
  refine lv_iload hx hb d_La_law_335 (lv_at hl 1 rfl) ?_
  refine lv_if_ne (tgt := 352) hx hb d_La_law_337 rfl (fun hz9 => absurd (by decide) hz9) (fun _ => ?_)
  refine lv_aload_n hx hb d_La_law_340 rfl (lv_at hl 3 rfl) ?_
  refine lv_iconst (v := 0) hx hb d_La_law_341 (by decide) ?_
  refine xa_jd hx hb hK hP 34 2 rfl rfl (kx := 0) (rfl) (by decide) (by decide) d_La_law_342 ?_
  refine lv_iload hx hb d_La_law_343 (lv_at hl 0 rfl) ?_
  refine lv_i2l (v := (S.Bm q).toInt64) hx hb d_La_law_345 rfl ?_
  refine lx_cmp C (hB) d_La_law_346 ?_
  refine lv_if_eq (tgt := 352) hx hb d_La_law_347 rfl (fun _ => ?_) (fun hz9 => absurd (by decide) hz9)
  refine lv_goto (tgt := 704) hx hb d_La_law_352 rfl ?_
  exact W.widen (by omega) (by omega) (k _ H locs ls ⟨hP, hD, hS⟩ (lv_sub hl [2, 3, 4, 5, 6] rfl))

def s1_begins_1 (S : lx_S) (y : Int32) : lx_S := lx_mk S.P S.F S.B S.sr S.sd S.Rs S.Cs S.As S.Rt S.Ct S.At S.Po S.Pa S.Pb S.Pc S.G S.O S.Bm S.n S.k S.ks S.kt S.hs S.ds S.es S.xs S.ht S.dt S.et S.tl S.nx 1
set_option maxHeartbeats 4000000 in
set_option maxRecDepth 100000 in
theorem la_begins_1 {p : Program} {l : Launch} {e : Env} {s : State} {m : MethodId} {args : Array Value} {below : List Frame} {meth : Method} {c : Code} {D : va_G} {cI cZ cJ : ClassId} {b L : Nat} {xs : Nat → Int32} {Q : State → Prop} (C : lx_C p l s m args c D cI cZ cJ b L xs) {a : Nat → Nat} {S : lx_S} {W0 : Nat → Int64} {H : Heap} {locs : List Loc} (X : lx_H D cI cZ cJ s a S S W0 H locs) {ls : Array Slot} {i : Nat} (hi : i + 5 ≤ L) (hl : lv_has ls 7 [(4, .int (nI i)), (3, .ref (a 34)), (2, .ref (a 17)), (1, .ref (a 0)), (0, .ref b)]) {cells slots : Nat} (hce : cells + 1 ≤ room_1.cells) (hsl : slots + 6 ≤ room_1.slots) (y : Int32) (E1 : xs (i + 1) = y) (hbad : S.k = 0 ∨ tm_wi y 0 (nI S.n) = 0) (hbad2 : S.tl = 0 ∨ tm_wi y 0 (nI S.n) = 0)
    (k : ∀ (W1 : Nat → Int64) (H1 : Heap) (locs1 : List Loc) (ls1 : Array Slot), lx_H D cI cZ cJ s a (s1_begins_1 S y) (s1_begins_1 S y) W1 H1 locs1 → lv_has ls1 7 [(4, .int (nI i)), (3, .ref (a 34)), (2, .ref (a 17)), (1, .ref (a 0)), (0, .ref b)] → W p l e room_1 s m args below meth c H1 locs1 (cells + 1) (slots + 6) Q (F0 m 704 ls1 [])) : W p l e room_1 s m args below meth c H locs cells slots Q (F0 m 299 ls []) := by
  obtain ⟨hP, hD, hS⟩ := X
  have hx := C.hx
  have hb := C.hb
  have hK := C.hK
  have hL := C.hL
  have hA : ∀ q : Nat, s.heap.size ≤ q → lx_A s q := fun _ h => h
  have hce0 : cells ≤ room_1.cells := Nat.le_of_succ_le hce
  have hsl0 : slots ≤ room_1.slots := Nat.le_trans (Nat.le_add_right _ _) hsl
  refine lv_aload_n hx hb d_La_law_299 rfl (lv_at hl 3 rfl) ?_
  refine lv_aload_n hx hb d_La_law_300 rfl (lv_at hl 4 rfl) ?_
  refine lv_iload hx hb d_La_law_301 (lv_at hl 0 rfl) ?_
  refine lv_iconst (v := 1) hx hb d_La_law_303 (by decide) ?_
  refine lv_iadd hx hb d_La_law_304 ?_
  have eq9 : ((nI i) + 1 : Int32) = nI (i + 1) := nI_add i 1
  refine W.eq (g2 := F0 m 305 ls [.int (nI (i + 1)), .ref b, .ref (a 0)]) (by rw [eq9]) ?_
  refine lx_ld (kx := i + 1) (v := y) C hS E1 (by omega) d_La_law_305 ?_
  refine lv_aload_n hx hb d_La_law_306 rfl (lv_at hl 1 rfl) ?_
  refine xh_go (w2 := lx_W cI cZ cJ a (s1_begins_1 S y) S W0) (wr := lx_R cI cZ cJ a S) (xh_runS (g := F0 m 307 ls [.ref (a 34), .int y, .ref (a 0)]) (As := [.ref (a 0), .int y, .ref (a 34)]) (rest := []) ⟨C.hx, C.hb, C.hml, C.hown, C.hg⟩ (c_La_begins_1 l C.hLx D cI cZ cJ (a 0) (a 1) (a 2) (a 3) (a 4) (a 5) (a 6) (a 7) (a 8) (a 9) (a 10) (a 11) (a 12) (a 13) (a 14) (a 15) (a 16) S.P S.F S.B S.sr S.sd S.Rs S.Cs S.As S.Rt S.Ct S.At S.n S.k S.ks S.kt S.hs S.ds S.es S.xs S.ht S.dt S.et y (a 34) W0 (hbad) H.size) m_La_begins q399 rfl rfl ⟨Nat.le_of_ble_eq_true rfl, Nat.le_of_ble_eq_true rfl⟩ ⟨xh_blind, xh_pre C.hK (lx_hT C.hT hS) C.hV hP hD [0, 1, 2, 3, 4, 5, 6, 7, 8, 9, 10, 11, 12, 13, 14, 15, 16, 34] (by decide) rfl⟩ rfl rfl hl.1 rfl (lv_room (Nat.le_of_ble_eq_true rfl)) d_La_law_307 ⟨hce, hsl⟩) hP hD hS hA [0, 1, 2, 3, 4, 5, 6, 7, 8, 9, 10, 11, 12, 13, 14, 15, 16, 34] [17, 18, 19, 20, 21, 22, 23, 24, 25, 26, 27, 28, 29, 30, 31, 32, 33] [17, 18, 19, 20, 21, 22, 23, 24, 25, 26, 27, 28, 29, 30, 31, 32, 33, 0, 1, 2, 3, 4, 5, 6, 7, 8, 9, 10, 11, 12, 13, 14, 15, 16, 34] rfl rfl (by decide) (by decide) rfl (by decide) (fun H locs hP hD hS => ?_)
  refine lv_istore hx hb d_La_law_310 hl (by decide) rfl (fun ls hl => ?_)
  have hl : lv_has ls 7 [(5, .int 1), (4, .int (nI i)), (3, .ref (a 34)), (2, .ref (a 17)), (1, .ref (a 0)), (0, .ref b)] := hl
  refine lv_aload_n hx hb d_La_law_312 rfl (lv_at hl 3 rfl) ?_
  refine lv_aload_n hx hb d_La_law_313 rfl (lv_at hl 5 rfl) ?_
  refine lv_iload hx hb d_La_law_314 (lv_at hl 1 rfl) ?_
  refine lv_iconst (v := 1) hx hb d_La_law_316 (by decide) ?_
  refine lv_iadd hx hb d_La_law_317 ?_
  have eq9 : ((nI i) + 1 : Int32) = nI (i + 1) := nI_add i 1
  refine W.eq (g2 := F0 m 318 ls [.int (nI (i + 1)), .ref b, .ref (a 17)]) (by rw [eq9]) ?_
  refine lx_ld (kx := i + 1) (v := y) C hS E1 (by omega) d_La_law_318 ?_
  refine xi_go (w2 := lx_W cI cZ cJ a (s1_begins_1 S y) (s1_begins_1 S y) W0) (wr := lx_X cI cZ cJ a (s1_begins_1 S y) ++ [lx_w cJ a W0]) (va_runV (As := [.int y]) (rest := []) (C := R_Mo) ⟨C.hx, C.hb, C.hml, C.hown, C.hg⟩ (c_Mo_begins_1 l D cI cZ cJ (a 17) (a 18) (a 19) (a 20) (a 21) (a 22) (a 23) (a 24) (a 25) (a 26) (a 27) (a 28) (a 29) (a 30) (a 31) (a 32) (a 33) S.Po S.Pa S.Pb S.Pc S.G S.O S.Bm S.sr S.sd (tm_jn 8 S.Rs S.Rt) (tm_jn 64 S.Cs S.Ct) (tm_tw S.es S.et) (tm_tw S.hs S.ht) (tm_tw S.ds S.dt) (tm_tw (nI S.ks) (nI S.kt)) (tm_jn 120 S.As S.At) S.n S.k S.th S.tl S.nx y (hbad2) H.size) ⟨xg_B C.hg m_Mo_begins.1 m_Mo_begins.2.2.1 m_Mo_begins.2.2.2.1 m_Mo_begins.2.2.2.2 q698 rfl rfl ⟨Nat.le_of_ble_eq_true rfl, Nat.le_of_ble_eq_true rfl⟩, C.hg _ m_Mo_begins.2.1, C.hg _ q700⟩ ⟨xw_blind, (va_recv (q0 := 17) C.hK.1 hP rfl rfl), xw_pre C.hK hP hD [17, 18, 19, 20, 21, 22, 23, 24, 25, 26, 27, 28, 29, 30, 31, 32, 33] (by decide) rfl⟩ rfl rfl hl.1 rfl (lv_room (Nat.le_of_ble_eq_true rfl)) d_La_law_319 ⟨hce, hsl⟩) hP hD hS hA [17, 18, 19, 20, 21, 22, 23, 24, 25, 26, 27, 28, 29, 30, 31, 32, 33] [0, 1, 2, 3, 4, 5, 6, 7, 8, 9, 10, 11, 12, 13, 14, 15, 16, 34] [0, 1, 2, 3, 4, 5, 6, 7, 8, 9, 10, 11, 12, 13, 14, 15, 16, 18, 19, 20, 21, 22, 23, 24, 25, 26, 27, 28, 29, 30, 31, 32, 33, 34, 17] rfl rfl (by decide) (by decide) rfl (by decide) (fun H locs hP hD hS => ?_)
  refine lv_istore hx hb d_La_law_322 hl (by decide) rfl (fun ls hl => ?_)
  have hl : lv_has ls 7 [(6, .int 0), (5, .int 1), (4, .int (nI i)), (3, .ref (a 34)), (2, .ref (a 17)), (1, .ref (a 0)), (0, .ref b)] := hl
  refine lv_aload_n hx hb d_La_law_324 rfl (lv_at hl 4 rfl) ?_
  refine xr_V (C := R_Mo) (As := []) (rest := []) ⟨C.hx, C.hb, C.hml, C.hown, C.hg⟩ (c_Mo_thrown l D cI cZ cJ (a 17) (a 18) (a 19) (a 20) (a 21) (a 22) (a 23) (a 24) (a 25) (a 26) (a 27) (a 28) (a 29) (a 30) (a 31) (a 32) (a 33) ((s1_begins_1 S y).Po) ((s1_begins_1 S y).Pa) ((s1_begins_1 S y).Pb) ((s1_begins_1 S y).Pc) ((s1_begins_1 S y).G) ((s1_begins_1 S y).O) ((s1_begins_1 S y).Bm) ((s1_begins_1 S y).sr) ((s1_begins_1 S y).sd) (tm_jn 8 ((s1_begins_1 S y).Rs) ((s1_begins_1 S y).Rt)) (tm_jn 64 ((s1_begins_1 S y).Cs) ((s1_begins_1 S y).Ct)) (tm_tw ((s1_begins_1 S y).es) ((s1_begins_1 S y).et)) (tm_tw ((s1_begins_1 S y).hs) ((s1_begins_1 S y).ht)) (tm_tw ((s1_begins_1 S y).ds) ((s1_begins_1 S y).dt)) (tm_tw (nI (s1_begins_1 S y).ks) (nI (s1_begins_1 S y).kt)) (tm_jn 120 ((s1_begins_1 S y).As) ((s1_begins_1 S y).At)) ((s1_begins_1 S y).n) ((s1_begins_1 S y).k) 1 ((s1_begins_1 S y).tl) ((s1_begins_1 S y).nx)) m_Mo_thrown q628 q630 ⟨rfl, rfl⟩ ⟨Nat.le_of_ble_eq_true rfl, Nat.le_of_ble_eq_true rfl⟩ C.hK hP [17, 18, 19, 20, 21, 22, 23, 24, 25, 26, 27, 28, 29, 30, 31, 32, 33] rfl (va_recv (q0 := 17) C.hK.1 hP rfl rfl) rfl hl.1 rfl (Nat.le_of_ble_eq_true rfl) d_La_law_325 ⟨hce, hsl⟩ ?_
  refine lv_iload hx hb d_La_law_328 (lv_at hl 1 rfl) ?_
  refine lv_icmp_eq (tgt := 335) hx hb d_La_law_330 rfl (fun _ => ?_) (fun hz9 => absurd (by decide) hz9)
  refine lv_iload hx hb d_La_law_335 (lv_at hl 1 rfl) ?_
  refine lv_if_ne (tgt := 352) hx hb d_La_law_337 rfl (fun _ => ?_) (fun hz9 => absurd hz9 (by decide))
  refine lv_goto (tgt := 704) hx hb d_La_law_352 rfl ?_
  exact W.widen (by omega) (by omega) (k _ H locs ls ⟨hP, hD, hS⟩ (lv_sub hl [2, 3, 4, 5, 6] rfl))
