/-! PURE: the target's run is safe -/
/-- what an annotation says of the registers -/
def tm_an (P : Nat → Int32) (n : Nat) (R : tF) (an : Nat) : Prop := (an = 1 → R 4 = 32) ∧ (an = 2 → ∃ j : Nat, j < 32 ∧ R 5 = nI j) ∧ (an = 3 → R 4 = nI n) ∧ (an = 4 → ∃ j : Nat, j < n ∧ R 6 = nI j) ∧ (an = 5 → ∃ j : Nat, j < n ∧ R 4 = nI (tm_of P n j))
theorem an_0 {P : Nat → Int32} {n : Nat} {R : tF} {an : Nat} (h : an = 0) : tm_an P n R an := ⟨fun z => by omega, fun z => by omega, fun z => by omega, fun z => by omega, fun z => by omega⟩
/-- an unsigned comparison of sixteen bits -/
theorem xn_u16 {x : Int32} {m : Nat} (hx : tm_sh x) (hm : m < 32768) (h : x &&& 65535 < nI m &&& 65535) : ∃ j : Nat, j < m ∧ x = nI j := by
  have e1 : x &&& 65535 = nI (x.toBitVec.toNat % 2 ^ 16) := pk_and x 16 (by decide)
  have e2 : nI m &&& 65535 = nI ((nI m).toBitVec.toNat % 2 ^ 16) := pk_and (nI m) 16 (by decide)
  have hti : ∀ y : Int32, y.toInt = y.toBitVec.toInt := fun _ => rfl
  have b1 := BitVec.toInt_eq_toNat_cond x.toBitVec
  have b2 := BitVec.toInt_eq_toNat_cond (nI m).toBitVec
  have l1 := x.toBitVec.isLt
  have l2 := (nI m).toBitVec.isLt
  have t2 := nI_toInt (n := m) (by omega)
  rw [hti, b2] at t2
  rw [e1, e2] at h
  have h := (nI_ltI (by omega) (by omega)).mp h
  obtain ⟨s1, s2⟩ := hx
  rw [hti, b1] at s1 s2
  have t3 : (nI m).toBitVec.toNat = m := by split at t2 <;> omega
  rw [t3] at h
  refine ⟨x.toBitVec.toNat, ?_, ?_⟩
  · split at s1 <;> split at s2 <;> omega
  · apply Int32.toInt_inj.mp
    rw [nI_toInt (by split at s1 <;> split at s2 <;> omega), hti, b1]
    split at s1 <;> split at s2 <;> omega
theorem tm_set_at {R : tF} {r : Nat} {v : Int32} (h1 : 1 ≤ r) (h8 : r < 8) : tm_set R (nI r) v r = v := by
  unfold tm_set
  rw [if_neg (show ¬ nI r = 0 from xn_ne (w := 0) (by omega) (by decide) (by omega)), nI_clamp (by omega)]
  unfold upd
  rw [if_pos rfl]
theorem tm_set_ne {R : tF} {r i : Nat} {v : Int32} (h8 : r < 8) (h : i ≠ r) : tm_set R (nI r) v i = R i := by
  unfold tm_set
  split
  · rfl
  · rw [nI_clamp (by omega)]
    unfold upd
    rw [if_neg h]
def tm_jtJ (P : Nat → Int32) (n : Nat) (S : tM) : Prop := tm_st 64 S ∧ (∀ x, x < n → S.2.1 (40 + x) = nI (tm_of P n x)) ∧ (S.2.2.2.2.2.2.1 = 0 → ∃ i y, S.2.2.2.2.1 = nI i ∧ (tm_all P n)[i]? = some y ∧ tm_an P n S.1 y.2.2.2.2.2)
theorem tm_jt_of {P : Nat → Int32} {n : Nat} (hn : n ≤ 24) (hin : tm_in P n) (hok : tm_ok P n) : tm_jt (tm_K P n) (tm_of P n n + 1) (tm_jtJ P n) := by
  intro S hJ he
  obtain ⟨R, C, A, k, h, d, e, x⟩ := S
  obtain ⟨⟨h0, hs, hC, hk⟩, hB, hpl⟩ := hJ
  dsimp only at h0 hs hC hk hB hpl he
  obtain ⟨i, y, eh, hy, han⟩ := hpl he
  have hL := tm_fits hn hok
  have hi : i < tm_of P n n + 1 := by rw [← tm_all_len]; exact (List.getElem?_eq_some_iff.mp hy).1
  obtain ⟨sg1, sg2, -⟩ := sg_all hn hin hok
  have hfi := sg1 y (List.mem_of_getElem? hy)
  obtain ⟨v, a, b, hv, hv13, ha, ha8, hb, hb8, f14, f8, f56, f78, f9, f13⟩ := hfi
  obtain ⟨k0, k1, k2, k3⟩ := tm_pa_in (tm_rs (tm_kb P n)) (tm_all P n) (fun _ => 0) 0 i y hy
  rw [Nat.zero_add] at k0 k1 k2 k3
  have K0 : tm_K P n (4 * i) = nI v := k0.trans hv
  have K1 : tm_K P n (4 * i + 1) = nI a := k1.trans ha
  have K2 : tm_K P n (4 * i + 2) = nI b := k2.trans hb
  have K3 : tm_K P n (4 * i + 3) = tm_rs (tm_kb P n) y := k3
  have K3f : y.2.2.2.2.1 = false → tm_K P n (4 * i + 3) = y.2.2.2.1 := fun hf => by rw [K3]; unfold tm_rs; rw [hf]; rfl
  obtain ⟨n1, n2, n3, n4, n5⟩ := han
  have cl : ∀ z : Nat, z < 8 → (nI z).toNatClampNeg = z := fun z hz => nI_clamp (by omega)
  -- the address
  have hadr : 7 ≤ v → v ≤ 8 → ∃ dd : Nat, tm_adr (tm_K P n) i R = nI dd ∧ dd < 64 ∧ (v = 8 → dd < 40) ∧ (b = 6 → ∃ j : Nat, j < n ∧ dd = 40 + j) := fun q1 q2 => by
    have adr : tm_adr (tm_K P n) i R = tm_wr (R b + y.2.2.2.1) := by unfold tm_adr; rw [K2, K3f (f8 (by omega)), cl b hb8]
    rw [adr]
    rcases f78 q1 q2 with ⟨b0, r, et, r4, r8⟩ | ⟨b5, et, ea⟩ | ⟨v7, b6, et, ea⟩
    · refine ⟨32 + r, ?_, by omega, fun _ => by omega, fun _ => by omega⟩
      rw [b0, h0, et, Int32.zero_add]; exact tm_wr_id (tm_sh_nI (by omega))
    · obtain ⟨j, hj, ej⟩ := n2 ea
      refine ⟨j, ?_, by omega, fun _ => by omega, fun _ => by omega⟩
      rw [b5, ej, et, Int32.add_zero]; exact tm_wr_id (tm_sh_nI (by omega))
    · obtain ⟨j, hj, ej⟩ := n4 ea
      refine ⟨40 + j, ?_, by omega, fun _ => by omega, fun _ => ⟨j, hj, rfl⟩⟩
      rw [b6, ej, et, show nI j + 40 = nI (j + 40) from nI_add j 40, Nat.add_comm j 40]; exact tm_wr_id (tm_sh_nI (by omega))
  obtain ⟨w, hw⟩ : ∃ w : Nat, 1 ≤ v → v ≤ 4 → tm_K P n (4 * i + 3) = nI w ∧ w < 8 := by
    by_cases q : 1 ≤ v ∧ v ≤ 4
    · obtain ⟨w, e1, e2⟩ := f14 q.1 q.2
      exact ⟨w, fun _ _ => ⟨(K3f (f8 (by omega))).trans e1, e2⟩⟩
    · exact ⟨0, fun q1 q2 => absurd ⟨q1, q2⟩ q⟩
  obtain ⟨dd, hdd⟩ : ∃ dd : Nat, 7 ≤ v → v ≤ 8 → tm_adr (tm_K P n) i R = nI dd ∧ dd < 64 ∧ (v = 8 → dd < 40) ∧ (b = 6 → ∃ j : Nat, j < n ∧ dd = 40 + j) := by
    by_cases q : 7 ≤ v ∧ v ≤ 8
    · obtain ⟨dd, e1⟩ := hadr q.1 q.2
      exact ⟨dd, fun _ _ => e1⟩
    · exact ⟨0, fun q1 q2 => absurd ⟨q1, q2⟩ q⟩
  refine ⟨i, v, a, b, w, dd, eh, hi, K0, hv13, K1, ha8, K2, hb8, hw, fun q1 q2 => ⟨(hdd q1 q2).1, (hdd q1 q2).2.1⟩, h0, hs, hk, ?_⟩
  -- the turn
  have vne : ∀ z : Nat, z < 100 → v ≠ z → ¬ nI v = nI z := fun z hz h => xn_ne (by omega) (by omega) h
  have next : v ≠ 0 → ∃ y', (tm_all P n)[i + 1]? = some y' ∧ tm_ch n y y' := fun q => by
    obtain ⟨y', e'⟩ := tm_next hy (by rw [hv]; exact vne 0 (by omega) q)
    exact ⟨y', e', cn_at _ sg2 i y y' hy e'⟩
  have begin' : ∀ (R' : tF) (j : Nat), j ≤ n → ∃ i' y', tm_kb P n j = nI i' ∧ (tm_all P n)[i']? = some y' ∧ tm_an P n R' y'.2.2.2.2.2 := fun R' j hj => by
    obtain ⟨y', e1, e2⟩ := tm_begin_at hn hin hok hj
    exact ⟨tm_of P n j, y', rfl, e1, an_0 e2⟩
  unfold tm_ts
  dsimp only
  rw [K0]
  by_cases v0 : v = 0
  · subst v0
    rw [if_neg (show ¬ (13 : Int32) < nI 0 by decide), if_pos (show nI 0 = 0 from rfl)]
    have hne : ∀ c : Int32, ¬ (if c = 0 then (1 : Int32) else 2) = 0 := fun c => by split <;> decide
    exact ⟨⟨⟨h0, hs, hC, hk⟩, hB, fun z => absurd z (hne _)⟩, fun _ => rfl⟩
  obtain ⟨y', hy', hch⟩ := next v0
  rw [if_neg (show ¬ (13 : Int32) < nI v from nI_nlt (a := 13) (b := v) hv13 (by decide)), if_neg (show ¬ nI v = 0 from vne 0 (by omega) v0)]
  unfold tm_ch at hch
  rw [hv, ha, hb] at hch
  have c0 : ¬ nI v = 0 := vne 0 (by omega) v0
  by_cases v7 : v < 7
  · -- ALU
    rw [if_pos (show nI v < 7 from nI_lt (a := v) (b := 7) v7 (by decide))]
    have ht : 4 < tm_K P n (4 * i) → tm_sh (tm_K P n (4 * i + 3)) := fun q => by
      rw [K0] at q
      have q := (nI_ltI (a := 4) (b := v) (by decide) (by omega)).mp q
      rw [K3f (f8 (by omega))]
      exact f56 (by omega) (by omega)
    obtain ⟨al0, als⟩ := tm_alu_st h0 hs K1 ha8 K2 hb8 ht
    refine ⟨⟨⟨al0, als, hC, hk⟩, hB, fun _ => ⟨i + 1, y', rfl, hy', ?_⟩⟩, fun _ => rfl⟩
    have imm : ∀ t : Nat, t < 32768 → nI v = 5 → nI a = 4 → nI b = 0 → y.2.2.2.1 = nI t → y.2.2.2.2.1 = false → tm_alu (tm_K P n) i R 4 = nI t := fun t ht hv5 ha4 hb0 et ef => by
      have a4 : a = 4 := (nI_eq (a := a) (b := 4) (by omega) (by omega)).mp ha4
      have b0 : b = 0 := (nI_eq (a := b) (b := 0) (by omega) (by omega)).mp hb0
      unfold tm_alu
      rw [K0, K1, K2, K3f ef, et, hv5, a4, b0, if_pos (show (4 : Int32) < 5 by decide), cl 0 (by omega), h0, tm_set_at (by omega) (by omega)]
      unfold tm_calc
      rw [if_neg (by decide), if_neg (by decide), if_neg (by decide), if_neg (by decide), Int32.zero_add]
      exact tm_wr_id (tm_sh_nI ht)
    rcases hch with c | c | c | c | ⟨c, c1, c2, c3, c4, c5⟩ | ⟨c, ⟨c1, -⟩ | ⟨c1, -⟩⟩ | ⟨c, c1, c2, c3, c4, c5⟩ | ⟨c, c1, -⟩ | ⟨c, c1, -⟩
    · exact absurd c c0
    · exact absurd c (vne 11 (by omega) (by omega))
    · exact absurd c (vne 13 (by omega) (by omega))
    · exact an_0 c
    · rw [c]; exact ⟨fun _ => imm 32 (by omega) c1 c2 c3 c4 c5, fun z => by omega, fun z => by omega, fun z => by omega, fun z => by omega⟩
    · exact absurd c1 (vne 12 (by omega) (by omega))
    · exact absurd c1 (vne 7 (by omega) (by omega))
    · rw [c]; exact ⟨fun z => by omega, fun z => by omega, fun _ => imm n (by omega) c1 c2 c3 c4 c5, fun z => by omega, fun z => by omega⟩
    · exact absurd c1 (vne 12 (by omega) (by omega))
    · exact absurd c1 (vne 7 (by omega) (by omega))
  · rw [if_neg (show ¬ nI v < 7 from nI_nlt (a := v) (b := 7) (by omega) (by omega))]
    by_cases v9 : v < 9
    · -- LOAD, STORE
      rw [if_pos (show nI v < 9 from nI_lt (a := v) (b := 9) v9 (by decide))]
      obtain ⟨ed, d64, d8, d6⟩ := hdd (by omega) (by omega)
      rw [ed, if_neg (not_or.mpr ⟨nI_pos (by omega), nI_ge d64 (by decide)⟩)]
      obtain ⟨⟨m0, ms⟩, mc⟩ := tm_mem_st (F := tm_K P n) (b := b) h0 hs hC K1 ha8 ed d64 (by decide)
      have ddc : (nI dd).toNatClampNeg = dd := nI_clamp (by omega)
      refine ⟨⟨⟨m0, ms, mc, tm_dk_le _ hk⟩, ?_, fun _ => ⟨i + 1, y', rfl, hy', ?_⟩⟩, fun _ => rfl⟩
      · intro z hz
        show tm_mC (tm_K P n) i R C (40 + z) = _
        unfold tm_mC
        split
        · rename_i q
          rw [K0] at q
          have q := (nI_eq (a := v) (b := 8) (by omega) (by omega)).mp q
          rw [ed, ddc]
          unfold upd
          have := d8 q
          rw [if_neg (by omega)]
          exact hB z hz
        · exact hB z hz
      · show tm_an P n (tm_mR (tm_K P n) i R C) _
        rcases hch with c | c | c | c | ⟨c, c1, -⟩ | ⟨c, ⟨c1, -⟩ | ⟨c1, c2, c3⟩⟩ | ⟨c, c1, -⟩ | ⟨c, c1, -⟩ | ⟨c, c1, c2, c3, c4, c5, c6⟩
        · exact absurd c c0
        · exact absurd c (vne 11 (by omega) (by omega))
        · exact absurd c (vne 13 (by omega) (by omega))
        · exact an_0 c
        · exact absurd c1 (vne 5 (by omega) (by omega))
        · exact absurd c1 (vne 12 (by omega) (by omega))
        · obtain ⟨j, hj, ej⟩ := n2 c3
          have a4 : a = 4 := (nI_eq (a := a) (b := 4) (by omega) (by omega)).mp c2
          rw [c]
          refine ⟨fun z => by omega, fun _ => ⟨j, hj, ?_⟩, fun z => by omega, fun z => by omega, fun z => by omega⟩
          unfold tm_mR
          rw [K0, c1, if_neg (by decide), K1, a4, tm_set_ne (by omega) (by omega)]
          exact ej
        · exact absurd c1 (vne 5 (by omega) (by omega))
        · exact absurd c1 (vne 12 (by omega) (by omega))
        · have a4 : a = 4 := (nI_eq (a := a) (b := 4) (by omega) (by omega)).mp c2
          have b6 : b = 6 := (nI_eq (a := b) (b := 6) (by omega) (by omega)).mp c3
          obtain ⟨j, hj, ej⟩ := d6 b6
          rw [c]
          refine ⟨fun z => by omega, fun z => by omega, fun z => by omega, fun z => by omega, fun _ => ⟨j, hj, ?_⟩⟩
          unfold tm_mR
          rw [K0, c1, if_neg (by decide), K1, a4, tm_set_at (by omega) (by omega), ed, ddc, ej]
          exact hB j hj
    · -- branches
      rw [if_neg (show ¬ nI v < 9 from nI_nlt (a := v) (b := 9) (by omega) (by omega))]
      refine ⟨⟨⟨h0, hs, hC, hk⟩, hB, fun _ => ?_⟩, fun _ => rfl⟩
      show ∃ i' y', tm_tb (tm_K P n) i R = nI i' ∧ (tm_all P n)[i']? = some y' ∧ tm_an P n R y'.2.2.2.2.2
      unfold tm_tb
      rw [K0, K1, K2, cl a ha8, cl b hb8]
      by_cases v13 : v = 13
      · obtain ⟨a4, -, ea⟩ := f13 v13
        obtain ⟨j, hj, ej⟩ := n5 ea
        subst v13
        rw [if_neg (show ¬ nI 13 = 9 by decide), if_neg (show ¬ nI 13 = 10 by decide), if_neg (show ¬ nI 13 = 12 by decide), if_pos (show nI 13 = 13 from rfl), a4, ej]
        exact begin' R j (by omega)
      · obtain ⟨fo, j, hj, ej⟩ := f9 (by omega) (by omega)
        have Kj : tm_K P n (4 * i + 3) = tm_kb P n j := by
          rw [K3]; unfold tm_rs; rw [fo, if_pos rfl, ej, nI_clamp (by omega)]
        rw [Kj, if_neg (show ¬ nI v = 13 from vne 13 (by omega) v13)]
        have nx0 : v ≤ 10 → ∃ i' y', nI (i + 1) = nI i' ∧ (tm_all P n)[i']? = some y' ∧ tm_an P n R y'.2.2.2.2.2 := fun q => by
          refine ⟨i + 1, y', rfl, hy', ?_⟩
          rcases hch with c | c | c | c | ⟨c, c1, -⟩ | ⟨c, ⟨c1, -⟩ | ⟨c1, -⟩⟩ | ⟨c, c1, -⟩ | ⟨c, c1, -⟩ | ⟨c, c1, -⟩
          · exact absurd c c0
          · exact absurd c (vne 11 (by omega) (by omega))
          · exact absurd c (vne 13 (by omega) (by omega))
          · exact an_0 c
          · exact absurd c1 (vne 5 (by omega) (by omega))
          · exact absurd c1 (vne 12 (by omega) (by omega))
          · exact absurd c1 (vne 7 (by omega) (by omega))
          · exact absurd c1 (vne 5 (by omega) (by omega))
          · exact absurd c1 (vne 12 (by omega) (by omega))
          · exact absurd c1 (vne 7 (by omega) (by omega))
        split
        · rename_i q
          have q := (nI_eq (a := v) (b := 9) (by omega) (by omega)).mp q
          split
          · exact begin' R j hj
          · exact nx0 (by omega)
        · split
          · rename_i q
            have q := (nI_eq (a := v) (b := 10) (by omega) (by omega)).mp q
            split
            · exact nx0 (by omega)
            · exact begin' R j hj
          · split
            · rename_i q
              have q := (nI_eq (a := v) (b := 12) (by omega) (by omega)).mp q
              split
              · rename_i hlt
                refine ⟨i + 1, y', rfl, hy', ?_⟩
                rcases hch with c | c | c | c | ⟨c, c1, -⟩ | ⟨c, ⟨c1, c2, c3, c4⟩ | ⟨c1, -⟩⟩ | ⟨c, c1, -⟩ | ⟨c, c1, c2, c3, c4⟩ | ⟨c, c1, -⟩
                · exact absurd c c0
                · exact absurd c (vne 11 (by omega) (by omega))
                · exact absurd c (vne 13 (by omega) (by omega))
                · exact an_0 c
                · exact absurd c1 (vne 5 (by omega) (by omega))
                · have a5 : a = 5 := (nI_eq (a := a) (b := 5) (by omega) (by omega)).mp c2
                  have b4 : b = 4 := (nI_eq (a := b) (b := 4) (by omega) (by omega)).mp c3
                  rw [a5, b4, n1 c4] at hlt
                  obtain ⟨j', hj', ej'⟩ := xn_u16 (m := 32) (hs 5 (by omega)) (by omega) hlt
                  rw [c]
                  exact ⟨fun z => by omega, fun _ => ⟨j', hj', ej'⟩, fun z => by omega, fun z => by omega, fun z => by omega⟩
                · exact absurd c1 (vne 7 (by omega) (by omega))
                · exact absurd c1 (vne 5 (by omega) (by omega))
                · have a6 : a = 6 := (nI_eq (a := a) (b := 6) (by omega) (by omega)).mp c2
                  have b4 : b = 4 := (nI_eq (a := b) (b := 4) (by omega) (by omega)).mp c3
                  rw [a6, b4, n3 c4] at hlt
                  obtain ⟨j', hj', ej'⟩ := xn_u16 (m := n) (hs 6 (by omega)) (by omega) hlt
                  rw [c]
                  exact ⟨fun z => by omega, fun z => by omega, fun z => by omega, fun _ => ⟨j', hj', ej'⟩, fun z => by omega⟩
                · exact absurd c1 (vne 7 (by omega) (by omega))
              · exact begin' R j hj
            · exact begin' R j hj
