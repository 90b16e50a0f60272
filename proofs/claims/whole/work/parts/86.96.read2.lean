/-- both readings, to one end -/
def RdG (nm : Nat → Int32) (w : Int32) (G : Sg) (v : Int32) : Prop := ∃ (s0 s1 s2 s3 : Nat) (v0 v1 v2 : Int32), (G 25 0).toInt = s0 ∧ (G 25 1).toInt = s1 ∧ (G 25 2).toInt = s2 ∧ (G 25 3).toInt = s3 ∧ s0 ≤ s1 ∧ s1 ≤ s2 ∧ s2 ≤ s3 ∧ s3 ≤ 160 ∧ EV (G 24) nm s0 s1 v0 ∧ EV (G 24) nm s1 s2 v1 ∧ EV (G 24) nm s2 s3 v2 ∧ v = (if w = 0 then v0 else if w = 1 then v1 else v2)
theorem read_lk {N : Nat} (hN : 300 < N) {g : Sg} {S : SM} {t : Int32} (w : Int32) {tx : Nat → Int32} {sz : Nat} (hC : CT g tx sz) (ht : 0 ≤ t.toInt ∧ t.toInt < 6) (hb : ∀ p : Nat, p < sz → S.1 1 (160 * t.toInt.toNat + p) = tx p) (hs : (S.1 2 t.toInt.toNat).toInt = sz) : ∃ (r : Int32) (G : Sg) (v : Int32) (T : SM), x_X2_read N g = some (r, G) ∧ x_X8_read N t w S = some (v, T) ∧ FrR g G ∧ G 3 1 = 0 ∧ FrT S T ∧ ((r = -1 ∧ T.1 0 29 = 0 ∧ RdG (fun k => S.1 0 (16 + k)) w G v) ∨ (0 ≤ r.toInt ∧ ¬ T.1 0 29 = 0 ∧ T.1 0 30 = r)) := by
  have h160 := hC.2.1
  have hby := hC.2.2
  -- the class splits
  obtain ⟨G0, c1, c2, c3⟩ := c_split hN hC
  obtain ⟨gA, hgA⟩ : ∃ gA, gA = up G0 3 (upd (G0 3) 4 0) := ⟨_, rfl⟩
  obtain ⟨gB, hgB⟩ : ∃ gB, gB = up gA 3 (upd (gA 3) 7 0) := ⟨_, rfl⟩
  have B4 : gB 3 4 = 0 := by rw [hgB, up_s, upd_n _ _ (by omega), hgA, up_s, upd_s]
  have B7 : gB 3 7 = 0 := by rw [hgB, up_s, upd_s]
  have B22 : gB 22 = G0 22 := by rw [hgB, up_n _ _ (by omega), hgA, up_n _ _ (by omega)]
  have B23 : gB 23 = G0 23 := by rw [hgB, up_n _ _ (by omega), hgA, up_n _ _ (by omega)]
  have FB : FrR g gB := by
    refine FrR_t (b := G0) ⟨fun j hj => c2 j (by omega), fun k _ => by rw [c2 3 (by omega)]⟩ ?_
    rw [hgB]
    refine FrR_t (b := gA) ?_ (FrR_3 gA 7 0 (by omega))
    rw [hgA]
    exact FrR_3 G0 4 0 (by omega)
  -- the reference starts
  have m160 : ((160 : Int32) * t).toInt = 160 * t.toInt := mul_l (by decide) rfl (by omega)
  obtain ⟨S6, hS6⟩ : ∃ S6, S6 = st0 (st0 (st0 (st0 (st0 S 22 (160 * t)) 23 (S.1 2 t.toInt.toNat)) 24 0) 28 0) 29 0 := ⟨_, rfl⟩
  have j6 : ∀ j : Nat, j ≠ 0 → S6.1 j = S.1 j := fun j hj => by
    rw [hS6, st0_j _ _ _ hj, st0_j _ _ _ hj, st0_j _ _ _ hj, st0_j _ _ _ hj, st0_j _ _ _ hj]
  have k6 : ∀ k : Nat, ¬ (22 ≤ k ∧ k ≤ 30) → S6.1 0 k = S.1 0 k := fun k hk => by
    rw [hS6, st0_n _ _ _ (by omega), st0_n _ _ _ (by omega), st0_n _ _ _ (by omega), st0_n _ _ _ (by omega), st0_n _ _ _ (by omega)]
  have s22 : S6.1 0 22 = 160 * t := by rw [hS6, st0_n _ _ _ (by omega), st0_n _ _ _ (by omega), st0_n _ _ _ (by omega), st0_n _ _ _ (by omega), st0_s]
  have s23 : S6.1 0 23 = S.1 2 t.toInt.toNat := by rw [hS6, st0_n _ _ _ (by omega), st0_n _ _ _ (by omega), st0_n _ _ _ (by omega), st0_s]
  have s24 : S6.1 0 24 = 0 := by rw [hS6, st0_n _ _ _ (by omega), st0_n _ _ _ (by omega), st0_s]
  have s28 : S6.1 0 28 = 0 := by rw [hS6, st0_n _ _ _ (by omega), st0_s]
  have s29 : S6.1 0 29 = 0 := by rw [hS6, st0_s]
  have R6 : RT S6 tx sz := by
    refine ⟨by rw [s23]; exact hs, h160, by rw [s22, m160]; omega, fun p hp => ⟨?_, (hby p hp).2⟩⟩
    rw [s22, m160, j6 1 (by omega), show (160 * t.toInt).toNat = 160 * t.toInt.toNat by omega]
    exact hb p hp
  obtain ⟨T0, q0, n1, n2, n3, n4⟩ := m_first hN R6 (by rw [s24]; rfl) s29
  have F0 : FrT S T0 := ⟨fun j hj => (n2.1 j hj).trans (j6 j hj), fun k hk => (n2.2 k (by omega)).trans (k6 k hk)⟩
  have P0 : PRE (G0 22) (G0 23) tx sz q0 0 gB T0 := ⟨c3, n3, B22, B23, by rw [B4, n4]; rfl, ⟨0, by rw [B7]; rfl, Nat.zero_le _⟩, by rw [n2.2 28 (by omega), s28]; rfl⟩
  have hM : ∀ X, (x_X8_isWord N (115 : Int32) (119 : Int32) (101 : Int32) (108 : Int32) (108 : Int32) (115 : Int32) (0 : Int32) (0 : Int32) T0).bind (fun q8 => (x_X8_part N q8.1 q8.2).bind fun q9 => (if (q9.2.1 0 29) = 0 then (x_X8_isWord N (114 : Int32) (117 : Int32) (98 : Int32) (115 : Int32) (0 : Int32) (0 : Int32) (0 : Int32) (0 : Int32) q9.2).bind fun q11 => (x_X8_part N q11.1 q11.2).bind fun q12 => x_X8_read_b92 N w q9.1 q12.1 q12.2 else x_X8_read_b92 N w q9.1 (0 : Int32) q9.2)) = X → x_X8_read N t w S = X := by
    intro X hX
    have it : inb t 6 = true := i_inb.mpr ⟨by omega, by omega⟩
    have tn : t.toNatClampNeg = t.toInt.toNat := i_nat _
    rw [← hX]
    unfold x_X8_read
    simp only [lt]
    rw [if_pos it, tn]
    have e6 : (up (up (up (up (up S.1 0 (upd (S.1 0) 22 (160 * t))) 0 (upd (up S.1 0 (upd (S.1 0) 22 (160 * t)) 0) 23 (up S.1 0 (upd (S.1 0) 22 (160 * t)) 2 t.toInt.toNat))) 0 (upd (up (up S.1 0 (upd (S.1 0) 22 (160 * t))) 0 (upd (up S.1 0 (upd (S.1 0) 22 (160 * t)) 0) 23 (up S.1 0 (upd (S.1 0) 22 (160 * t)) 2 t.toInt.toNat)) 0) 24 0)) 0 (upd (up (up (up S.1 0 (upd (S.1 0) 22 (160 * t))) 0 (upd (up S.1 0 (upd (S.1 0) 22 (160 * t)) 0) 23 (up S.1 0 (upd (S.1 0) 22 (160 * t)) 2 t.toInt.toNat))) 0 (upd (up (up S.1 0 (upd (S.1 0) 22 (160 * t))) 0 (upd (up S.1 0 (upd (S.1 0) 22 (160 * t)) 0) 23 (up S.1 0 (upd (S.1 0) 22 (160 * t)) 2 t.toInt.toNat)) 0) 24 0) 0) 28 0)) 0 (upd (up (up (up (up S.1 0 (upd (S.1 0) 22 (160 * t))) 0 (upd (up S.1 0 (upd (S.1 0) 22 (160 * t)) 0) 23 (up S.1 0 (upd (S.1 0) 22 (160 * t)) 2 t.toInt.toNat))) 0 (upd (up (up S.1 0 (upd (S.1 0) 22 (160 * t))) 0 (upd (up S.1 0 (upd (S.1 0) 22 (160 * t)) 0) 23 (up S.1 0 (upd (S.1 0) 22 (160 * t)) 2 t.toInt.toNat)) 0) 24 0)) 0 (upd (up (up (up S.1 0 (upd (S.1 0) 22 (160 * t))) 0 (upd (up S.1 0 (upd (S.1 0) 22 (160 * t)) 0) 23 (up S.1 0 (upd (S.1 0) 22 (160 * t)) 2 t.toInt.toNat))) 0 (upd (up (up S.1 0 (upd (S.1 0) 22 (160 * t))) 0 (upd (up S.1 0 (upd (S.1 0) 22 (160 * t)) 0) 23 (up S.1 0 (upd (S.1 0) 22 (160 * t)) 2 t.toInt.toNat)) 0) 24 0) 0) 28 0) 0) 29 0), S.2) = S6 := by
      rw [hS6]; rfl
    rw [e6, n1]
    rfl
  have e0 : ∀ S, x_X8_isWord N (115 : Int32) (119 : Int32) (101 : Int32) (108 : Int32) (108 : Int32) (115 : Int32) (0 : Int32) (0 : Int32) S = x_X8_isWord N (L8 0 0) (L8 0 1) (L8 0 2) (L8 0 3) (L8 0 4) (L8 0 5) (L8 0 6) (L8 0 7) S := fun S => by
    rw [show L8 0 0 = 115 from by decide, show L8 0 1 = 119 from by decide, show L8 0 2 = 101 from by decide, show L8 0 3 = 108 from by decide, show L8 0 4 = 108 from by decide, show L8 0 5 = 115 from by decide, show L8 0 6 = 0 from by decide, show L8 0 7 = 0 from by decide]
  have e1 : ∀ S, x_X8_isWord N (114 : Int32) (117 : Int32) (98 : Int32) (115 : Int32) (0 : Int32) (0 : Int32) (0 : Int32) (0 : Int32) S = x_X8_isWord N (L8 1 0) (L8 1 1) (L8 1 2) (L8 1 3) (L8 1 4) (L8 1 5) (L8 1 6) (L8 1 7) S := fun S => by
    rw [show L8 1 0 = 114 from by decide, show L8 1 1 = 117 from by decide, show L8 1 2 = 98 from by decide, show L8 1 3 = 115 from by decide, show L8 1 4 = 0 from by decide, show L8 1 5 = 0 from by decide, show L8 1 6 = 0 from by decide, show L8 1 7 = 0 from by decide]
  have e2 : ∀ S, x_X8_isWord N (112 : Int32) (114 : Int32) (105 : Int32) (99 : Int32) (101 : Int32) (0 : Int32) (0 : Int32) (0 : Int32) S = x_X8_isWord N (L8 2 0) (L8 2 1) (L8 2 2) (L8 2 3) (L8 2 4) (L8 2 5) (L8 2 6) (L8 2 7) S := fun S => by
    rw [show L8 2 0 = 112 from by decide, show L8 2 1 = 114 from by decide, show L8 2 2 = 105 from by decide, show L8 2 3 = 99 from by decide, show L8 2 4 = 101 from by decide, show L8 2 5 = 0 from by decide, show L8 2 6 = 0 from by decide, show L8 2 7 = 0 from by decide]
  -- the class's loop
  obtain ⟨n, hn⟩ : ∃ n, N = n + 4 := ⟨N - 4, by omega⟩
  have hL : ∀ X, lp (x_X2_read_B18 N) (n + 4) ((1 : Int32), (0 : Int32), gB) = X → x_X2_read N g = X := by
    intro X hX
    rw [← hX, ← hn]
    unfold x_X2_read
    rw [c1]
    simp only [Option.bind_some, lt]
    rw [← hgA, ← hgB]
  have lpS : ∀ m x, lp (x_X2_read_B18 N) (m + 1) x = x_X2_read_B18 N (lp (x_X2_read_B18 N) m) x := fun m x => rfl
  have i0 : (0 : Int32) + 1 = 1 := by decide
  have i1 : (1 : Int32) + 1 = 2 := by decide
  have i2 : (2 : Int32) + 1 = 3 := by decide
  have o0 : ¬ (1 : Int32) = 0 := by decide
  -- a fault
  have bad : ∀ (m : Nat) (kI : Int32) (gg G : Sg) (U T : SM), FrR g gg → FrT S U → gg 22 = G0 22 → gg 23 = G0 23 → Bad tx sz gg U G T → ∃ (r : Int32) (G' : Sg), lp (x_X2_read_B18 N) (m + 1) (0, kI, G) = some (r, G') ∧ FrR g G' ∧ G' 3 1 = 0 ∧ FrT S T ∧ 0 ≤ r.toInt ∧ ¬ T.1 0 29 = 0 ∧ T.1 0 30 = r := by
    intro m kI gg G U T h1 h2 h3 h4 ⟨f1, f2, f3, q', f4, f5, f6, f7⟩
    have cl := cn_le (stb tx) q'
    have hk := pk_c c3 f4 f5
    have e : x_X2_read_B18 N (lp (x_X2_read_B18 N) m) (0, kI, G) = x_X2_read_b75 N 0 G := by
      unfold x_X2_read_B18
      by_cases c : (3 : Int32) ≤ kI
      · rw [if_pos c]
      · rw [if_neg c, if_pos rfl]
    rw [lpS, e, c_end 0 f6 (by omega), if_neg (fun z => z.1 rfl)]
    have g23 : G 23 = G0 23 := (f1.1 23 (by omega)).trans h4
    refine ⟨_, _, rfl, FrR_t h1 (FrR_t (FrR_c f1) (Gend_f G)), ?_, ⟨fun j hj => (f2.1 j hj).trans (h2.1 j hj), fun k hk => (f2.2 k (by omega)).trans (h2.2 k hk)⟩, ?_, f3, ?_⟩
    · show up _ 3 _ 3 1 = _
      rw [up_s, upd_s]
    · rw [g23, hk]; omega
    · rw [g23]; exact i_eq.mpr (by rw [f7, hk])
  have r1 := part_lk (N := N) hN (k := 0) (by omega) (wI := 0) rfl (PRE_25 P0 (upd (gB 25) 0 (gB 3 7)))
  rcases r1 with ⟨G1, T1, v0, a1, a2, a3⟩ | ⟨G1, T1, v0, a1, a2, a3⟩
  · -- the first part is good
    obtain ⟨q1, P1, _⟩ := good_pre (PRE_25 P0 (upd (gB 25) 0 (gB 3 7))) a3
    have r2 := part_lk (N := N) hN (k := 1) (by omega) (wI := 1) rfl (PRE_25 P1 (upd (G1 25) 1 (G1 3 7)))
    have f1 : FrR g G1 := FrR_t FB (FrR_t (FrR_25 gB _) (FrR_c a3.1))
    have t1 : FrT S T1 := ⟨fun j hj => (a3.2.1.1 j hj).trans (F0.1 j hj), fun k hk => (a3.2.1.2 k (by omega)).trans (F0.2 k hk)⟩
    rcases r2 with ⟨G2, T2, v1, b1, b2, b3⟩ | ⟨G2, T2, v1, b1, b2, b3⟩
    · obtain ⟨q2, P2, _⟩ := good_pre (PRE_25 P1 (upd (G1 25) 1 (G1 3 7))) b3
      have r3 := part_lk (N := N) hN (k := 2) (by omega) (wI := 2) rfl (PRE_25 P2 (upd (G2 25) 2 (G2 3 7)))
      have f2 : FrR g G2 := FrR_t f1 (FrR_t (FrR_25 G1 _) (FrR_c b3.1))
      have t2 : FrT S T2 := ⟨fun j hj => (b3.2.1.1 j hj).trans (t1.1 j hj), fun k hk => (b3.2.1.2 k (by omega)).trans (t1.2 k hk)⟩
      rcases r3 with ⟨G3, T3, v2, d1, d2, d3⟩ | ⟨G3, T3, v2, d1, d2, d3⟩
      · obtain ⟨q3, P3, _⟩ := good_pre (PRE_25 P2 (upd (G2 25) 2 (G2 3 7))) d3
        have f3 : FrR g G3 := FrR_t f2 (FrR_t (FrR_25 G2 _) (FrR_c d3.1))
        have t3 : FrT S T3 := ⟨fun j hj => (d3.2.1.1 j hj).trans (t2.1 j hj), fun k hk => (d3.2.1.2 k (by omega)).trans (t2.2 k hk)⟩
        have hc3 := P3.2.2.2.2.1
        obtain ⟨z1, z2, z3⟩ := cn_sz P3.2.1
        have eL : x_X2_read N g = some ((if ¬ (1 : Int32) = 0 ∧ G3 22 (cn (stb tx) q3) = 21 then -1 else G3 23 (cn (stb tx) q3)), Gend G3) := by
          refine hL _ ?_
          rw [lpS, rb_k (k := 0) rfl (by omega) a1, if_neg o0, i0, lpS, rb_k (k := 1) rfl (by omega) b1, if_neg o0, i1, lpS, rb_k (k := 2) rfl (by omega) d1, if_neg o0, i2, lpS]
          have : x_X2_read_B18 N (lp (x_X2_read_B18 N) n) (1, 3, G3) = x_X2_read_b75 N 1 G3 := by
            unfold x_X2_read_B18
            rw [if_pos (show (3 : Int32) ≤ 3 by decide)]
          rw [this]
          exact c_end 1 hc3 (by omega)
        have eM : x_X8_read N t w S = x_X8_read_b126 N w v0 v1 v2 T3 := by
          refine hM _ ?_
          rw [e0, ba a2]
          rw [if_pos P1.2.1.2.1, e1, ba b2]
          unfold x_X8_read_b92
          rw [if_pos P2.2.1.2.1, e2, ba d2]
        have g22 : G3 22 = G0 22 := P3.2.2.1
        have g23 : G3 23 = G0 23 := P3.2.2.2.1
        have k25 : (x_X8_isWord N 0 0 0 0 0 0 0 0 T3 = x_X8_isWord N 0 0 0 0 0 0 0 0 T3) := rfl
        have hend : T3.1 0 25 = 0 ↔ G0 22 (cn (stb tx) q3) = 21 := by
          have tc := tok_c c3 (At_q P3.2.1) P3.2.1.2.2.2.1
          rcases P3.2.1.2.2.2.2 with ⟨x1, x2, _⟩ | ⟨x1, _, x2, _⟩ | ⟨x1, _, e, _, _, x2, _⟩ | ⟨x1, _, _, x2, _⟩ | ⟨x1, _, _, x2⟩
          · rcases tc with ⟨y1, _⟩ | ⟨_, y2⟩
            · omega
            · exact ⟨fun _ => y2, fun _ => x2⟩
          all_goals (
            have ne : ¬ T3.1 0 25 = 0 := by
              rw [x2]
              first | decide | (split <;> decide)
            refine ⟨fun z => absurd z ne, fun z => ?_⟩
            rcases tc with ⟨_, y2⟩ | ⟨y1, _⟩
            · exfalso
              have h21 : (21 : Int32).toInt = 21 := by decide
              have h2021 : ¬ (21 : Int32) = 20 := by decide
              rw [z] at y2
              rcases TC_c y2 with c | c | c | c
              · omega
              · omega
              · exact h2021 c
              · omega
            · omega)
        rw [eL, eM, g22, g23]
        unfold x_X8_read_b126
        rw [if_pos P3.2.1.2.1]
        by_cases ce : G0 22 (cn (stb tx) q3) = 21
        · rw [if_pos ⟨o0, ce⟩, if_pos (hend.mpr ce), m_b146]
          refine ⟨_, _, _, _, rfl, rfl, FrR_t f3 (Gend_f G3), by show up _ 3 _ 3 1 = _; rw [up_s, upd_s], t3, Or.inl ⟨rfl, P3.2.1.2.1, ?_⟩⟩
          obtain ⟨ya1, ya2, p1, wa, wb, ya3, ya4, ya5, ya6, ya7, ya8, ya9, ya10, ya11, ya12⟩ := a3
          obtain ⟨yb1, yb2, p2, wc, wd, yb3, yb4, yb5, yb6, yb7, yb8, yb9, yb10, yb11, yb12⟩ := b3
          obtain ⟨yd1, yd2, p3, we, wf, yd3, yd4, yd5, yd6, yd7, yd8, yd9, yd10, yd11, yd12⟩ := d3
          rw [up_n _ _ (by omega)] at ya6 yb6 yd6
          have x24 : Gend G3 24 = G3 24 := by
            show up _ 3 _ 24 = _
            rw [up_n _ _ (by omega), up_n _ _ (by omega)]
          have x25 : Gend G3 25 = upd (G3 25) 3 (G3 3 7) := by
            show up _ 3 _ 25 = _
            rw [up_n _ _ (by omega), up_s]
          have d25 : G3 25 = upd (G2 25) 2 (G2 3 7) := by rw [yd1.1 25 (by omega), up_s]
          have b25 : G2 25 = upd (G1 25) 1 (G1 3 7) := by rw [yb1.1 25 (by omega), up_s]
          have a25 : G1 25 = upd (gB 25) 0 (gB 3 7) := by rw [ya1.1 25 (by omega), up_s]
          have ew1 : wc = wb := by omega
          have ew2 : we = wd := by omega
          subst ew1
          subst ew2
          obtain ⟨u, u1, u2⟩ := P3.2.2.2.2.2.1
          refine ⟨wa, wc, we, wf, v0, v1, v2, ?_, ?_, ?_, ?_, ya8, yb8, yd8, by omega, ?_, ?_, ?_, rfl⟩
          · rw [x25, upd_n _ _ (by omega), d25, upd_n _ _ (by omega), b25, upd_n _ _ (by omega), a25, upd_s]; exact ya6
          · rw [x25, upd_n _ _ (by omega), d25, upd_n _ _ (by omega), b25, upd_s]; exact yb6
          · rw [x25, upd_n _ _ (by omega), d25, upd_s]; exact yd6
          · rw [x25, upd_s]; exact yd7
          · rw [x24]
            refine EV_n (EV_c ya12 (fun i ia ib => ?_)) (fun k hk => F0.2 _ (by omega))
            rw [yd11 i (by omega), up_n _ _ (by omega), yb11 i ib, up_n _ _ (by omega)]
          · rw [x24]
            refine EV_n (EV_c yb12 (fun i ia ib => ?_)) (fun k hk => t1.2 _ (by omega))
            rw [yd11 i ib, up_n _ _ (by omega)]
          · rw [x24]
            exact EV_n yd12 (fun k hk => t2.2 _ (by omega))
        · rw [if_neg (fun z => ce z.2), if_neg (fun z => ce (hend.mp z))]
          obtain ⟨T4, y1, y2, y3, y4, y5⟩ := m_fail (N := N) P3.2.1.2.1
          rw [y1]
          simp only [Option.bind_some]
          rw [m_b146]
          have hk := pk_c c3 (At_q P3.2.1) P3.2.1.2.2.2.1
          refine ⟨_, _, _, _, rfl, rfl, FrR_t f3 (Gend_f G3), by show up _ 3 _ 3 1 = _; rw [up_s, upd_s], ⟨fun j hj => (y2.1 j hj).trans (t3.1 j hj), fun k hk => (y2.2 k (by omega)).trans (t3.2 k hk)⟩, Or.inr ⟨by omega, by rw [y3]; decide, ?_⟩⟩
          rw [y4]
          exact i_eq.mpr (by rw [hk]; exact P3.2.1.2.2.1)
      · obtain ⟨r, G', z1, z2, z3, z4, z5, z6, z7⟩ := bad n (2 + 1) (up G2 25 (upd (G2 25) 2 (G2 3 7))) G3 T2 T3 (FrR_t f2 (FrR_25 G2 _)) t2 (by rw [up_n _ _ (by omega)]; exact P2.2.2.1) (by rw [up_n _ _ (by omega)]; exact P2.2.2.2.1) d3
        have eL : x_X2_read N g = some (r, G') := by
          refine hL _ ?_
          rw [lpS, rb_k (k := 0) rfl (by omega) a1, if_neg o0, i0, lpS, rb_k (k := 1) rfl (by omega) b1, if_neg o0, i1, lpS, rb_k (k := 2) rfl (by omega) d1, if_pos rfl]
          exact z1
        obtain ⟨v, hv⟩ : ∃ v, x_X8_read N t w S = some (v, T3) := by
          have : x_X8_read N t w S = x_X8_read_b126 N w v0 v1 v2 T3 := by
            refine hM _ ?_
            rw [e0, ba a2]
            rw [if_pos P1.2.1.2.1, e1, ba b2]
            unfold x_X8_read_b92
            rw [if_pos P2.2.1.2.1, e2, ba d2]
          rw [this]
          unfold x_X8_read_b126
          rw [if_neg d3.2.2.1, m_b146]
          exact ⟨_, rfl⟩
        exact ⟨r, G', v, T3, eL, hv, z2, z3, z4, Or.inr ⟨z5, z6, z7⟩⟩
    · obtain ⟨r, G', z1, z2, z3, z4, z5, z6, z7⟩ := bad (n + 1) (1 + 1) (up G1 25 (upd (G1 25) 1 (G1 3 7))) G2 T1 T2 (FrR_t f1 (FrR_25 G1 _)) t1 (by rw [up_n _ _ (by omega)]; exact P1.2.2.1) (by rw [up_n _ _ (by omega)]; exact P1.2.2.2.1) b3
      have eL : x_X2_read N g = some (r, G') := by
        refine hL _ ?_
        rw [lpS, rb_k (k := 0) rfl (by omega) a1, if_neg o0, i0, lpS, rb_k (k := 1) rfl (by omega) b1, if_pos rfl]
        exact z1
      obtain ⟨v, hv⟩ : ∃ v, x_X8_read N t w S = some (v, T2) := by
        obtain ⟨v, hv⟩ := m_b92_bad (N := N) b3.2.2.1 w v0 v1
        refine ⟨v, hM _ ?_⟩
        rw [e0, ba a2]
        rw [if_pos P1.2.1.2.1, e1, ba b2]
        exact hv
      exact ⟨r, G', v, T2, eL, hv, z2, z3, z4, Or.inr ⟨z5, z6, z7⟩⟩
  · obtain ⟨r, G', z1, z2, z3, z4, z5, z6, z7⟩ := bad (n + 2) (0 + 1) (up gB 25 (upd (gB 25) 0 (gB 3 7))) G1 T0 T1 (FrR_t FB (FrR_25 gB _)) F0 (by rw [up_n _ _ (by omega)]; exact B22) (by rw [up_n _ _ (by omega)]; exact B23) a3
    have eL : x_X2_read N g = some (r, G') := by
      refine hL _ ?_
      rw [lpS, rb_k (k := 0) rfl (by omega) a1, if_pos rfl]
      exact z1
    obtain ⟨v, hv⟩ : ∃ v, x_X8_read N t w S = some (v, T1) := by
      obtain ⟨v, hv⟩ := m_b92_bad (N := N) a3.2.2.1 w v0 0
      refine ⟨v, hM _ ?_⟩
      rw [e0, ba a2]
      rw [if_neg a3.2.2.1]
      exact hv
    exact ⟨r, G', v, T1, eL, hv, z2, z3, z4, Or.inr ⟨z5, z6, z7⟩⟩
