theorem m_bestFor {N : Nat} (hN : 200 < N) {val : Vl} {g : Sg} {S : SM} (h : Inv (TXs N) g S) (hr : Rl N val g S) {S' : SM} (hc : Cs S S') {w : Nat} {wI : Int32} (hw : w ≤ 2) (hwI : wI.toInt = w) : ∃ r T, x_X8_bestFor N wI S' = some (r, T) ∧ Cs S T ∧ FtV (ft (Sb (g 15)) (hb val g w) (20 * (g 1 4).toInt.toNat)) (hb val g w) (-1) r (T.1 0 38) := by
  obtain ⟨k1, k2, k3⟩ := mk5 h
  have em : (20 * S.1 0 15).toInt = 20 * (g 1 4).toInt := by rw [← k1]; exact mul_l (by decide) rfl (by omega)
  unfold x_X8_bestFor
  simp only [lt]
  obtain ⟨⟨r, T⟩, t1, t2, t3⟩ := lp_tot (F := x_X8_bestFor_B9 N) (fun y => 101 - y.2.2.1.toInt.toNat) (fun y => y.1 = wI ∧ 0 ≤ y.2.2.1.toInt ∧ y.2.2.1.toInt ≤ 20 * (g 1 4).toInt ∧ Cs S y.2.2.2 ∧ FtV (ft (Sb (g 15)) (hb val g w) y.2.2.1.toInt.toNat) (hb val g w) (-1) y.2.1 (y.2.2.2.1 0 38)) (fun _ r => Cs S r.2 ∧ FtV (ft (Sb (g 15)) (hb val g w) (20 * (g 1 4).toInt.toNat)) (hb val g w) (-1) r.1 (r.2.1 0 38)) (by
    intro hh ⟨y1, b, s, X⟩ ⟨j1, j2, j3, j4, j5⟩ ih
    have i1 : y1 = wI := j1
    have i2 : 0 ≤ s.toInt := j2
    have i3 : s.toInt ≤ 20 * (g 1 4).toInt := j3
    have i4 : Cs S X := j4
    have i5 : FtV (ft (Sb (g 15)) (hb val g w) s.toInt.toNat) (hb val g w) (-1) b (X.1 0 38) := j5
    clear j1 j2 j3 j4 j5
    subst i1
    have q8 := i4.1 8 (by omega)
    unfold x_X8_bestFor_B9
    simp only [i_le]
    rw [i4.2 15 (by omega), em]
    by_cases c1 : 20 * (g 1 4).toInt ≤ s.toInt
    · rw [if_pos c1]
      rw [show s.toInt.toNat = 20 * (g 1 4).toInt.toNat by omega] at i5
      exact ⟨_, rfl, i4, i5⟩
    · have e3 := inc1 (x := s) (by omega)
      have hs : 0 ≤ s.toInt ∧ s.toInt < 20 * (g 1 4).toInt := by omega
      rw [if_neg c1, m_stk (by rw [q8]; exact Kg_m h) (by omega), q8, Sb_cm h (by omega)]
      simp only [Option.bind_some, b2_0]
      have go : ∀ (b' : Int32) (X' : SM), Cs S X' → FtV (ft (Sb (g 15)) (hb val g w) (s.toInt.toNat + 1)) (hb val g w) (-1) b' (X'.1 0 38) → ∃ r, x_X8_bestFor_b82 N hh y1 b' s X' = some r ∧ Cs S r.2 ∧ FtV (ft (Sb (g 15)) (hb val g w) (20 * (g 1 4).toInt.toNat)) (hb val g w) (-1) r.1 (r.2.1 0 38) := by
        intro b' X' t1 t2
        unfold x_X8_bestFor_b82
        simp only [lt]
        exact ih (y1, b', s + 1, X') ⟨rfl, by show 0 ≤ (s + 1).toInt; omega, by show (s + 1).toInt ≤ _; omega, t1, by show FtV (ft _ _ (s + 1).toInt.toNat) _ _ _ _; rw [show (s + 1).toInt.toNat = s.toInt.toNat + 1 by omega]; exact t2⟩ (by show 101 - (s + 1).toInt.toNat < 101 - s.toInt.toNat; omega)
      have sn : s.toInt = (s.toInt.toNat : Nat) := by omega
      have es := ofI_i i2
      have m1 : (-1 : Int32).toInt = -1 := by decide
      by_cases c2 : Sb (g 15) s.toInt.toNat = true
      · rw [if_neg (fun z => z c2)]
        -- from the value on
        have fin : ∀ (p q : Int32) (X' : SM), Cs S X' → X'.1 0 38 = X.1 0 38 → (q + p).toInt = hb val g w s.toInt.toNat → ∃ r, x_X8_bestFor_b57 N hh y1 b s p q X' = some r ∧ Cs S r.2 ∧ FtV (ft (Sb (g 15)) (hb val g w) (20 * (g 1 4).toInt.toNat)) (hb val g w) (-1) r.1 (r.2.1 0 38) := by
          intro p q X' t1 t2 t3
          unfold x_X8_bestFor_b57
          simp only [lt]
          have set : FtV (ft (Sb (g 15)) (hb val g w) (s.toInt.toNat + 1)) (hb val g w) (-1) s (q + p) → ∃ r, x_X8_bestFor_b74 N hh y1 s (q + p) X' = some r ∧ Cs S r.2 ∧ FtV (ft (Sb (g 15)) (hb val g w) (20 * (g 1 4).toInt.toNat)) (hb val g w) (-1) r.1 (r.2.1 0 38) := by
            intro hf
            unfold x_X8_bestFor_b74
            simp only [lt]
            refine go s _ ⟨fun j hj => ?_, fun k hk => ?_⟩ ?_
            · show up X'.1 0 _ j = _
              rw [up_n _ _ hj]; exact t1.1 j hj
            · show upd (X'.1 0) 38 (q + p) k = _
              rw [upd_n _ _ (by omega)]; exact t1.2 k hk
            · show FtV _ _ _ _ (upd (X'.1 0) 38 (q + p) 38)
              rw [upd_s]; exact hf
          rw [ft_1, if_pos c2] at set go
          simp only [i_le]
          cases hf : ft (Sb (g 15)) (hb val g w) s.toInt.toNat with
          | none =>
            rw [hf] at i5 set go
            rw [if_pos (i5.1 rfl).1]
            exact set (FtV_s sn t3)
          | some y =>
            rw [hf] at i5 set go
            obtain ⟨w1, w2⟩ := i5.2 y rfl
            rw [if_neg (fun z => by rw [z] at w1; omega), t2]
            by_cases c4 : (X.1 0 38).toInt ≤ (q + p).toInt
            · rw [if_pos c4]
              refine go b X' t1 ?_
              show FtV (if _ then _ else _) _ _ _ _
              rw [if_neg (by omega), t2]; exact i5
            · rw [if_neg c4]
              refine set ?_
              show FtV (if _ then _ else _) _ _ _ _
              rw [if_pos (by omega)]; exact FtV_s sn t3
        have w0 : 0 ≤ (RBv val g s 0).toInt ∧ (RBv val g s 0).toInt ≤ 99 := wi_b _
        have w1 : 0 ≤ (RBv val g s 1).toInt ∧ (RBv val g s 1).toInt ≤ 99 := wi_b _
        have z0 : (0 : Int32).toInt = 0 := by decide
        have y0 : y1 = 0 ↔ w = 0 := by rw [i_eq, hwI, z0]; omega
        have o1 : (1 : Int32).toInt = 1 := by decide
        have y1' : y1 = 1 ↔ w = 1 := by rw [i_eq, hwI, o1]; omega
        unfold x_X8_bestFor_b43
        by_cases ca : y1 = 1
        · rw [if_pos ca]
          have cw := y1'.mp ca
          rw [if_neg (fun z => by have := y0.mp z; omega)]
          obtain ⟨T, r1, r2⟩ := m_rub h hr i4 (x := s) (a := 1) hs
          rw [r1]
          simp only [Option.bind_some]
          refine fin _ _ T (FrN_Cs i4 r2) (r2.2 38 (by omega)) ?_
          unfold hb
          rw [es, cw, if_pos rfl, if_neg (by decide), i_add (by omega) (by omega)]; omega
        · rw [if_neg ca]
          have cw : ¬ w = 1 := fun z => ca (y1'.mpr z)
          obtain ⟨T, r1, r2⟩ := m_rub h hr i4 (x := s) (a := 0) hs
          rw [r1]
          simp only [Option.bind_some]
          have hT := FrN_Cs i4 r2
          by_cases cb : y1 = 0
          · rw [if_pos cb]
            have cw0 := y0.mp cb
            refine fin _ _ T hT (r2.2 38 (by omega)) ?_
            unfold hb
            rw [es, cw0, if_neg (by decide), if_pos rfl, i_add (by omega) (by omega)]; omega
          · rw [if_neg cb]
            have cw0 : ¬ w = 0 := fun z => cb (y0.mpr z)
            obtain ⟨U, r3, r4⟩ := m_rub h hr hT (x := s) (a := 1) hs
            rw [r3]
            simp only [Option.bind_some]
            refine fin _ _ U (FrN_Cs hT r4) ((r4.2 38 (by omega)).trans (r2.2 38 (by omega))) ?_
            unfold hb
            rw [es, if_neg cw, if_neg cw0, i_add (by omega) (by omega)]; omega
      · rw [if_pos c2]
        refine go b X i4 ?_
        rw [ft_1, if_neg c2]; exact i5) N (wI, -1, 0, (up S'.1 0 (upd (S'.1 0) 38 (-1)), S'.2)) ⟨rfl, Int.le_refl 0, by show (0 : Int32).toInt ≤ _; simp only [Int32.reduceToInt]; omega, ⟨fun j hj => (up_n _ _ hj).trans (hc.1 j hj), fun k hk => (upd_n _ _ (by omega)).trans (hc.2 k hk)⟩, FtV_n⟩ (by show 101 - _ < N; omega)
  exact ⟨r, T, t1, t2, t3⟩
theorem ft_none {B : Nat → Bool} {h h' : Nat → Nat} {n : Nat} (e : ft B h n = none) : ft B h' n = none :=
  ft_no n (fun i hi => by
    cases hb : B i with
    | false => rfl
    | true => exact absurd e (ft_some hb n hi))
theorem o_pair {N : Nat} (hN : 1000 < N) {g : Sg} {S : SM} (h : Inv (TXs N) g S) (a : Int32) : Sim (TXs N) (x_X7_pair N a g) (x_X8_pair N a S) := by
  obtain ⟨k1, k2, k3⟩ := mk5 h
  obtain ⟨val, hr⟩ := rule_val h
  unfold x_X7_pair x_X8_pair
  simp only [m_in, Option.bind_some, i_l64, b2_0, i_lt, i_le, Int32.reduceToInt, Int64.reduceToInt]
  by_cases h1 : 0 ≤ a.toInt ∧ a.toInt ≤ 5
  · rw [if_neg (show ¬ a.toInt < 0 by omega), if_pos h1.2, if_neg (show ¬ ¬ (0 ≤ a.toInt ∧ a.toInt ≤ 5) from fun z => z h1)]
    obtain ⟨G, g1, g2, g3, g4, g5⟩ := c_tryAll (N := N) (by omega) h hr
    have cs0 : Cs S S := ⟨fun _ _ => rfl, fun _ _ => rfl⟩
    obtain ⟨r2, T2, a1, a2, a3⟩ := m_bestFor (N := N) (by omega) h hr cs0 (w := 2) (wI := 2) (by omega) (by decide)
    obtain ⟨r0, T0, b1, b2, b3⟩ := m_bestFor (N := N) (by omega) h hr a2 (w := 0) (wI := 0) (by omega) (by decide)
    obtain ⟨r1, T1, d1, d2, d3⟩ := m_bestFor (N := N) (by omega) h hr b2 (w := 1) (wI := 1) (by omega) (by decide)
    rw [g1, a1]
    simp only [Option.bind_some, lt]
    have hI : ∀ (X : Sg) (T : SM), Cg g X → Cs S T → Inv (TXs N) X T := fun X T hX hT => inv_k h (fun i hi => hX i (by omega)) (by rw [hX 3 (by omega)]) (fun i hi => hT.1 i (by omega)) (fun k hk => hT.2 k (by omega))
    have m1 : (-1 : Int32).toInt = -1 := by decide
    have z0 : (0 : Int32).toInt = 0 := by decide
    rw [b1]
    simp only [Option.bind_some]
    rw [d1]
    simp only [Option.bind_some]
    cases hf : ft (Sb (g 15)) (hb val g 2) (20 * (g 1 4).toInt.toNat) with
    | none =>
      have hf0 := ft_none (h' := hb val g 0) hf
      have hf1 := ft_none (h' := hb val g 1) hf
      rw [hf] at g3 a3
      rw [hf0] at b3
      rw [hf1] at d3
      obtain ⟨e1, e2⟩ := a3.1 rfl
      rw [(g3.1 rfl).1, e1, e2, (b3.1 rfl).1, (d3.1 rfl).1, if_pos rfl]
      rcases six_i h1 with rfl | rfl | rfl | rfl | rfl | rfl
      · exact Sim.mk (hI G T2 g2 a2)
      · exact Sim.mk (hI G T2 g2 a2)
      · exact Sim.mk (hI G T1 g2 d2)
      · exact Sim.mk (hI G T1 g2 d2)
      · exact Sim.mk (hI G T1 g2 d2)
      · exact Sim.mk (hI G T1 g2 d2)
    | some y =>
      obtain ⟨yl, yb⟩ := ft_lt hf
      rw [hf] at g3 a3
      obtain ⟨e1, e2⟩ := g3.2 y rfl
      obtain ⟨e3, e4⟩ := a3.2 y rfl
      obtain ⟨y0, hy0⟩ : ∃ y0, ft (Sb (g 15)) (hb val g 0) (20 * (g 1 4).toInt.toNat) = some y0 := by
        cases hq : ft (Sb (g 15)) (hb val g 0) (20 * (g 1 4).toInt.toNat) with
        | none => exact absurd hq (ft_some yb _ yl)
        | some q => exact ⟨q, rfl⟩
      obtain ⟨y1, hy1⟩ : ∃ y1, ft (Sb (g 15)) (hb val g 1) (20 * (g 1 4).toInt.toNat) = some y1 := by
        cases hq : ft (Sb (g 15)) (hb val g 1) (20 * (g 1 4).toInt.toNat) with
        | none => exact absurd hq (ft_some yb _ yl)
        | some q => exact ⟨q, rfl⟩
      rw [hy0] at g4 b3
      rw [hy1] at g5 d3
      obtain ⟨f1, f2⟩ := g4.2 y0 rfl
      obtain ⟨f3, f4⟩ := b3.2 y0 rfl
      obtain ⟨u1, u2⟩ := g5.2 y1 rfl
      obtain ⟨u3, u4⟩ := d3.2 y1 rfl
      have y0l := (ft_lt hy0).1
      have y1l := (ft_lt hy1).1
      have l2 := hb_l val g 2 y
      have l0 := hb_l val g 0 y0
      have l1 := hb_l val g 1 y1
      have n7 : ¬ G 7 0 = -1 := fun z => by rw [z] at e1; omega
      have q1 : G 7 0 = r2 := i_eq.mpr (by omega)
      have q2 : G 7 1 = T2.1 0 38 := i_eq.mpr (by omega)
      have q3 : G 8 0 = r0 := i_eq.mpr (by omega)
      have q4 : G 8 1 = T0.1 0 38 := i_eq.mpr (by omega)
      have q5 : G 9 0 = r1 := i_eq.mpr (by omega)
      have q6 : G 9 1 = T1.1 0 38 := i_eq.mpr (by omega)
      rw [if_neg n7]
      rcases six_i h1 with rfl | rfl | rfl | rfl | rfl | rfl
      · show Sim (TXs N) (some (G 7 0, G)) (some (r2, T2))
        rw [q1]; exact Sim.mk (hI G T2 g2 a2)
      · show Sim (TXs N) (some (G 7 1, G)) (some (T2.1 0 38, T2))
        rw [q2]; exact Sim.mk (hI G T2 g2 a2)
      · show Sim (TXs N) (some (G 8 0, G)) (some (r0, T1))
        rw [q3]; exact Sim.mk (hI G T1 g2 d2)
      · show Sim (TXs N) (some (G 9 0, G)) (some (r1, T1))
        rw [q5]; exact Sim.mk (hI G T1 g2 d2)
      · have nr : ¬ r2 = -1 := by rw [← q1]; exact n7
        have ee : (if (2 : Int) ≤ (4 : Int32).toInt then (if (4 : Int) ≤ (4 : Int32).toInt then (if r2 = -1 then (if (4 : Int32) = 4 then some ((-1 : Int32), T1) else some (0, T1)) else (if (4 : Int32) = 4 then some (T0.1 0 38 + T1.1 0 38, T1) else none)) else none) else none) = some (T0.1 0 38 + T1.1 0 38, T1) := by
          rw [if_pos (by decide), if_pos (by decide), if_neg nr, if_pos rfl]
        show Sim (TXs N) (some (G 8 1 + G 9 1, G)) (if r2 = -1 then some ((-1 : Int32), T1) else some (T0.1 0 38 + T1.1 0 38, T1))
        rw [if_neg nr, q4, q6]
        exact Sim.mk (hI G T1 g2 d2)
      · have nr : ¬ r2 = -1 := by rw [← q1]; exact n7
        show Sim (TXs N) ((x_X7_worth N G).bind fun q6 => some (q6.1, q6.2)) (if r2 = -1 then some ((0 : Int32), T1) else (x_X8_asksFor N 2 r2 0 0 T1).bind fun q13 => (x_X8_asksFor N 2 r0 0 0 q13.2).bind fun q14 => (x_X8_asksFor N 2 r1 0 0 q14.2).bind fun q15 => some ((((T2.1 0 38 - (T0.1 0 38 + T1.1 0 38)) + q13.1) - ((q14.1 + q15.1) / 2)), q15.2))
        rw [if_neg nr]
        obtain ⟨U1, w1, w2⟩ := m_asks h hr d2 (w := 2) (x := r2) (p := 0) (a := 0) (by decide) (by omega)
        rw [w1]
        simp only [Option.bind_some]
        obtain ⟨U2, w3, w4⟩ := m_asks h hr (FrN_Cs d2 w2) (w := 2) (x := r0) (p := 0) (a := 0) (by decide) (by omega)
        rw [w3]
        simp only [Option.bind_some]
        obtain ⟨U3, w5, w6⟩ := m_asks h hr (FrN_Cs (FrN_Cs d2 w2) w4) (w := 2) (x := r1) (p := 0) (a := 0) (by decide) (by omega)
        rw [w5]
        simp only [Option.bind_some]
        unfold x_X7_worth
        simp only [lt]
        rw [q3]
        obtain ⟨X1, p1, p2⟩ := c_price h hr g2 (x := r0) (by omega)
        rw [p1]
        simp only [Option.bind_some]
        have c1 : Cg g X1 := fun j hj => (p2 j (by omega) (by omega)).trans (g2 j hj)
        rw [p2 9 (by omega) (by omega), q5]
        obtain ⟨X2, p3, p4⟩ := c_price h hr c1 (x := r1) (by omega)
        rw [p3]
        simp only [Option.bind_some]
        have c2 : Cg g X2 := fun j hj => (p4 j (by omega) (by omega)).trans (c1 j hj)
        rw [p4 7 (by omega) (by omega), p2 7 (by omega) (by omega), q1]
        obtain ⟨X3, p5, p6⟩ := c_price h hr c2 (x := r2) (by omega)
        rw [p5]
        simp only [Option.bind_some]
        have c3 : Cg g X3 := fun j hj => (p6 j (by omega) (by omega)).trans (c2 j hj)
        have sub : ∀ u v w : Int32, u - v - w = u - (v + w) := fun u v w => by
          rw [Int32.sub_eq_add_neg, Int32.sub_eq_add_neg, Int32.sub_eq_add_neg, Int32.neg_add, Int32.sub_eq_add_neg, Int32.add_assoc]
        rw [q2, q4, q6, sub]
        exact Sim.mk (hI X3 U3 c3 (FrN_Cs (FrN_Cs (FrN_Cs d2 w2) w4) w6))
  · rw [if_pos (show ¬ (0 ≤ a.toInt ∧ a.toInt ≤ 5) from h1)]
    unfold x_X7_pair_b9
    by_cases h2 : a.toInt < 0
    · rw [if_pos h2]; exact Sim.mk h
    · rw [if_neg h2, if_neg (show ¬ a.toInt ≤ 5 by omega)]; exact Sim.mk h
