theorem c_choose {N : Nat} (hN : 200 < N) {g : Sg} {lo hi : Int} (hR : Rg (g 12) (g 13) (g 14) (g 1 4).toInt) (hm : 0 ≤ (g 1 4).toInt ∧ (g 1 4).toInt ≤ 5) (hk : Kg (g 15)) (hb : SpB lo hi) (e0 : (g 6 0).toInt = lo) (e1 : (g 6 1).toInt = hi) : ∃ G, x_X7_chooseNext N g = some G ∧ (∀ j, j ≠ 7 → G j = g j) ∧ FtV (ft (Sb (g 15)) (AL (g 12) (g 13) (g 14) (inS lo hi)) (20 * (g 1 4).toInt.toNat)) (AL (g 12) (g 13) (g 14) (inS lo hi)) 1000000 (G 7 0) (G 7 1) := by
  obtain ⟨H, hH⟩ : ∃ H, H = AL (g 12) (g 13) (g 14) (inS lo hi) := ⟨_, rfl⟩
  obtain ⟨B, hB⟩ : ∃ B, B = Sb (g 15) := ⟨_, rfl⟩
  rw [← hH, ← hB]
  unfold x_X7_chooseNext
  obtain ⟨g1, d1, o1, z0, z1⟩ := c_clear7 N g
  rw [d1]
  simp only [Option.bind_some]
  refine lp_tot (F := x_X7_chooseNext_B9 N) (fun x => 101 - x.1.toInt.toNat) (fun x => 0 ≤ x.1.toInt ∧ x.1.toInt ≤ 20 * (g 1 4).toInt ∧ (∀ j, j ≠ 7 → x.2 j = g j) ∧ FtV (ft B H x.1.toInt.toNat) H 1000000 (x.2 7 0) (x.2 7 1)) (fun _ G => (∀ j, j ≠ 7 → G j = g j) ∧ FtV (ft B H (20 * (g 1 4).toInt.toNat)) H 1000000 (G 7 0) (G 7 1)) ?_ N (0, g1) ⟨Int.le_refl 0, by show (0 : Int32).toInt ≤ _; simp only [Int32.reduceToInt]; omega, o1, by show FtV none H 1000000 (g1 7 0) (g1 7 1); rw [z0, z1]; exact FtV_n⟩ (by show 101 - _ < N; omega)
  intro hh ⟨s, X⟩ ⟨j1, j2, j3, j4⟩ ih
  have i1 : 0 ≤ s.toInt := j1
  have i2 : s.toInt ≤ 20 * (g 1 4).toInt := j2
  have i3 : ∀ j, j ≠ 7 → X j = g j := j3
  have i4 : FtV (ft B H s.toInt.toNat) H 1000000 (X 7 0) (X 7 1) := j4
  clear j1 j2 j3 j4
  have q1 := i3 1 (by omega)
  have q6 := i3 6 (by omega)
  have q12 := i3 12 (by omega)
  have q13 := i3 13 (by omega)
  have q14 := i3 14 (by omega)
  have q15 := i3 15 (by omega)
  unfold x_X7_chooseNext_B9
  obtain ⟨b, b1, b2⟩ := c_shoes (N := N) (g := X) (by rw [q1]; exact hm)
  simp only [b1, Option.bind_some, i_le, b2]
  rw [q1]
  by_cases c1 : 20 * (g 1 4).toInt ≤ s.toInt
  · rw [if_pos c1]
    refine ⟨_, rfl, i3, ?_⟩
    rw [show 20 * (g 1 4).toInt.toNat = s.toInt.toNat by omega]; exact i4
  · have e3 := inc1 (x := s) (by omega)
    rw [if_neg c1, c_stk (by rw [q1]; exact hm) (by rw [q15]; exact hk) (by rw [q1]; omega), q15, ← hB]
    simp only [Option.bind_some, b2_0]
    have st : ft B H (s.toInt.toNat + 1) = if B s.toInt.toNat then (match ft B H s.toInt.toNat with | none => some s.toInt.toNat | some y => if H s.toInt.toNat < H y then some s.toInt.toNat else some y) else ft B H s.toInt.toNat := rfl
    have go : ∀ X' : Sg, (∀ j, j ≠ 7 → X' j = g j) → FtV (ft B H (s.toInt.toNat + 1)) H 1000000 (X' 7 0) (X' 7 1) → ∃ r, x_X7_chooseNext_b51 N hh s X' = some r ∧ (∀ j, j ≠ 7 → r j = g j) ∧ FtV (ft B H (20 * (g 1 4).toInt.toNat)) H 1000000 (r 7 0) (r 7 1) := by
      intro X' t1 t2
      unfold x_X7_chooseNext_b51
      simp only [lt]
      exact ih (s + 1, X') ⟨by show 0 ≤ (s + 1).toInt; omega, by show (s + 1).toInt ≤ _; omega, t1, by show FtV (ft B H (s + 1).toInt.toNat) H _ _ _; rw [show (s + 1).toInt.toNat = s.toInt.toNat + 1 by omega]; exact t2⟩ (by show 101 - (s + 1).toInt.toNat < 101 - s.toInt.toNat; omega)
    by_cases c2 : B s.toInt.toNat = true
    · rw [if_neg (fun z => z c2), c_alike hN (lo := lo) (hi := hi) (mk := (g 1 4).toInt) (by rw [q12, q13, q14]; exact hR) hm.2 (by omega) hb (by rw [q6]; exact e0) (by rw [q6]; exact e1), q12, q13, q14, ← hH]
      simp only [Option.bind_some]
      have hl : H s.toInt.toNat ≤ 100 := by rw [hH]; exact AL_le _ _ _ _ _
      have ev : (Int32.ofInt (H s.toInt.toNat : Nat)).toInt = H s.toInt.toNat := of_i (by omega) (by omega)
      generalize Int32.ofInt (H s.toInt.toNat : Nat) = v at ev ⊢
      obtain ⟨X2, e6, o4, o5, o6⟩ := c_offer7 N s v X
      rw [e6]
      simp only [Option.bind_some]
      refine go X2 (fun j hj => (o4 j hj).trans (i3 j hj)) ?_
      rw [st, if_pos c2]
      have set : ∀ (p q : Int32), p = s → q = v → FtV (some s.toInt.toNat) H 1000000 p q := fun p q hp hq => FtV_s (by rw [hp]; omega) (by rw [hq]; exact ev)
      cases hf : ft B H s.toInt.toNat with
      | none =>
        rw [hf] at i4
        have w := i4.1 rfl
        have w2 := o6 (by rw [w.2]; show v.toInt < 1000000; omega)
        exact set _ _ w2.1 w2.2
      | some y =>
        rw [hf] at i4
        obtain ⟨w1, w2⟩ := i4.2 y rfl
        show FtV (if H s.toInt.toNat < H y then some s.toInt.toNat else some y) H _ _ _
        by_cases c4 : H s.toInt.toNat < H y
        · rw [if_pos c4]
          have w3 := o6 (by omega)
          exact set _ _ w3.1 w3.2
        · rw [if_neg c4, o5 (by omega)]; exact i4
    · rw [if_pos c2]
      refine go X i3 ?_
      rw [st, if_neg c2]; exact i4
theorem o_fetch {TX : TXt} {g : Sg} {S : SM} (h : Inv TX g S) {N : Nat} (hN : 1000 < N) (a w : Int32) : Sim TX (x_X7_fetch N a w g) (x_X8_fetch N a w S) := by
  obtain ⟨k1, k2, k3⟩ := mk5 h
  unfold x_X7_fetch x_X8_fetch
  rw [c_isOne, m_in]
  simp only [Option.bind_some, b2_0, i_l64, i_lt, i_le, Int32.reduceToInt, Int64.reduceToInt]
  by_cases h1 : 0 ≤ a.toInt ∧ a.toInt ≤ 3
  · rw [if_neg (show ¬ ¬ (0 ≤ a.toInt ∧ a.toInt ≤ 3) from fun z => z h1)]
    by_cases h2 : 0 ≤ w.toInt ∧ w.toInt ≤ 1
    · rw [if_neg (show ¬ w.toInt < 0 by omega), if_pos h2.2, if_neg (show ¬ ¬ (0 ≤ w.toInt ∧ w.toInt ≤ 1) from fun z => z h2)]
      obtain ⟨r, r1, r2, r3⟩ := rows_both h (N := N) (by omega) h1
      rw [r1, r2]
      simp only [Option.bind_some]
      by_cases h5 : r = 0
      · rw [if_pos h5, if_pos h5]
        obtain ⟨m, hw⟩ := r3 h5
        have hR : Rg (S.1 5) (S.1 6) (S.1 7) (S.1 0 15).toInt := by rw [← k1]; exact Rg_m h
        have hmk : 0 ≤ (S.1 0 15).toInt ∧ (S.1 0 15).toInt ≤ 5 := by rw [← k1]; exact ⟨k2, k3⟩
        obtain ⟨S1, s1, s2, s3⟩ := m_gathers (N := N) (by omega) hR hmk (Kg_m h)
        rw [s1]
        simp only [Option.bind_some]
        have h' : Inv TX g S1 := inv_k h (fun _ _ => rfl) rfl (fun i hi => s2 i (by omega)) (fun k _ => by rw [s2 0 (by omega)])
        obtain ⟨G, T, lo, hi, e1, o1, sb, z0, z1, t1, t2, t3⟩ := rows_feet h' (N := N) (by omega) h1 hw
        rw [e1, t1]
        simp only [Option.bind_some]
        have hI : Inv TX G T := inv_k (inv_g h' (G := G) (fun i hi => o1 i (by omega))) (fun _ _ => rfl) rfl (fun i hi => t2 i (by omega)) (fun k _ => by rw [t2 0 (by omega)])
        rw [c_size sb z0 z1]
        simp only [Option.bind_some]
        obtain ⟨kk1, kk2, kk3⟩ := mk5 hI
        have hT : Tb T (20 * (T.1 0 15).toInt.toNat) := by
          rw [t2 0 (by omega), s2 0 (by omega)]
          intro x hx hbb f hf
          rw [t2 8 (by omega)] at hbb
          rw [t2 9 (by omega), t2 5 (by omega), t2 6 (by omega), t2 7 (by omega)]
          exact s3 x hx hbb f hf
        obtain ⟨q, U, u1, u2, u3, u4⟩ := m_fetches (N := N) (by omega) (P := inS lo hi) (S := T) (by rw [← kk1]; exact ⟨kk2, kk3⟩) (Kg_m hI) hT t3
        rw [u1]
        simp only [Option.bind_some]
        have hU : Inv TX G U := inv_k hI (fun _ _ => rfl) rfl (fun i hi => u3 i (by omega) (by omega)) (fun k hk => u4 k (by omega))
        have hc := cn_S sb 100 (by omega)
        have hl := cn_le (inS lo hi) 100
        have en : (Int32.ofInt (cn (inS lo hi) 100 : Nat)).toInt = cn (inS lo hi) 100 := of_i (by omega) (by omega)
        by_cases c1 : cn (inS lo hi) 100 = 0
        · rw [if_pos (i_eq.mpr (by rw [en, c1]; rfl))]
          have hno : ∀ f, f < 100 → inS lo hi f = false := by
            intro f hf
            cases hq : inS lo hi f with
            | false => rfl
            | true => have := cn_pos hq 100 hf; omega
          rw [ft_no _ (fun i hi => by show (_ && decide (0 < AL _ _ _ _ i)) = false; rw [AL_0 hno]; exact Bool.and_false _)] at u2
          obtain ⟨v1, v2⟩ := u2.1 rfl
          rw [v1, v2]
          by_cases c2 : w = 0
          · rw [if_pos c2]; exact Sim.mk hU
          · rw [if_neg c2]; exact Sim.mk hU
        · rw [if_neg (fun z => c1 (by have := i_eq.mp z; rw [en] at this; have z0 : (0 : Int32).toInt = 0 := by decide
                                      omega))]
          obtain ⟨V, v1, v2, v3⟩ := c_choose (N := N) (by omega) (Rg_c hI) ⟨kk2, kk3⟩ (Kg_c hI) sb z0 z1
          rw [v1]
          simp only [Option.bind_some]
          have hV : Inv TX V U := inv_g hU (fun i hi => v2 i (by omega))
          obtain ⟨sl, sh⟩ := sb
          have hp : inS lo hi lo.toNat = true := by
            unfold inS
            exact decide_eq_true (by omega)
          have hlo : lo.toNat < 100 := by omega
          have eA : ∀ x : Nat, x < 20 * (G 1 4).toInt.toNat → AL (G 12) (G 13) (G 14) (inS lo hi) x = AL (T.1 5) (T.1 6) (T.1 7) (inS lo hi) x := fun x hx => AL_c (fun f hf => ⟨rfl, (Sy_cm hI (by omega) _).symm⟩)
          have eF := ft_c (B := Sb (G 15)) (h := AL (G 12) (G 13) (G 14) (inS lo hi)) (B2 := fun x => Sb (T.1 8) x && decide (0 < AL (T.1 5) (T.1 6) (T.1 7) (inS lo hi) x)) (h2 := AL (T.1 5) (T.1 6) (T.1 7) (inS lo hi)) (20 * (G 1 4).toInt.toNat) (fun i hi => ⟨by
            show _ = (Sb (T.1 8) i && _)
            rw [decide_eq_true (AL_pos hlo hp), Bool.and_true, Sb_cm hI (by omega)], fun _ => eA i hi⟩)
          rw [← kk1, ← eF.1] at u2
          unfold x_X7_fetch_b67
          cases hf : ft (Sb (G 15)) (AL (G 12) (G 13) (G 14) (inS lo hi)) (20 * (G 1 4).toInt.toNat) with
          | none =>
            rw [hf] at u2 v3
            obtain ⟨w1, w2⟩ := u2.1 rfl
            obtain ⟨w3, w4⟩ := v3.1 rfl
            rw [w1, w2, w3]
            by_cases c2 : w = 0
            · rw [if_pos c2, if_pos c2]; exact Sim.mk hV
            · rw [if_neg c2, if_neg c2, if_pos rfl]; exact Sim.mk hV
          | some y =>
            rw [hf] at u2 v3
            obtain ⟨w1, w2⟩ := u2.2 y rfl
            obtain ⟨w3, w4⟩ := v3.2 y rfl
            have yl := (ft_lt hf).1
            by_cases c2 : w = 0
            · rw [if_pos c2, if_pos c2, show q = V 7 0 from i_eq.mpr (by omega)]; exact Sim.mk hV
            · rw [if_neg c2, if_neg c2, if_neg (fun z => by rw [z] at w3; have : (-1 : Int32).toInt = -1 := by decide
                                                            omega), show U.1 0 34 = V 7 1 from i_eq.mpr (by rw [w2, w4, eA y yl])]
              exact Sim.mk hV
      · rw [if_neg h5, if_neg h5]; exact Sim.mk h
    · rw [if_pos (show ¬ (0 ≤ w.toInt ∧ w.toInt ≤ 1) from h2)]
      by_cases h3 : w.toInt < 0
      · rw [if_pos h3]; exact Sim.mk h
      · rw [if_neg h3, if_neg (show ¬ w.toInt ≤ 1 by omega)]; exact Sim.mk h
  · rw [if_pos h1]
    by_cases h2 : 0 ≤ w.toInt ∧ w.toInt ≤ 1
    · rw [if_neg (show ¬ ¬ (0 ≤ w.toInt ∧ w.toInt ≤ 1) from fun z => z h2)]
      have : x_X8_canBad N a S = some (-2, S) := by
        unfold x_X8_canBad
        rw [m_isSheet]
        simp only [Option.bind_some, b2_0]
        rw [if_pos h1]
      rw [this]
      simp only [Option.bind_some]
      rw [if_neg (by decide)]
      exact Sim.mk h
    · rw [if_pos h2]; exact Sim.mk h
