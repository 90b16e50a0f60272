/-! runs -/
theorem shl0 (b x : Int32) : b ||| ((0 : Int32) <<< x) = b := by rw [Int32.zero_shiftLeft, Int32.or_zero]
theorem Rg_up {kd nb rn : Nat → Int32} {mk : Int} (h : Rg kd nb rn mk) {M : Nat} {v : Int32} (hv : 0 ≤ v.toInt ∧ v.toInt ≤ 5) : Rg (upd kd M v) nb rn mk := by
  intro m hm
  obtain ⟨a1, a2, a3⟩ := h m hm
  refine ⟨?_, a2, a3⟩
  by_cases e : m = M
  · subst e; rw [upd_s]; exact hv
  · rw [upd_n _ _ e]; exact a1
theorem Rg_ur {kd nb rn : Nat → Int32} {mk : Int} (h : Rg kd nb rn mk) {M : Nat} {v : Int32} (hv : -9 ≤ v.toInt ∧ v.toInt ≤ 9) : Rg kd nb (upd rn M v) mk := by
  intro m hm
  obtain ⟨a1, a2, a3⟩ := h m hm
  refine ⟨a1, a2, ?_⟩
  by_cases e : m = M
  · subst e; rw [upd_s]; exact hv
  · rw [upd_n _ _ e]; exact a3
theorem upd_upd (f : Nat → Int32) (M : Nat) (a b : Int32) : upd (upd f M a) M b = upd f M b := by
  funext m
  by_cases e : m = M
  · subst e; rw [upd_s, upd_s]
  · rw [upd_n _ _ e, upd_n _ _ e, upd_n _ _ e]
theorem upd_id (f : Nat → Int32) (M : Nat) : upd f M (f M) = f := by
  funext m
  by_cases e : m = M
  · subst e; rw [upd_s]
  · rw [upd_n _ _ e]
theorem inv_S {TX : TXt} {g : Sg} {S T : SM} (h : Inv TX g S) (t : ∀ i, T.1 i = S.1 i) : Inv TX g T :=
  inv_k h (fun _ _ => rfl) rfl (fun i _ => t i) (fun k _ => by rw [t 0])
theorem o_runs {TX : TXt} {g : Sg} {S : SM} (h : Inv TX g S) {N : Nat} (hN : 1000 < N) (a M f w : Int32) : Sim TX (x_X7_runs N a M f w g) (x_X8_runs N a M f w S) := by
  obtain ⟨k1, k2, k3⟩ := mk5 h
  unfold x_X7_runs x_X8_runs
  rw [c_isOne, m_isSheet]
  simp only [Option.bind_some, b2_0, c_hasMake, m_isMake N M S (by rw [← k1]; exact k2), c_isFoot, m_isFoot, m_in, i_l64, i_lt, i_le, Int32.reduceToInt, Int64.reduceToInt]
  rw [← k1]
  by_cases h1 : 0 ≤ a.toInt ∧ a.toInt ≤ 3
  · rw [if_neg (show ¬ ¬ (0 ≤ a.toInt ∧ a.toInt ≤ 3) from fun z => z h1), if_neg (show ¬ ¬ (0 ≤ a.toInt ∧ a.toInt ≤ 3) from fun z => z h1)]
    by_cases h2 : 0 ≤ M.toInt ∧ M.toInt < (g 1 4).toInt
    · rw [if_neg (show ¬ ¬ (0 ≤ M.toInt ∧ M.toInt < (g 1 4).toInt) from fun z => z h2), if_neg (show ¬ ¬ (0 ≤ M.toInt ∧ M.toInt < (g 1 4).toInt) from fun z => z h2)]
      by_cases h3 : 0 ≤ f.toInt ∧ f.toInt ≤ 99
      · rw [if_neg (show ¬ ¬ (0 ≤ f.toInt ∧ f.toInt ≤ 99) from fun z => z h3), if_neg (show ¬ ¬ (0 ≤ f.toInt ∧ f.toInt ≤ 99) from fun z => z h3)]
        by_cases h4 : 0 ≤ w.toInt ∧ w.toInt ≤ 1
        · rw [if_neg (show ¬ w.toInt < 0 by omega), if_pos h4.2, if_neg (show ¬ ¬ (0 ≤ w.toInt ∧ w.toInt ≤ 1) from fun z => z h4)]
          obtain ⟨r, r1, r2, r3⟩ := rows_both h (N := N) (by omega) h1
          rw [r1, r2]
          simp only [Option.bind_some]
          by_cases h5 : r = 0
          · rw [if_pos h5, if_pos h5]
            obtain ⟨m, ⟨⟨w1, w2, w3⟩, w4⟩⟩ := r3 h5
            have bM : inb M 5 = true := i_inb.mpr ⟨h2.1, by omega⟩
            have eM : M.toNatClampNeg = M.toInt.toNat := rfl
            rw [if_pos bM]
            simp only [lt]
            rw [if_pos bM]
            rw [eM]
            obtain ⟨k, hk⟩ : ∃ k, k = a.toInt.toNat := ⟨_, rfl⟩
            rw [← hk] at w1 w2 w4
            obtain ⟨Q, hQ⟩ : ∃ Q, Q = M.toInt.toNat := ⟨_, rfl⟩
            rw [← hQ]
            have hRm := Rg_m h
            have hRc := Rg_c h
            obtain ⟨c1, c2, c3⟩ := hRc Q (by omega)
            have hH := h.2.2.2.2.2.2.1 k (by omega)
            have hq : S.1 20 k = g 31 k ∧ ∀ i : Nat, (i : Int) < (g 31 k).toInt → g (33 + k) i = S.1 21 (40 * k + i) := by
              rcases hH with ⟨m1, _⟩ | ⟨_, _, _, m4, _, m6⟩
              · rw [m1] at w1; exact absurd w1.1 (by decide)
              · exact ⟨m4, m6⟩
            have eK : g 12 Q = S.1 5 Q := (h.2.2.2.1 Q (by omega)).1
            have eN : g 13 Q = S.1 6 Q := (h.2.2.1 Q (by omega)).1.1
            have eR : g 14 Q = S.1 7 Q := (h.2.2.1 Q (by omega)).2.1.1
            refine Sim.ofP (lp_two (F := x_X7_runs_B60 N) (G := x_X8_runs_B73 N) (fun x => 20 - x.2.2.2.2.2.1.toInt.toNat) (fun x y => x.1 = a ∧ y.1 = a ∧ x.2.1 = M ∧ y.2.1 = M ∧ x.2.2.1 = f ∧ y.2.2.1 = f ∧ x.2.2.2.1 = w ∧ y.2.2.2.1 = w ∧ x.2.2.2.2.1 = y.2.2.2.2.2.2.1 ∧ x.2.2.2.2.2.1 = y.2.2.2.2.2.2.2.1 ∧ y.2.2.2.2.1 = S.1 7 Q ∧ y.2.2.2.2.2.1 = S.1 5 Q ∧ 0 ≤ x.2.2.2.2.2.1.toInt ∧ x.2.2.2.2.2.1.toInt ≤ (if w = 0 then 19 else 6) ∧ x.2.2.2.2.2.2 = g ∧ (∀ q, q ≠ 5 → q ≠ 7 → y.2.2.2.2.2.2.2.2.1 q = S.1 q) ∧ (w = 0 → y.2.2.2.2.2.2.2.2.1 5 = S.1 5 ∧ ∃ v, y.2.2.2.2.2.2.2.2.1 7 = upd (S.1 7) Q v) ∧ (¬ w = 0 → y.2.2.2.2.2.2.2.2.1 7 = S.1 7 ∧ ∃ v, y.2.2.2.2.2.2.2.2.1 5 = upd (S.1 5) Q v)) (SimP TX) ?_ N (a, M, f, w, 0, 0, g) (a, M, f, w, S.1 7 Q, S.1 5 Q, 0, 0, S) ⟨rfl, rfl, rfl, rfl, rfl, rfl, rfl, rfl, rfl, rfl, rfl, rfl, Int.le_refl 0, by show (0 : Int32).toInt ≤ _; simp only [Int32.reduceToInt]; split <;> omega, rfl, fun _ _ _ => rfl, fun _ => ⟨rfl, S.1 7 Q, (upd_id _ _).symm⟩, fun _ => ⟨rfl, S.1 5 Q, (upd_id _ _).symm⟩⟩ (by show 20 - _ < N; omega))
            intro hh kk ⟨x1, x2, x3, x4, b, i, X⟩ ⟨y1, y2, y3, y4, y5, y6, b', i', Y⟩ ⟨j1, j2, j3, j4, j5, j6, j7, j8, j9, j10, j11, j12, j13, j14, j15, j16, j17, j18⟩ ih
            have i1 : x1 = a := j1
            have i2 : y1 = a := j2
            have i3 : x2 = M := j3
            have i4 : y2 = M := j4
            have i5 : x3 = f := j5
            have i6 : y3 = f := j6
            have i7 : x4 = w := j7
            have i8 : y4 = w := j8
            have i9 : b = b' := j9
            have i10 : i = i' := j10
            have i11 : y5 = S.1 7 Q := j11
            have i12 : y6 = S.1 5 Q := j12
            have i13 : 0 ≤ i.toInt := j13
            have i14 : i.toInt ≤ (if w = 0 then 19 else 6) := j14
            have i15 : X = g := j15
            have i16 : ∀ q, q ≠ 5 → q ≠ 7 → Y.1 q = S.1 q := j16
            have i17 : w = 0 → Y.1 5 = S.1 5 ∧ ∃ v, Y.1 7 = upd (S.1 7) Q v := j17
            have i18 : ¬ w = 0 → Y.1 7 = S.1 7 ∧ ∃ v, Y.1 5 = upd (S.1 5) Q v := j18
            clear j1 j2 j3 j4 j5 j6 j7 j8 j9 j10 j11 j12 j13 j14 j15 j16 j17 j18
            subst i1; subst i2; subst i3; subst i4; subst i5; subst i6; subst i7; subst i8; subst i9; subst i10; subst i15
            have e5 := inc1 (x := i) (by split at i14 <;> omega)
            unfold x_X7_runs_B60 x_X8_runs_B73
            -- the end
            have fin : ∃ r s, some (b, X) = some r ∧ (lt (up Y.1 7 (upd (Y.1 7) Q y5), Y.2) fun g18 => (if inb y2 5 = true then lt (up g18.1 5 (upd (g18.1 5) Q y6), g18.2) fun g20 => some (b, g20) else none)) = some s ∧ SimP TX r s := by
              simp only [lt]
              rw [if_pos bM]
              refine ⟨_, _, rfl, rfl, rfl, inv_S h (fun q => ?_)⟩
              show up (up Y.1 7 (upd (Y.1 7) Q y5)) 5 (upd (up Y.1 7 (upd (Y.1 7) Q y5) 5) Q y6) q = S.1 q
              rw [up_n _ _ (show 5 ≠ 7 by omega)]
              by_cases q5 : q = 5
              · subst q5
                rw [up_s, i12]
                by_cases hw : y4 = 0
                · rw [(i17 hw).1]; exact upd_id _ _
                · obtain ⟨v, hv⟩ := (i18 hw).2
                  rw [hv, upd_upd]; exact upd_id _ _
              · rw [up_n _ _ q5]
                by_cases q7 : q = 7
                · subst q7
                  rw [up_s, i11]
                  by_cases hw : y4 = 0
                  · obtain ⟨v, hv⟩ := (i17 hw).2
                    rw [hv, upd_upd]; exact upd_id _ _
                  · rw [(i18 hw).1]; exact upd_id _ _
                · rw [up_n _ _ q7]; exact i16 q q5 q7
            -- a step, from what is set
            have step : ∀ (kd rn : Int32) (Y' : SM), (0 ≤ kd.toInt ∧ kd.toInt ≤ 5) → (-9 ≤ rn.toInt ∧ rn.toInt ≤ 9) → (i.toInt < (if y4 = 0 then 19 else 6)) → Y'.1 5 Q = kd → Y'.1 7 Q = rn → Rg (Y'.1 5) (Y'.1 6) (Y'.1 7) (X 1 4).toInt → (∀ q, q ≠ 5 → q ≠ 7 → Y'.1 q = S.1 q) → (y4 = 0 → Y'.1 5 = S.1 5 ∧ ∃ v, Y'.1 7 = upd (S.1 7) Q v) → (¬ y4 = 0 → Y'.1 7 = S.1 7 ∧ ∃ v, Y'.1 5 = upd (S.1 5) Q v) → ∃ r s, x_X7_runs_b120 N hh y1 y2 y3 y4 b i kd rn X = some r ∧ x_X8_runs_b117 N kk y1 y2 y3 y4 y5 y6 b i Y' = some s ∧ SimP TX r s := by
              intro kd rn Y' hkd hrn hi eKd eRn hR t16 t17 t18
              unfold x_X7_runs_b120 x_X8_runs_b117
              have hC : ∀ p, p < m → X (33 + k) (2 * p) = X (33 + k) (2 * p) ∧ X (33 + k) (2 * p + 1) = X (33 + k) (2 * p + 1) ∧ 0 ≤ (X (33 + k) (2 * p)).toInt ∧ (X (33 + k) (2 * p)).toInt < 20 * (X 1 4).toInt := fun p hp => ⟨rfl, rfl, (w4 p hp).1.1, (w4 p hp).1.2⟩
              have hC' : ∀ p, p < m → Y'.1 21 (40 * k + 2 * p) = X (33 + k) (2 * p) ∧ Y'.1 21 (40 * k + (2 * p + 1)) = X (33 + k) (2 * p + 1) ∧ 0 ≤ (X (33 + k) (2 * p)).toInt ∧ (X (33 + k) (2 * p)).toInt < 20 * (X 1 4).toInt := fun p hp => ⟨by rw [t16 21 (by omega) (by omega)]; exact (hq.2 (2 * p) (by omega)).symm, by rw [t16 21 (by omega) (by omega)]; exact (hq.2 (2 * p + 1) (by omega)).symm, (w4 p hp).1.1, (w4 p hp).1.2⟩
              rw [m_isSo (N := N) (by omega) (C := fun p => X (33 + k) (2 * p)) (D := fun p => X (33 + k) (2 * p + 1)) (m := m) (M := y2) hR k3 h1 hk (by rw [t16 20 (by omega) (by omega), hq.1]; exact w2) w3 hC' h3]
              rw [c_rowsHold (N := N) (by omega) (C := fun p => X (33 + k) (2 * p)) (D := fun p => X (33 + k) (2 * p + 1)) (m := m) (M := y2) (kd2 := Y'.1 5) (nb2 := Y'.1 6) (rn2 := Y'.1 7) k3 h2 h1 hk w2 w3 hC h3 hkd (by rw [← hQ]; exact c2) hrn (by rw [← hQ]; exact eKd) (by rw [← hQ, t16 6 (by omega) (by omega), eN]) (by rw [← hQ]; exact eRn)]
              simp only [Option.bind_some, b2_0]
              generalize al (rwo (Y'.1 5) (Y'.1 6) (Y'.1 7) (fun p => X (33 + k) (2 * p)) (fun p => X (33 + k) (2 * p + 1)) y2 y3) m = A
              have nx : ∀ bb : Int32, ∃ r s, x_X7_runs_b145 N hh y1 y2 y3 y4 bb i X = some r ∧ kk (y1, y2, y3, y4, y5, y6, bb, i + 1, Y') = some s ∧ SimP TX r s := by
                intro bb
                unfold x_X7_runs_b145
                simp only [lt]
                exact ih (y1, y2, y3, y4, bb, i + 1, X) (y1, y2, y3, y4, y5, y6, bb, i + 1, Y') ⟨rfl, rfl, rfl, rfl, rfl, rfl, rfl, rfl, rfl, rfl, i11, i12, by show 0 ≤ (i + 1).toInt; omega, by show (i + 1).toInt ≤ (if y4 = 0 then 19 else 6); rw [e5]; omega, rfl, t16, t17, t18⟩ (by show 20 - (i + 1).toInt.toNat < 20 - i.toInt.toNat; split at hi <;> omega)
              unfold x_X8_runs_b134
              by_cases cA : A = true
              · rw [if_neg (fun z => z cA), if_neg (fun z => z cA)]
                simp only [lt]
                exact nx _
              · rw [if_pos cA, if_pos cA]
                simp only [lt]
                rw [shl0]
                exact nx _
            unfold x_X7_runs_b74 x_X8_runs_b87
            simp only [i_le, Int32.reduceToInt, show y2.toNatClampNeg = Q from hQ.symm]
            by_cases hw : y4 = 0
            · simp only [if_pos hw]
              rw [if_pos hw] at i14
              by_cases cE : 19 ≤ i.toInt
              · simp only [if_pos cE, if_pos bM]; simp only [if_pos bM] at fin; exact fin
              · simp only [if_neg cE, if_pos bM]
                unfold x_X7_runs_b96
                simp only [if_pos hw, lt]
                have e9 : (i - 9).toInt = i.toInt - 9 := sub_l rfl (by decide) (by omega)
                obtain ⟨v, hv⟩ := (i17 hw).2
                have y57 : up Y.1 7 (upd (Y.1 7) Q (i - 9)) 5 = S.1 5 := by rw [up_n _ _ (by omega)]; exact (i17 hw).1
                have y77 : up Y.1 7 (upd (Y.1 7) Q (i - 9)) 7 = upd (S.1 7) Q (i - 9) := by rw [up_s, hv, upd_upd]
                have y67 : up Y.1 7 (upd (Y.1 7) Q (i - 9)) 6 = S.1 6 := by rw [up_n _ _ (by omega)]; exact i16 6 (by omega) (by omega)
                refine step (X 12 Q) (i - 9) (up Y.1 7 (upd (Y.1 7) Q (i - 9)), Y.2) c1 (by omega) (by rw [if_pos hw]; omega) ?_ ?_ ?_ (fun q q5 q7 => ?_) (fun _ => ⟨y57, i - 9, y77⟩) (fun z => absurd hw z)
                · show up Y.1 7 (upd (Y.1 7) Q (i - 9)) 5 Q = _
                  rw [y57]; exact eK.symm
                · show up Y.1 7 (upd (Y.1 7) Q (i - 9)) 7 Q = _
                  rw [up_s]; exact upd_s _ _ _
                · show Rg (up Y.1 7 (upd (Y.1 7) Q (i - 9)) 5) (up Y.1 7 (upd (Y.1 7) Q (i - 9)) 6) (up Y.1 7 (upd (Y.1 7) Q (i - 9)) 7) _
                  rw [y57, y67, y77]
                  exact Rg_ur hRm (by omega)
                · show up Y.1 7 (upd (Y.1 7) Q (i - 9)) q = _
                  rw [up_n _ _ q7]; exact i16 q q5 q7
            · simp only [if_neg hw]
              rw [if_neg hw] at i14
              by_cases cE : 6 ≤ i.toInt
              · simp only [if_pos cE, if_pos bM]; simp only [if_pos bM] at fin; exact fin
              · simp only [if_neg cE, if_pos bM]
                unfold x_X7_runs_b96
                simp only [if_neg hw, if_pos bM, lt, show y2.toNatClampNeg = Q from hQ.symm]
                obtain ⟨v, hv⟩ := (i18 hw).2
                have y55 : up Y.1 5 (upd (Y.1 5) Q i) 5 = upd (S.1 5) Q i := by rw [up_s, hv, upd_upd]
                have y75 : up Y.1 5 (upd (Y.1 5) Q i) 7 = S.1 7 := by rw [up_n _ _ (by omega)]; exact (i18 hw).1
                have y65 : up Y.1 5 (upd (Y.1 5) Q i) 6 = S.1 6 := by rw [up_n _ _ (by omega)]; exact i16 6 (by omega) (by omega)
                refine step i (X 14 Q) (up Y.1 5 (upd (Y.1 5) Q i), Y.2) (by omega) c3 (by rw [if_neg hw]; omega) ?_ ?_ ?_ (fun q q5 q7 => ?_) (fun z => absurd z hw) (fun _ => ⟨y75, i, y55⟩)
                · show up Y.1 5 (upd (Y.1 5) Q i) 5 Q = _
                  rw [up_s]; exact upd_s _ _ _
                · show up Y.1 5 (upd (Y.1 5) Q i) 7 Q = _
                  rw [y75]; exact eR.symm
                · show Rg (up Y.1 5 (upd (Y.1 5) Q i) 5) (up Y.1 5 (upd (Y.1 5) Q i) 6) (up Y.1 5 (upd (Y.1 5) Q i) 7) _
                  rw [y55, y65, y75]
                  exact Rg_up hRm (by omega)
                · show up Y.1 5 (upd (Y.1 5) Q i) q = _
                  rw [up_n _ _ q5]; exact i16 q q5 q7
          · rw [if_neg h5, if_neg h5]; exact Sim.mk h
        · rw [if_pos (show ¬ (0 ≤ w.toInt ∧ w.toInt ≤ 1) from h4)]
          by_cases h5 : w.toInt < 0
          · rw [if_pos h5]; exact Sim.mk h
          · rw [if_neg h5, if_neg (show ¬ w.toInt ≤ 1 by omega)]; exact Sim.mk h
      · rw [if_pos h3, if_pos h3]; exact Sim.mk h
    · rw [if_pos h2, if_pos h2]; exact Sim.mk h
  · rw [if_pos h1, if_pos h1]; exact Sim.mk h
