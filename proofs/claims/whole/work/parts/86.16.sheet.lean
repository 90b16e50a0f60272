/-! sheet -/
theorem nb0 : vp_nar .boolean 0 = 0 := by decide
theorem nb1 : vp_nar .boolean 1 = 1 := by decide
theorem c_become {N : Nat} (hN : 1000 < N) {a : Int32} (b d : Int32) (g : Sg) (h : 0 ≤ a.toInt ∧ a.toInt ≤ 3) : ∃ G, x_X3_become N a b d g = some G ∧ (∀ j, j < 30 → G j = g j) ∧ G 30 = upd (g 30) a.toNatClampNeg b ∧ G 31 = upd (g 31) a.toNatClampNeg d ∧ (∀ i, i < 40 → G (33 + a.toNatClampNeg) i = 0) ∧ ∀ j, j < 4 → j ≠ a.toNatClampNeg → G (33 + j) = g (33 + j) := by
  have b4 : inb a 4 = true := i_inb.mpr ⟨h.1, by omega⟩
  unfold x_X3_become
  simp only [lt, b4, if_true]
  obtain ⟨G, f1, f2, f3⟩ := c_fill (N := N) (qc := 33 + a.toNatClampNeg) (nc := 40) (by decide) hN (0 : Int32) (up (up g 30 (upd (g 30) a.toNatClampNeg b)) 31 (upd (up g 30 (upd (g 30) a.toNatClampNeg b) 31) a.toNatClampNeg d))
  rw [f1]
  refine ⟨G, rfl, fun j hj => ?_, ?_, ?_, f3, fun j hj hne => ?_⟩
  · rw [f2 j (by omega), up_n _ _ (by omega), up_n _ _ (by omega)]
  · rw [f2 30 (by omega)]; rfl
  · rw [f2 31 (by omega)]; rfl
  · rw [f2 (33 + j) (by omega), up_n _ _ (by omega), up_n _ _ (by omega)]
theorem m_sheet_in {N : Nat} (hN : 200 < N) {a b d : Int32} (S : SM) (ha : 0 ≤ a.toInt ∧ a.toInt ≤ 3) (hb : 0 ≤ b.toInt) (hd : 0 ≤ d.toInt ∧ d.toInt ≤ 40) : ∃ r, lp (x_X8_sheet_B77 N) N (a, b, d, (0 : Int32), S) = some r ∧ (r.1 = 1 ∧ (∀ j, j ≠ 21 → r.2.1 j = S.1 j) ∧ (∀ i : Nat, (i : Int) < d.toInt → r.2.1 21 (40 * a.toNatClampNeg + i) = 0) ∧ ∀ i : Nat, (i < 40 * a.toNatClampNeg ∨ 40 * a.toNatClampNeg + 40 ≤ i) → r.2.1 21 i = S.1 21 i) := by
  refine lp_tot (F := x_X8_sheet_B77 N) (fun x => 40 - x.2.2.2.1.toInt.toNat) (fun x => x.1 = a ∧ x.2.1 = b ∧ x.2.2.1 = d ∧ 0 ≤ x.2.2.2.1.toInt ∧ x.2.2.2.1.toInt ≤ d.toInt ∧ (∀ j, j ≠ 21 → x.2.2.2.2.1 j = S.1 j) ∧ (∀ i : Nat, (i : Int) < x.2.2.2.1.toInt → x.2.2.2.2.1 21 (40 * a.toNatClampNeg + i) = 0) ∧ ∀ i : Nat, (i < 40 * a.toNatClampNeg ∨ 40 * a.toNatClampNeg + 40 ≤ i) → x.2.2.2.2.1 21 i = S.1 21 i) (fun _ r => r.1 = 1 ∧ (∀ j, j ≠ 21 → r.2.1 j = S.1 j) ∧ (∀ i : Nat, (i : Int) < d.toInt → r.2.1 21 (40 * a.toNatClampNeg + i) = 0) ∧ ∀ i : Nat, (i < 40 * a.toNatClampNeg ∨ 40 * a.toNatClampNeg + 40 ≤ i) → r.2.1 21 i = S.1 21 i) ?_ N _ ⟨rfl, rfl, rfl, Int.le_refl 0, by show (0 : Int32).toInt ≤ _; simp only [Int32.reduceToInt]; omega, fun _ _ => rfl, fun i hi => absurd hi (by show ¬ (i : Int) < (0 : Int32).toInt; simp only [Int32.reduceToInt]; omega), fun _ _ => rfl⟩ (by show 40 - _ < N; omega)
  intro h x ⟨i1, i2, i3, i4, i5, i6, i7, i8⟩ ih
  unfold x_X8_sheet_B77
  simp only [lt, i_le, i_lt, Int32.reduceToInt]
  rw [i1, i2, i3]
  by_cases hx : d.toInt ≤ x.2.2.2.1.toInt
  · rw [if_pos hx]
    exact ⟨_, rfl, rfl, i6, fun i hi => i7 i (by omega), i8⟩
  · rw [if_neg hx, if_neg (by omega)]
    have e2 := s40 ha (b := x.2.2.2.1) (by omega)
    have b6 : inb (40 * a + x.2.2.2.1) 160 = true := i_inb.mpr ⟨by omega, by omega⟩
    have e3 : (40 * a + x.2.2.2.1).toNatClampNeg = 40 * a.toNatClampNeg + x.2.2.2.1.toNatClampNeg := by rw [i_nat, i_nat, i_nat, e2]; omega
    have e1 := inc1 (x := x.2.2.2.1) (by omega)
    rw [if_pos b6, e3]
    refine ih (a, b, d, x.2.2.2.1 + 1, _) ⟨rfl, rfl, rfl, by show 0 ≤ (x.2.2.2.1 + 1).toInt; omega, by show (x.2.2.2.1 + 1).toInt ≤ d.toInt; omega, fun j hj => ?_, fun i hi => ?_, fun i hi => ?_⟩ (by show 40 - (x.2.2.2.1 + 1).toInt.toNat < 40 - x.2.2.2.1.toInt.toNat; omega)
    · show up _ 21 _ j = S.1 j
      rw [up_n _ _ hj]; exact i6 j hj
    · have hi : (i : Int) < (x.2.2.2.1 + 1).toInt := hi
      show upd (x.2.2.2.2.1 21) _ 0 (40 * a.toNatClampNeg + i) = 0
      by_cases hj : i = x.2.2.2.1.toNatClampNeg
      · subst hj; rw [upd_s]
      · rw [upd_n _ _ (by omega)]
        rw [i_nat] at hj
        exact i7 i (by omega)
    · show upd (x.2.2.2.2.1 21) _ 0 i = _
      have hb : x.2.2.2.1.toNatClampNeg < 40 := by rw [i_nat]; omega
      rw [upd_n _ _ (by omega)]
      exact i8 i hi
theorem o_sheet {TX : TXt} {g : Sg} {S : SM} (h : Inv TX g S) {N : Nat} (hN : 1000 < N) (a b d : Int32) : Sim TX (x_X7_sheet N a b d g) (x_X8_sheet N a b d S) := by
  have hH := h.2.2.2.2.2.2.1
  unfold x_X7_sheet x_X8_sheet
  rw [c_isOne, m_isSheet]
  simp only [Option.bind_some, b2_0, m_in, i_l64, i_lt, i_le, i_eq (x := b), Int32.reduceToInt, Int64.reduceToInt]
  by_cases h1 : 0 ≤ a.toInt ∧ a.toInt ≤ 3
  · have n9 : ¬ ¬ (0 ≤ a.toInt ∧ a.toInt ≤ 3) := fun z => z h1
    rw [if_neg n9, if_neg n9]
    obtain ⟨k, hk⟩ : ∃ k, k = a.toNatClampNeg := ⟨_, rfl⟩
    have ek : (k : Int) = a.toInt := by rw [hk, i_nat]; omega
    have b4 : inb a 4 = true := i_inb.mpr ⟨h1.1, by omega⟩
    by_cases h2 : b.toInt < -1
    · rw [if_pos h2, if_pos (by omega)]; exact Sim.mk h
    rw [if_neg h2]
    by_cases h3 : b.toInt ≤ 2
    · rw [if_pos h3, if_neg (show ¬ ¬ (-1 ≤ b.toInt ∧ b.toInt ≤ 2) by omega)]
      by_cases h4 : b.toInt = -1
      · rw [if_pos h4, if_pos (by omega)]
        obtain ⟨G, c1, c2, c3, c4, c5, c6⟩ := c_become hN (-1) 0 g h1
        rw [c1]
        unfold x_X8_sheet_b34 x_X8_sheet_b45 x_X8_sheet_b59
        simp only [i_lt, Int32.reduceToInt]
        rw [if_pos (by omega), if_pos (by omega)]
        simp only [b4, if_true, lt, nb0]
        have e : ∀ T : SM, lp (x_X8_sheet_B77 N) N (a, b, d, (0 : Int32), T) = some (1, T) := by
          intro T
          obtain ⟨n, hn⟩ : ∃ n, N = n + 1 := ⟨N - 1, by omega⟩
          rw [hn]
          show x_X8_sheet_B77 (n + 1) _ (a, b, d, (0 : Int32), T) = _
          unfold x_X8_sheet_B77
          simp only [i_le, i_lt, Int32.reduceToInt]
          by_cases hq : d.toInt ≤ 0
          · rw [if_pos hq]
          · rw [if_neg hq, if_pos (by omega)]
        rw [e]
        simp only [Option.bind_some]
        refine Sim.mk (inv_H h c2 (fun j hj => ?_) ?_)
        · show up (up (up S.1 18 _) 19 _) 20 _ j = _
          rw [up_n _ _ (by omega), up_n _ _ (by omega), up_n _ _ (by omega)]
        · intro j hj
          rw [c3, c4, ← hk]
          by_cases hjk : j = k
          · refine Or.inl ⟨by rw [hjk]; exact upd_s _ _ _, ?_⟩
            show upd (S.1 18) k 0 j = 0
            rw [hjk]; exact upd_s _ _ _
          · rw [upd_n _ _ hjk, upd_n _ _ hjk, c6 j hj (by rw [← hk]; exact hjk)]
            rcases hH j hj with ⟨u1, u2⟩ | ⟨u1, u2, u3, u4, u5, u6⟩
            · refine Or.inl ⟨u1, ?_⟩
              show upd (S.1 18) k 0 j = 0
              rw [upd_n _ _ hjk]; exact u2
            · refine Or.inr ⟨u1, ?_, ?_, ?_, u5, u6⟩
              · show upd (S.1 18) k 0 j = 1
                rw [upd_n _ _ hjk]; exact u2
              · show upd (S.1 19) k b j = _
                rw [upd_n _ _ hjk]; exact u3
              · show upd (S.1 20) k d j = _
                rw [upd_n _ _ hjk]; exact u4
      · rw [if_neg h4, if_neg (show ¬ b.toInt < 0 by omega)]
        by_cases h5 : d.toInt ≤ 40
        · rw [if_pos h5, if_pos h5]
          unfold x_X8_sheet_b34
          simp only [i_lt, i_le, Int32.reduceToInt]
          rw [if_neg (show ¬ b.toInt < 0 by omega)]
          by_cases h6 : 0 ≤ d.toInt
          · rw [if_pos h6, if_pos h6]
            obtain ⟨G, c1, c2, c3, c4, c5, c6⟩ := c_become hN b d g h1
            rw [c1]
            unfold x_X8_sheet_b45 x_X8_sheet_b59
            simp only [i_lt, Int32.reduceToInt]
            rw [if_neg (show ¬ b.toInt < 0 by omega)]
            simp only [b4, if_true, lt, nb1]
            obtain ⟨r, m1, m2, m3, m4, m5⟩ := m_sheet_in (N := N) (by omega) (a := a) (b := b) (d := d) (up (up (up S.1 18 (upd (S.1 18) a.toNatClampNeg 1)) 19 (upd (up S.1 18 (upd (S.1 18) a.toNatClampNeg 1) 19) a.toNatClampNeg b)) 20 (upd (up (up S.1 18 (upd (S.1 18) a.toNatClampNeg 1)) 19 (upd (up S.1 18 (upd (S.1 18) a.toNatClampNeg 1) 19) a.toNatClampNeg b) 20) a.toNatClampNeg d), S.2) h1 (by omega) ⟨h6, h5⟩
            rw [m1]
            obtain ⟨r0, T⟩ := r
            have m2 : r0 = 1 := m2
            subst m2
            simp only [Option.bind_some]
            rw [← hk] at c3 c4 c5 c6 m4 m5
            have m3 : ∀ j, j ≠ 21 → T.1 j = (up (up (up S.1 18 (upd (S.1 18) k 1)) 19 (upd (S.1 19) k b)) 20 (upd (S.1 20) k d)) j := by rw [hk]; exact m3
            refine Sim.mk (inv_H h c2 (fun j hj => ?_) ?_)
            · rw [m3 j (by omega), up_n _ _ (by omega), up_n _ _ (by omega), up_n _ _ (by omega)]
            · intro j hj
              have t18 : T.1 18 = upd (S.1 18) k 1 := m3 18 (by decide)
              have t19 : T.1 19 = upd (S.1 19) k b := m3 19 (by decide)
              have t20 : T.1 20 = upd (S.1 20) k d := m3 20 (by decide)
              rw [c3, c4, t18, t19, t20]
              by_cases hjk : j = k
              · subst hjk
                rw [upd_s, upd_s, upd_s, upd_s, upd_s]
                refine Or.inr ⟨⟨by omega, h3⟩, rfl, rfl, rfl, ⟨h6, h5⟩, fun i hi => ?_⟩
                rw [c5 i (by omega)]
                exact (m4 i hi).symm
              · rw [upd_n _ _ hjk, upd_n _ _ hjk, upd_n _ _ hjk, upd_n _ _ hjk, upd_n _ _ hjk, c6 j hj hjk]
                rcases hH j hj with u | ⟨u1, u2, u3, u4, u5, u6⟩
                · exact Or.inl u
                · refine Or.inr ⟨u1, u2, u3, u4, u5, fun i hi => ?_⟩
                  rw [m5 (40 * j + i) (by omega)]
                  exact u6 i hi
          · rw [if_neg h6, if_neg h6]; exact Sim.mk h
        · rw [if_neg h5, if_neg h5]; exact Sim.mk h
    · rw [if_neg h3, if_pos (by omega)]; exact Sim.mk h
  · rw [if_pos h1, if_pos h1]; exact Sim.mk h
