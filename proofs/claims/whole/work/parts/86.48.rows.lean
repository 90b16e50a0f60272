/-! rows of a sheet -/
def Rw (g : Sg) (k m : Nat) : Prop := ((0 ≤ (g 30 k).toInt ∧ (g 30 k).toInt ≤ 2) ∧ (g 31 k).toInt = 2 * m ∧ m ≤ 20) ∧ ∀ p : Nat, p < m → (0 ≤ (g (33 + k) (2 * p)).toInt ∧ (g (33 + k) (2 * p)).toInt < 20 * (g 1 4).toInt) ∧ -2 ≤ (g (33 + k) (2 * p + 1)).toInt ∧ (g (33 + k) (2 * p + 1)).toInt ≤ 2
theorem rows_both {TX : TXt} {g : Sg} {S : SM} (h : Inv TX g S) {N : Nat} (hN : 200 < N) {a : Int32} (ha : 0 ≤ a.toInt ∧ a.toInt ≤ 3) : ∃ r, x_X7_rowsRefusal N a g = some (r, g) ∧ x_X8_canBad N a S = some (r, S) ∧ (r = 0 → ∃ m, Rw g a.toInt.toNat m) := by
  obtain ⟨k1, k2, k3⟩ := mk5 h
  have hH := h.2.2.2.2.2.2.1
  unfold x_X7_rowsRefusal x_X8_canBad
  rw [c_isMissing N g ha, m_isSheet]
  have b4 : inb a 4 = true := i_inb.mpr ⟨ha.1, by omega⟩
  simp only [Option.bind_some, b2_0, b4, if_true]
  rw [if_neg (show ¬ ¬ (0 ≤ a.toInt ∧ a.toInt ≤ 3) from fun z => z ha)]
  obtain ⟨k, hk⟩ : ∃ k, k = a.toInt.toNat := ⟨_, rfl⟩
  have hk' : a.toNatClampNeg = k := by rw [i_nat, hk]
  rw [hk', ← hk]
  rcases hH k (by omega) with ⟨m1, m2⟩ | ⟨m1, m2, m3, m4, m5, m6⟩
  · rw [if_neg (show ¬ ¬ g 30 k = -1 from fun z => z m1), if_pos m2]
    exact ⟨_, rfl, rfl, fun z => absurd z (by decide)⟩
  · have n1 : ¬ g 30 k = -1 := by rw [i_eq]; simp only [Int32.reduceToInt]; omega
    have n2 : ¬ S.1 18 k = 0 := by rw [m2]; decide
    rw [if_pos n1, if_neg n2, m4]
    simp only [lt]
    by_cases c1 : rmI (g 31 k) 2 = 0
    · rw [if_pos c1, if_pos c1]
      rw [rm_n m5.1 (by decide)] at c1
      obtain ⟨m, hm⟩ := c1
      have hm : (g 31 k).toInt = 2 * m := by
        have e2 : (2 : Int32).toInt.toNat = 2 := by decide
        rw [e2] at hm
        omega
      have key := lp_two (F := x_X7_rowsRefusal_B35 N) (G := x_X8_canBad_B38 N) (fun x => 50 - x.2.2.1.toInt.toNat) (fun x y => x.1 = a ∧ y.1 = a ∧ x.2.1 = g 31 k ∧ x.2.2.1 = y.2.1 ∧ x.2.2.2 = g ∧ y.2.2 = S ∧ ∃ p : Nat, x.2.2.1.toInt = 2 * p ∧ p ≤ m ∧ ∀ q : Nat, q < p → (0 ≤ (g (33 + k) (2 * q)).toInt ∧ (g (33 + k) (2 * q)).toInt < 20 * (g 1 4).toInt) ∧ -2 ≤ (g (33 + k) (2 * q + 1)).toInt ∧ (g (33 + k) (2 * q + 1)).toInt ≤ 2) (fun r s => r.1 = s.1 ∧ r.2 = g ∧ s.2 = S ∧ (r.1 = 0 → Rw g k m)) ?_ N (a, g 31 k, 0, g) (a, 0, S) ⟨rfl, rfl, rfl, rfl, rfl, rfl, 0, rfl, Nat.zero_le _, fun q hq => absurd hq (Nat.not_lt_zero q)⟩ (by show 50 - _ < N; omega)
      · obtain ⟨⟨r, rg⟩, ⟨s, sS⟩, t1, t2, t3, t4, t5, t6⟩ := key
        have t3 : r = s := t3
        have t4 : rg = g := t4
        have t5 : sS = S := t5
        subst t3; subst t4; subst t5
        exact ⟨r, t1, t2, fun z => ⟨m, t6 z⟩⟩
      intro hh kk ⟨x1, x2, i, X⟩ ⟨y1, i', Y⟩ ⟨j1, j2, j3, j4, j5, j6, p, j7, j8, j9⟩ ih
      have i1 : x1 = a := j1
      have i2 : y1 = a := j2
      have i3 : x2 = g 31 k := j3
      have i4 : i = i' := j4
      have i5 : X = g := j5
      have i6 : Y = S := j6
      have i7 : i.toInt = 2 * p := j7
      clear j1 j2 j3 j4 j5 j6 j7
      subst i1; subst i2; subst i4; subst i5; subst i6
      unfold x_X7_rowsRefusal_B35 x_X8_canBad_B38
      have e1 := inc1 (x := i) (by omega)
      simp only [i_le, i_lt, Int32.reduceToInt, b4, if_true, hk', m4]
      rw [i3, e1]
      by_cases c2 : p = m
      · rw [if_pos (by omega), if_pos (by omega)]
        subst c2
        exact ⟨_, _, rfl, rfl, rfl, rfl, rfl, fun _ => ⟨⟨m1, hm, by omega⟩, j9⟩⟩
      · rw [if_neg (show ¬ (X 31 k).toInt ≤ i.toInt + 1 by omega), if_neg (show ¬ (X 31 k).toInt ≤ i.toInt by omega)]
        have e2 := s40 ha (b := i) (by omega)
        have e3 : (40 * y1 + i + 1).toInt = 40 * y1.toInt + i.toInt + 1 := add_l e2 (by decide) (by omega)
        have n2 : (40 * y1 + i).toNatClampNeg = 40 * k + 2 * p := by rw [i_nat, e2]; omega
        have n3 : (40 * y1 + i + 1).toNatClampNeg = 40 * k + (2 * p + 1) := by rw [i_nat, e3]; omega
        have n4 : (i + 1).toNatClampNeg = 2 * p + 1 := by rw [i_nat, e1]; omega
        have n5 : i.toNatClampNeg = 2 * p := by rw [i_nat]; omega
        simp only [if_pos (show inb (i + 1) 40 = true from i_inb.mpr ⟨by omega, by omega⟩), if_pos (show inb i 40 = true from i_inb.mpr ⟨by omega, by omega⟩), if_pos (show inb (40 * y1 + i) 160 = true from i_inb.mpr ⟨by omega, by omega⟩), if_pos (show inb (40 * y1 + i + 1) 160 = true from i_inb.mpr ⟨by omega, by omega⟩), lt, n2, n3, n4, n5]
        rw [← m6 (2 * p) (by omega)]
        rw [c_hasShoe N _ X ⟨k2, k3⟩, m_isShoe N _ Y (by rw [← k1]; exact ⟨k2, k3⟩), ← k1]
        simp only [Option.bind_some, b2_0, m_in, i_l64, Int64.reduceToInt]
        rw [← m6 (2 * p + 1) (by omega)]
        by_cases c3 : 0 ≤ (X (33 + k) (2 * p)).toInt ∧ (X (33 + k) (2 * p)).toInt < 20 * (X 1 4).toInt
        · rw [if_neg (show ¬ ¬ (0 ≤ (X (33 + k) (2 * p)).toInt ∧ (X (33 + k) (2 * p)).toInt < 20 * (X 1 4).toInt) from fun z => z c3), if_neg (show ¬ ¬ (0 ≤ (X (33 + k) (2 * p)).toInt ∧ (X (33 + k) (2 * p)).toInt < 20 * (X 1 4).toInt) from fun z => z c3)]
          by_cases c4 : -2 ≤ (X (33 + k) (2 * p + 1)).toInt ∧ (X (33 + k) (2 * p + 1)).toInt ≤ 2
          · rw [if_neg (show ¬ (X (33 + k) (2 * p + 1)).toInt < -2 by omega), if_pos c4.2, if_neg (show ¬ ¬ (-2 ≤ (X (33 + k) (2 * p + 1)).toInt ∧ (X (33 + k) (2 * p + 1)).toInt ≤ 2) from fun z => z c4)]
            have e5 : (i + 2).toInt = i.toInt + 2 := add_l rfl (by decide) (by omega)
            refine ih (y1, X 31 k, i + 2, X) (y1, i + 2, Y) ⟨rfl, rfl, rfl, rfl, rfl, rfl, p + 1, by show (i + 2).toInt = _; omega, by omega, fun q hq => ?_⟩ (by show 50 - (i + 2).toInt.toNat < 50 - i.toInt.toNat; omega)
            by_cases c5 : q = p
            · subst c5; exact ⟨c3, c4⟩
            · exact j9 q (by omega)
          · rw [if_pos (show ¬ (-2 ≤ (X (33 + k) (2 * p + 1)).toInt ∧ (X (33 + k) (2 * p + 1)).toInt ≤ 2) from c4)]
            by_cases c5 : (X (33 + k) (2 * p + 1)).toInt < -2
            · rw [if_pos c5]; exact ⟨_, _, rfl, rfl, rfl, rfl, rfl, fun z => absurd z (by show ¬ (-2 : Int32) = 0; decide)⟩
            · rw [if_neg c5, if_neg (show ¬ (X (33 + k) (2 * p + 1)).toInt ≤ 2 by omega)]; exact ⟨_, _, rfl, rfl, rfl, rfl, rfl, fun z => absurd z (by show ¬ (-2 : Int32) = 0; decide)⟩
        · rw [if_pos c3, if_pos c3]
          exact ⟨_, _, rfl, rfl, rfl, rfl, rfl, fun z => absurd z (by show ¬ (-2 : Int32) = 0; decide)⟩
    · rw [if_neg c1, if_neg c1]
      exact ⟨_, rfl, rfl, fun z => absurd z (by decide)⟩
