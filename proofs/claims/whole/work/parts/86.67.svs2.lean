theorem and01 (x : Int32) : x &&& 1 = 0 ∨ x &&& 1 = 1 := by
  rw [← Int32.toBitVec_inj, ← Int32.toBitVec_inj, Int32.toBitVec_and]
  show x.toBitVec &&& 1#32 = 0#32 ∨ x.toBitVec &&& 1#32 = 1#32
  rw [BitVec.and_one_eq_setWidth_ofBool_getLsbD]
  cases x.toBitVec.getLsbD 0
  · exact Or.inl (by decide)
  · exact Or.inr (by decide)
theorem bit_0 {s z : Int32} (hs : 0 ≤ s.toInt) (hz : 0 ≤ z.toInt ∧ z.toInt < 20) : ((s >>> (z &&& 31)) &&& 1) = 0 ↔ s.toInt.toNat.testBit z.toInt.toNat = false := by
  have h := bit_i hs hz
  have h1 := and01 (s >>> (z &&& 31))
  constructor
  · intro e
    rw [Bool.eq_false_iff]
    intro t
    have := h.mpr t
    rw [e] at this
    exact absurd this (by decide)
  · intro e
    rcases h1 with h1 | h1
    · exact h1
    · rw [h.mp h1] at e; cases e
theorem clr {r z : Nat} (h1 : r.testBit z = true) (h0 : ∀ j, j < z → r.testBit j = false) (j : Nat) : (r &&& (r - 1)).testBit j = (decide (z < j) && r.testBit j) := by
  have e1 : r % 2 ^ (z + 1) = 2 ^ z := by
    refine Nat.eq_of_testBit_eq (fun i => ?_)
    rw [Nat.testBit_mod_two_pow, Nat.testBit_two_pow]
    by_cases c : i < z + 1
    · rw [decide_eq_true c, Bool.true_and]
      by_cases c2 : i = z
      · rw [c2, h1, decide_eq_true rfl]
      · rw [h0 i (by omega), decide_eq_false (by omega)]
    · rw [decide_eq_false c, Bool.false_and, decide_eq_false (by omega)]
  have e2 : r = 2 ^ (z + 1) * (r / 2 ^ (z + 1)) + 2 ^ z := by
    have := Nat.div_add_mod r (2 ^ (z + 1))
    rw [e1] at this
    exact this.symm
  have p : 0 < 2 ^ z := Nat.two_pow_pos z
  have p2 : 2 ^ z < 2 ^ (z + 1) := Nat.pow_lt_pow_right (by decide) (by omega)
  have e3 : r - 1 = 2 ^ (z + 1) * (r / 2 ^ (z + 1)) + (2 ^ z - 1) := by omega
  rw [Nat.testBit_and]
  rw [e3, Nat.testBit_two_pow_mul_add _ (show 2 ^ z - 1 < 2 ^ (z + 1) by omega)]
  by_cases c : j < z + 1
  · rw [if_pos c, decide_eq_false (show ¬ z < j by omega), Bool.false_and]
    by_cases c2 : j = z
    · rw [c2, Nat.testBit_two_pow_sub_one, decide_eq_false (Nat.lt_irrefl z), Bool.and_false]
    · rw [h0 j (by omega), Bool.false_and]
  · rw [if_neg c, decide_eq_true (show z < j by omega), Bool.true_and]
    have e4 : r.testBit j = (r / 2 ^ (z + 1)).testBit (j - (z + 1)) := by
      rw [Nat.testBit_div_two_pow]
      rw [Nat.sub_add_cancel (by omega)]
    rw [e4, Bool.and_self]
theorem m_lowest {N : Nat} (hN : 200 < N) {s : Int32} {S : SM} (hs : 0 < s.toInt ∧ s.toInt ≤ 1048575) : ∃ z : Int32, x_X8_lowest N s S = some (z, S) ∧ (0 ≤ z.toInt ∧ z.toInt < 20) ∧ s.toInt.toNat.testBit z.toInt.toNat = true ∧ ∀ j, j < z.toInt.toNat → s.toInt.toNat.testBit j = false := by
  unfold x_X8_lowest
  obtain ⟨i, hi⟩ := Nat.exists_testBit_of_ne_zero (x := s.toInt.toNat) (by omega)
  have hi20 : i < 20 := by
    refine Decidable.byContradiction (fun c => ?_)
    have h2 := Nat.testBit_lt_two_pow (x := s.toInt.toNat) (i := i) (Nat.lt_of_lt_of_le (show s.toInt.toNat < 2 ^ 20 by show s.toInt.toNat < 1048576; omega) (Nat.pow_le_pow_right (by decide) (by omega)))
    rw [hi] at h2
    cases h2
  obtain ⟨⟨z, T⟩, e, e2, e3, e4, e5⟩ := lp_tot (F := x_X8_lowest_B2 N) (fun x => 21 - x.2.1.toInt.toNat) (fun x => x.1 = s ∧ x.2.2 = S ∧ 0 ≤ x.2.1.toInt ∧ x.2.1.toInt ≤ i ∧ ∀ j, j < x.2.1.toInt.toNat → s.toInt.toNat.testBit j = false) (fun _ r => r.2 = S ∧ (0 ≤ r.1.toInt ∧ r.1.toInt < 20) ∧ s.toInt.toNat.testBit r.1.toInt.toNat = true ∧ ∀ j, j < r.1.toInt.toNat → s.toInt.toNat.testBit j = false) (by
    intro hh ⟨y1, z, T⟩ ⟨j1, j2, j3, j4, j5⟩ ih
    have i1 : y1 = s := j1
    have i2 : T = S := j2
    have i3 : 0 ≤ z.toInt := j3
    have i4 : z.toInt ≤ i := j4
    have i5 : ∀ j, j < z.toInt.toNat → s.toInt.toNat.testBit j = false := j5
    clear j1 j2 j3 j4 j5
    subst i1; subst i2
    unfold x_X8_lowest_B2
    have b0 := bit_0 (s := y1) (z := z) (by omega) (by omega)
    by_cases c : ((y1 >>> (z &&& 31)) &&& 1) = 0
    · rw [if_pos c]
      have c := b0.mp c
      simp only [lt]
      have e1 := inc1 (x := z) (by omega)
      have ni : ¬ z.toInt.toNat = i := fun q => by rw [q, hi] at c; cases c
      refine ih (y1, z + 1, T) ⟨rfl, rfl, by show 0 ≤ (z + 1).toInt; omega, by show (z + 1).toInt ≤ i; omega, fun j hj => ?_⟩ (by show 21 - (z + 1).toInt.toNat < 21 - z.toInt.toNat; omega)
      have hj : j < (z + 1).toInt.toNat := hj
      by_cases c2 : j = z.toInt.toNat
      · rw [c2]; exact c
      · exact i5 j (by omega)
    · rw [if_neg c]
      refine ⟨_, rfl, rfl, ⟨i3, by show z.toInt < 20; omega⟩, ?_, i5⟩
      cases ht : y1.toInt.toNat.testBit z.toInt.toNat with
      | true => rfl
      | false => exact absurd (b0.mpr ht) c) N (s, 0, S) ⟨rfl, rfl, Int.le_refl 0, by show (0 : Int32).toInt ≤ (i : Int); simp only [Int32.reduceToInt]; omega, fun j hj => absurd hj (Nat.not_lt_zero j)⟩ (by show 21 - _ < N; omega)
  have e2 : T = S := e2
  subst e2
  exact ⟨z, e, e3, e4, e5⟩
/-- the row of who is fitted -/
def Fw (fit : Nat → Nat → Bool) (S : SM) : Prop := ∀ (z f : Nat), z < 20 → f < 100 → S.1 14 (100 * z + f) = b2 (fit z f = true)
theorem m_sv_in {N : Nat} (hN : 200 < N) {h4 : Int32 × Int32 × Int32 × SM → Option (Int32 × SM)} {Q : Int32 × SM → Prop} {s p f : Int32} {S : SM} {fit : Nat → Nat → Bool} (hF : Fw fit S) (hs : 0 ≤ s.toInt ∧ s.toInt ≤ 1048575) (hf : 0 ≤ f.toInt ∧ f.toInt < 100) (nx : ∀ t : Int32, t = (if an (fun z => s.toInt.toNat.testBit z && fit z f.toInt.toNat) 20 then S.1 4 f.toInt.toNat else 0) → ∃ r, x_X8_servedBySizes_b79 N h4 s f t p S = some r ∧ Q r) : ∃ r, lp (x_X8_servedBySizes_B16 N h4) N (s, p, f, 0, s, S) = some r ∧ Q r := by
  refine lp_tot (F := x_X8_servedBySizes_B16 N h4) (fun y => cn (fun z => y.2.2.2.2.1.toInt.toNat.testBit z) 20) (fun y => y.1 = s ∧ y.2.1 = p ∧ y.2.2.1 = f ∧ (y.2.2.2.1 = 0 ∨ y.2.2.2.1 = 1) ∧ y.2.2.2.2.2 = S ∧ (0 ≤ y.2.2.2.2.1.toInt ∧ y.2.2.2.2.1.toInt ≤ 1048575) ∧ (decide (y.2.2.2.1 = 1) || an (fun z => y.2.2.2.2.1.toInt.toNat.testBit z && fit z f.toInt.toNat) 20) = an (fun z => s.toInt.toNat.testBit z && fit z f.toInt.toNat) 20) (fun _ r => Q r) ?_ N (s, p, f, 0, s, S) ⟨rfl, rfl, rfl, Or.inl rfl, rfl, hs, rfl⟩ (Nat.lt_of_le_of_lt (cn_le (fun z => s.toInt.toNat.testBit z) 20) (by omega))
  intro hh ⟨y1, y2, y3, c, r, T⟩ ⟨j1, j2, j3, j4, j5, j6, j7⟩ ih
  have i1 : y1 = s := j1
  have i2 : y2 = p := j2
  have i3 : y3 = f := j3
  have i4 : c = 0 ∨ c = 1 := j4
  have i5 : T = S := j5
  have i6 : 0 ≤ r.toInt ∧ r.toInt ≤ 1048575 := j6
  have i7 : (decide (c = 1) || an (fun z => r.toInt.toNat.testBit z && fit z f.toInt.toNat) 20) = an (fun z => s.toInt.toNat.testBit z && fit z f.toInt.toNat) 20 := j7
  clear j1 j2 j3 j4 j5 j6 j7
  subst i1; subst i2; subst i3; subst i5
  unfold x_X8_servedBySizes_B16
  simp only []
  have b100 : inb y3 100 = true := i_inb.mpr ⟨by omega, by omega⟩
  by_cases c1 : r = 0
  · rw [if_pos c1]
    have en : an (fun z => r.toInt.toNat.testBit z && fit z y3.toInt.toNat) 20 = false := by
      rw [Bool.eq_false_iff, ne_eq, an_iff]
      rintro ⟨z, _, hz⟩
      rw [c1] at hz
      have : (0 : Int32).toInt.toNat = 0 := by decide
      rw [this, Nat.zero_testBit, Bool.false_and] at hz
      cases hz
    rw [en, Bool.or_false] at i7
    rcases i4 with c0 | c0
    · rw [if_pos c0]
      refine nx 0 ?_
      rw [← i7, c0, if_neg (by decide)]
    · rw [if_neg (by rw [c0]; decide), if_pos b100]
      refine nx _ ?_
      rw [← i7, c0, if_pos (by decide)]
      rfl
  · rw [if_neg c1]
    have c1 : ¬ r.toInt = 0 := fun z => c1 (i_eq.mpr z)
    have er : (r - 1).toInt = r.toInt - 1 := sub_l rfl (by decide) (by omega)
    have ea : (r &&& (r - 1)).toInt = ((r.toInt.toNat &&& (r.toInt.toNat - 1) : Nat) : Int) := and_n (by omega) (by rw [er]; omega)
    have ean : (r &&& (r - 1)).toInt.toNat = r.toInt.toNat &&& (r.toInt.toNat - 1) := by rw [ea]; rfl
    have el : r.toInt.toNat &&& (r.toInt.toNat - 1) ≤ r.toInt.toNat := Nat.and_le_left
    obtain ⟨z, z1, z2, z3, z4⟩ := m_lowest (N := N) hN (s := r) (S := T) (by omega)
    have hc := clr z3 z4
    -- fewer bits are left
    have less : cn (fun q => (r &&& (r - 1)).toInt.toNat.testBit q) 20 < cn (fun q => r.toInt.toNat.testBit q) 20 := by
      have e := cn_or (P := fun q => (r &&& (r - 1)).toInt.toNat.testBit q) (Q := fun q => decide (q = z.toInt.toNat)) (R := fun q => r.toInt.toNat.testBit q) 20 (fun q _ => by
        show (r.toInt.toNat.testBit q = true ↔ (r &&& (r - 1)).toInt.toNat.testBit q = true ∨ decide (q = z.toInt.toNat) = true) ∧ ¬ ((r &&& (r - 1)).toInt.toNat.testBit q = true ∧ decide (q = z.toInt.toNat) = true)
        rw [ean, hc q, Bool.and_eq_true, decide_eq_true_eq, decide_eq_true_eq]
        constructor
        · constructor
          · intro w
            by_cases a : q = z.toInt.toNat
            · exact Or.inr a
            · refine Or.inl ⟨Decidable.byContradiction (fun b => ?_), w⟩
              rw [z4 q (by omega)] at w
              cases w
          · rintro (w | w)
            · exact w.2
            · rw [w]; exact z3
        · rintro ⟨⟨w1, _⟩, w2⟩
          omega)
      have := cn_pos (P := fun q => decide (q = z.toInt.toNat)) (i := z.toInt.toNat) (decide_eq_true rfl) 20 (by omega)
      omega
    have split : an (fun q => r.toInt.toNat.testBit q && fit q y3.toInt.toNat) 20 = (fit z.toInt.toNat y3.toInt.toNat || an (fun q => (r &&& (r - 1)).toInt.toNat.testBit q && fit q y3.toInt.toNat) 20) := by
      refine Bool.eq_iff_iff.mpr ?_
      rw [Bool.or_eq_true, an_iff, an_iff]
      constructor
      · rintro ⟨q, h1, h2⟩
        rw [Bool.and_eq_true] at h2
        by_cases a : q = z.toInt.toNat
        · rw [← a]; exact Or.inl h2.2
        · refine Or.inr ⟨q, h1, ?_⟩
          show ((r &&& (r - 1)).toInt.toNat.testBit q && _) = true
          rw [ean, hc q, h2.1, h2.2, Bool.and_true, Bool.and_true, decide_eq_true_eq]
          refine Decidable.byContradiction (fun b => ?_)
          have w := h2.1
          rw [z4 q (by omega)] at w
          cases w
      · rintro (h1 | ⟨q, h1, h2⟩)
        · exact ⟨z.toInt.toNat, by omega, by rw [z3, h1]; rfl⟩
        · rw [ean, hc q, Bool.and_eq_true, Bool.and_eq_true] at h2
          exact ⟨q, h1, by rw [Bool.and_eq_true]; exact ⟨h2.1.2, h2.2⟩⟩
    have go : ∀ c' : Int32, (c' = 0 ∨ c' = 1) → (decide (c' = 1) || an (fun q => (r &&& (r - 1)).toInt.toNat.testBit q && fit q y3.toInt.toNat) 20) = an (fun q => y1.toInt.toNat.testBit q && fit q y3.toInt.toNat) 20 → ∃ r', hh (y1, y2, y3, c', r &&& (r - 1), T) = some r' ∧ Q r' := fun c' h1 h2 => ih (y1, y2, y3, c', r &&& (r - 1), T) ⟨rfl, rfl, rfl, h1, rfl, ⟨by show 0 ≤ (r &&& (r - 1)).toInt; omega, by show (r &&& (r - 1)).toInt ≤ 1048575; omega⟩, h2⟩ less
    unfold x_X8_servedBySizes_b44 x_X8_servedBySizes_b49
    simp only [lt]
    rcases i4 with c0 | c0
    · rw [if_pos c0, z1]
      simp only [Option.bind_some]
      have f1 : (100 * z).toInt = 100 * z.toInt := mul_l (by decide) rfl (by omega)
      have f2 : (100 * z + y3).toInt = 100 * z.toInt + y3.toInt := by rw [i_add, f1] <;> omega
      have n2 : (100 * z + y3).toNatClampNeg = 100 * z.toInt.toNat + y3.toInt.toNat := by rw [i_nat, f2]; omega
      rw [if_pos (show inb (100 * z + y3) 2000 = true from i_inb.mpr ⟨by omega, by omega⟩), n2, hF _ _ (by omega) (by omega)]
      simp only [b2_0]
      rw [c0, show decide ((0 : Int32) = 1) = false from by decide, Bool.false_or, split] at i7
      by_cases c2 : fit z.toInt.toNat y3.toInt.toNat = true
      · rw [if_neg (fun w => w c2)]
        refine go 1 (Or.inr rfl) ?_
        rw [← i7, c2, Bool.true_or, show decide ((1 : Int32) = 1) = true from by decide, Bool.true_or]
      · rw [if_pos c2]
        refine go 0 (Or.inl rfl) ?_
        rw [← i7, Bool.eq_false_iff.mpr c2, Bool.false_or, show decide ((0 : Int32) = 1) = false from by decide, Bool.false_or]
    · rw [if_neg (by rw [c0]; decide)]
      refine go 1 (Or.inr rfl) ?_
      rw [← i7, c0, show decide ((1 : Int32) = 1) = true from by decide, Bool.true_or, Bool.true_or]
theorem m_svs {N : Nat} (hN : 200 < N) {s : Int32} {S : SM} {fit : Nat → Nat → Bool} (hF : Fw fit S) (hs : 0 ≤ s.toInt ∧ s.toInt ≤ 1048575) : x_X8_servedBySizes N s S = some (ps (S.1 4) (fun f => an (fun z => s.toInt.toNat.testBit z && fit z f) 20) 100, S) := by
  obtain ⟨P, hP⟩ : ∃ P : Nat → Bool, P = fun f => an (fun z => s.toInt.toNat.testBit z && fit z f) 20 := ⟨_, rfl⟩
  rw [← hP]
  unfold x_X8_servedBySizes
  obtain ⟨r, e, e2⟩ := lp_tot (F := x_X8_servedBySizes_B4 N) (fun x => 101 - x.2.2.1.toInt.toNat) (fun x => x.1 = s ∧ 0 ≤ x.2.2.1.toInt ∧ x.2.2.1.toInt ≤ 100 ∧ x.2.1 = ps (S.1 4) P x.2.2.1.toInt.toNat ∧ x.2.2.2 = S) (fun _ r => r = (ps (S.1 4) P 100, S)) (by
    intro hh ⟨y1, p, f, T⟩ ⟨j1, j2, j3, j4, j5⟩ ih
    have i1 : y1 = s := j1
    have i2 : 0 ≤ f.toInt := j2
    have i3 : f.toInt ≤ 100 := j3
    have i4 : p = ps (S.1 4) P f.toInt.toNat := j4
    have i5 : T = S := j5
    clear j1 j2 j3 j4 j5
    subst i1; subst i5
    unfold x_X8_servedBySizes_B4
    simp only [i_le, Int32.reduceToInt]
    by_cases c1 : 100 ≤ f.toInt
    · rw [if_pos c1]
      refine ⟨_, rfl, ?_⟩
      rw [i4, show f.toInt.toNat = 100 by omega]
    · have e1 := inc1 (x := f) (by omega)
      rw [if_neg c1]
      refine m_sv_in hN hF hs (by omega) (fun t et => ?_)
      unfold x_X8_servedBySizes_b79
      simp only [lt]
      refine ih (y1, p + t, f + 1, T) ⟨rfl, by show 0 ≤ (f + 1).toInt; omega, by show (f + 1).toInt ≤ 100; omega, ?_, rfl⟩ (by show 101 - (f + 1).toInt.toNat < 101 - f.toInt.toNat; omega)
      show p + t = ps (T.1 4) P (f + 1).toInt.toNat
      rw [show (f + 1).toInt.toNat = f.toInt.toNat + 1 by omega, ps_1, i4, et, hP]) N (s, 0, 0, S) ⟨rfl, Int.le_refl 0, by show (0 : Int32).toInt ≤ 100; decide, rfl, rfl⟩ (by show 101 - _ < N; omega)
  rw [e, e2]
