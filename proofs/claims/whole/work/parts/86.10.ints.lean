/-! ints by their values -/
theorem i_lt {x y : Int32} : x < y ↔ x.toInt < y.toInt := Int32.lt_iff_toInt_lt
theorem i_le {x y : Int32} : x ≤ y ↔ x.toInt ≤ y.toInt := Int32.le_iff_toInt_le
theorem i_eq {x y : Int32} : x = y ↔ x.toInt = y.toInt := Int32.toInt_inj.symm
theorem i_lo (x : Int32) : -2147483648 ≤ x.toInt := Int32.le_toInt x
theorem i_hi (x : Int32) : x.toInt ≤ 2147483647 := Int32.toInt_le x
theorem i_bm {z : Int} (h1 : -2147483648 ≤ z) (h2 : z ≤ 2147483647) : z.bmod (2 ^ 32) = z := by
  rw [Int.bmod_eq_of_le] <;> omega
theorem i_add {x y : Int32} (h1 : -2147483648 ≤ x.toInt + y.toInt) (h2 : x.toInt + y.toInt ≤ 2147483647) : (x + y).toInt = x.toInt + y.toInt := by
  rw [Int32.toInt_add]; exact i_bm h1 h2
theorem i_sub {x y : Int32} (h1 : -2147483648 ≤ x.toInt - y.toInt) (h2 : x.toInt - y.toInt ≤ 2147483647) : (x - y).toInt = x.toInt - y.toInt := by
  rw [Int32.toInt_sub]; exact i_bm h1 h2
theorem i_mul {x y : Int32} (h1 : -2147483648 ≤ x.toInt * y.toInt) (h2 : x.toInt * y.toInt ≤ 2147483647) : (x * y).toInt = x.toInt * y.toInt := by
  rw [Int32.toInt_mul]; exact i_bm h1 h2
theorem i_neg {x : Int32} (h1 : -2147483647 ≤ x.toInt) : (-x).toInt = -x.toInt := by
  rw [Int32.toInt_neg]; exact i_bm (by have := i_hi x; omega) (by omega)
theorem i_nat (x : Int32) : x.toNatClampNeg = x.toInt.toNat := rfl
theorem i_inb {x : Int32} {n : Nat} : inb x n = true ↔ 0 ≤ x.toInt ∧ x.toInt < n := by
  unfold inb
  simp only [Bool.and_eq_true, Bool.not_eq_true', decide_eq_false_iff_not, decide_eq_true_eq, i_lt, i_nat]
  show (¬ x.toInt < 0 ∧ _) ↔ _
  omega
theorem i_l64 (x : Int32) : x.toInt64.toInt = x.toInt := Int32.toInt_toInt64 x
theorem l_lt {x y : Int64} : x < y ↔ x.toInt < y.toInt := Int64.lt_iff_toInt_lt
theorem l_eq {x y : Int64} : x = y ↔ x.toInt = y.toInt := Int64.toInt_inj.symm
theorem cmp_neg {x y : Int64} : lg_cmp x y < 0 ↔ x.toInt < y.toInt := by
  unfold lg_cmp
  by_cases h1 : x > y
  · have := l_lt.mp h1
    rw [if_pos h1]
    exact ⟨fun h => absurd h (by decide), fun h => by omega⟩
  · rw [if_neg h1]
    have h1 : ¬ y.toInt < x.toInt := fun h => h1 (l_lt.mpr h)
    by_cases h2 : x = y
    · rw [if_pos h2]
      have := l_eq.mp h2
      exact ⟨fun h => absurd h (by decide), fun h => by omega⟩
    · rw [if_neg h2]
      have h2 : ¬ x.toInt = y.toInt := fun h => h2 (l_eq.mpr h)
      exact ⟨fun _ => by omega, fun _ => by decide⟩
theorem cmp_pos {x y : Int64} : 0 < lg_cmp x y ↔ y.toInt < x.toInt := by
  unfold lg_cmp
  by_cases h1 : x > y
  · have := l_lt.mp h1
    rw [if_pos h1]
    exact ⟨fun _ => this, fun h => by decide⟩
  · rw [if_neg h1]
    have h1 : ¬ y.toInt < x.toInt := fun h => h1 (l_lt.mpr h)
    by_cases h2 : x = y
    · rw [if_pos h2]
      exact ⟨fun h => absurd h (by decide), fun h => absurd h h1⟩
    · rw [if_neg h2]
      exact ⟨fun h => absurd h (by decide), fun h => absurd h h1⟩
theorem i_div {x y : Int32} (h : y.toInt ≠ -1) : (x / y).toInt = x.toInt.tdiv y.toInt := by
  rw [Int32.toInt_div]
  have h1 := i_lo x
  have h2 := i_hi x
  have h3 : (x.toInt.tdiv y.toInt).natAbs ≤ x.toInt.natAbs := by rw [Int.natAbs_tdiv]; exact Nat.div_le_self _ _
  by_cases h4 : x.toInt.tdiv y.toInt = 2147483648
  · exfalso
    have h5 : x.toInt = -2147483648 := by omega
    rw [h5] at h4
    rcases Int.lt_trichotomy y.toInt 0 with hy | hy | hy
    · have : y.toInt ≤ -2 := by omega
      have h6 : ((-2147483648 : Int).tdiv y.toInt).natAbs = 2147483648 / y.toInt.natAbs := by rw [Int.natAbs_tdiv]; rfl
      rw [h4] at h6
      have h7 : 2147483648 / y.toInt.natAbs ≤ 2147483648 / 2 := Nat.div_le_div_left (by omega) (by omega)
      have h8 : (2147483648 : Int).natAbs = 2147483648 := rfl
      omega
    · rw [hy] at h4
      simp at h4
    · have h6 := Int.tdiv_nonneg (a := 2147483648) (b := y.toInt) (by decide) (Int.le_of_lt hy)
      rw [show (-2147483648 : Int) = -(2147483648) from rfl, Int.neg_tdiv] at h4
      omega
  · exact i_bm (by omega) (by omega)
theorem i_rm {x y : Int32} (hy : y.toInt ≠ -1) : (rmI x y).toInt = x.toInt.tmod y.toInt := by
  unfold rmI
  have h1 := i_lo x
  have h2 := i_hi x
  have e : x.toInt.tdiv y.toInt * y.toInt = x.toInt - x.toInt.tmod y.toInt := Int.tdiv_mul_self x.toInt y.toInt
  have b : (x.toInt.tmod y.toInt).natAbs ≤ x.toInt.natAbs := by rw [Int.natAbs_tmod]; exact Nat.mod_le _ _
  have sg : (0 ≤ x.toInt → 0 ≤ x.toInt.tmod y.toInt) ∧ (x.toInt ≤ 0 → x.toInt.tmod y.toInt ≤ 0) := by
    refine ⟨fun h => Int.tmod_nonneg _ h, fun h => ?_⟩
    have := Int.tmod_nonneg (a := -x.toInt) y.toInt (by omega)
    rw [Int.neg_tmod] at this
    omega
  have hm : (x / y * y).toInt = x.toInt - x.toInt.tmod y.toInt := by
    rw [i_mul, i_div hy, e] <;> rw [i_div hy, e] <;> omega
  have hs := i_sub (x := x) (y := x / y * y) (by rw [hm]; omega) (by rw [hm]; omega)
  rw [hs, hm]
  omega
/-! the reference's small helpers -/
def b2 (p : Prop) [Decidable p] : Int32 := if p then 1 else 0
theorem b2_01 (p : Prop) [Decidable p] : b2 p = 0 ∨ b2 p = 1 := by unfold b2; split <;> simp
theorem b2_0 {p : Prop} [Decidable p] : b2 p = 0 ↔ ¬ p := by unfold b2; split <;> simp_all
theorem m_in (N : Nat) (a b c : Int64) (g : SM) : x_X8_in N a b c g = some (b2 (b.toInt ≤ a.toInt ∧ a.toInt ≤ c.toInt), g) := by
  unfold x_X8_in b2
  by_cases h1 : a.toInt < b.toInt
  · rw [if_pos (cmp_neg.mpr h1), if_neg (by omega)]
  · rw [if_neg (fun h => h1 (cmp_neg.mp h))]
    by_cases h2 : c.toInt < a.toInt
    · rw [if_pos (cmp_pos.mpr h2), if_neg (by omega)]
    · rw [if_neg (fun h => h2 (cmp_pos.mp h)), if_pos (by omega)]
theorem m_isFoot (N : Nat) (a : Int32) (g : SM) : x_X8_isFoot N a g = some (b2 (0 ≤ a.toInt ∧ a.toInt ≤ 99), g) := by
  unfold x_X8_isFoot
  rw [m_in, i_l64]
  show (if _ then _ else _) = _
  rw [if_pos (b2_01 _)]
  rfl
theorem c_isFoot (N : Nat) (a : Int32) (g : Sg) : x_X7_isFoot N a g = some (b2 (0 ≤ a.toInt ∧ a.toInt ≤ 99), g) := by
  unfold x_X7_isFoot b2
  simp only [i_lt, i_le]
  show (if a.toInt < 0 then _ else if 100 ≤ a.toInt then _ else _) = _
  by_cases h1 : a.toInt < 0
  · rw [if_pos h1, if_neg (by omega)]
  · rw [if_neg h1]
    by_cases h2 : 100 ≤ a.toInt
    · rw [if_pos h2, if_neg (by omega)]
    · rw [if_neg h2, if_pos (by omega)]
