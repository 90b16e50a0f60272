theorem rm_n {x y : Int32} (hx : 0 ≤ x.toInt) (hy : 0 < y.toInt) : rmI x y = 0 ↔ y.toInt.toNat ∣ x.toInt.toNat := by
  have e : (rmI x y).toInt = x.toInt.tmod y.toInt := i_rm (by omega)
  rw [i_eq, e, Int.tmod_eq_emod_of_nonneg hx]
  have e7 : x.toInt % y.toInt = ((x.toInt.toNat % y.toInt.toNat : Nat) : Int) := by
    rw [Int.natCast_emod, Int.toNat_of_nonneg hx, Int.toNat_of_nonneg (show 0 ≤ y.toInt by omega)]
  rw [e7, Nat.dvd_iff_mod_eq_zero]
  show ((x.toInt.toNat % y.toInt.toNat : Nat) : Int) = 0 ↔ _
  omega
theorem c_common {N : Nat} {a n : Int32} {g : Sg} (ha : 0 ≤ a.toInt) (hn : 1 ≤ n.toInt) (hN : n.toInt.toNat < N) : ∃ d : Int32, x_X7_commonDivisor N a n g = some (d, g) ∧ d.toInt = Nat.gcd a.toInt.toNat n.toInt.toNat := by
  obtain ⟨w, hw⟩ : ∃ w, w = Nat.gcd a.toInt.toNat n.toInt.toNat := ⟨_, rfl⟩
  have wp : 0 < w := by rw [hw]; exact Nat.gcd_pos_of_pos_right _ (by omega)
  have wn : w ≤ n.toInt.toNat := by rw [hw]; exact Nat.gcd_le_right _ (by omega)
  have wa : w ∣ a.toInt.toNat := by rw [hw]; exact Nat.gcd_dvd_left _ _
  have wb : w ∣ n.toInt.toNat := by rw [hw]; exact Nat.gcd_dvd_right _ _
  unfold x_X7_commonDivisor
  obtain ⟨r, e, e2⟩ := lp_tot (F := x_X7_commonDivisor_B2 N) (fun x => x.2.2.1.toInt.toNat) (fun x => x.1 = a ∧ x.2.1 = n ∧ (w : Int) ≤ x.2.2.1.toInt ∧ x.2.2.2 = g) (fun _ r => r.1.toInt = w ∧ r.2 = g) (by
    intro hh ⟨y1, y2, d, T⟩ ⟨j1, j2, j3, j4⟩ ih
    have i1 : y1 = a := j1
    have i2 : y2 = n := j2
    have i3 : (w : Int) ≤ d.toInt := j3
    have i4 : T = g := j4
    clear j1 j2 j3 j4
    subst i1; subst i2; subst i4
    unfold x_X7_commonDivisor_B2
    simp only [i_le, Int32.reduceToInt]
    by_cases c1 : d.toInt ≤ 1
    · rw [if_pos c1]
      exact ⟨_, rfl, by show (1 : Int32).toInt = w; simp only [Int32.reduceToInt]; omega, rfl⟩
    · have nd : ¬ d = 0 := fun q => c1 (by rw [q]; decide)
      obtain ⟨d', hd⟩ : ∃ d' : Int32, d' = d + -1 := ⟨_, rfl⟩
      have e1 : d'.toInt = d.toInt - 1 := by
        have := i_hi d
        have en : (-1 : Int32).toInt = -1 := by decide
        rw [hd, i_add, en]
        · omega
        · rw [en]; omega
        · rw [en]; omega
      rw [if_neg c1, if_neg nd, if_neg nd]
      have go : ¬ (d.toInt.toNat ∣ y1.toInt.toNat ∧ d.toInt.toNat ∣ y2.toInt.toNat) → ∃ r, x_X7_commonDivisor_b21 N hh y1 y2 d T = some r ∧ r.1.toInt = w ∧ r.2 = T := by
        intro hno
        unfold x_X7_commonDivisor_b21
        rw [← hd]
        simp only [lt]
        refine ih (y1, y2, d', T) ⟨rfl, rfl, ?_, rfl⟩ (by show d'.toInt.toNat < d.toInt.toNat; omega)
        show (w : Int) ≤ d'.toInt
        by_cases c2 : (w : Int) = d.toInt
        · exfalso
          refine hno ?_
          rw [show d.toInt.toNat = w by omega]
          exact ⟨wa, wb⟩
        · omega
      by_cases c2 : rmI y1 d = 0
      · rw [if_pos c2]
        rw [rm_n ha (by omega)] at c2
        by_cases c3 : rmI y2 d = 0
        · rw [if_pos c3]
          rw [rm_n (by omega) (by omega)] at c3
          refine ⟨_, rfl, ?_, rfl⟩
          show d.toInt = w
          have h1 : d.toInt.toNat ∣ w := by rw [hw]; exact Nat.dvd_gcd c2 c3
          have h2 := Nat.le_of_dvd wp h1
          omega
        · rw [if_neg c3]
          rw [rm_n (by omega) (by omega)] at c3
          exact go (fun z => c3 z.2)
      · rw [if_neg c2]
        rw [rm_n ha (by omega)] at c2
        exact go (fun z => c2 z.1)) N (a, n, n, g) ⟨rfl, rfl, by show (w : Int) ≤ n.toInt; omega, rfl⟩ hN
  obtain ⟨d, T⟩ := r
  have e3 : T = g := e2.2
  subst e3
  exact ⟨d, e, by rw [e2.1, hw]⟩
