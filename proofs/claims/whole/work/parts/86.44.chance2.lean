theorem m_gcd {N : Nat} {n p : Int32} {a u v : Int64} {S : SM} (w : Nat) (hu : 0 ≤ u.toInt) (hv : 0 ≤ v.toInt) (hg : Nat.gcd u.toInt.toNat v.toInt.toNat = w) (hw : 0 < w) (hN : v.toInt.toNat < N) : ∃ d : Int64, lp (x_X8_chance_B83 N) N (n, p, a, u, v, S) = some ((if p = 0 then a / d else n.toInt64 / d), S) ∧ d.toInt = w := by
  obtain ⟨r, e, e2⟩ := lp_tot (F := x_X8_chance_B83 N) (fun x => x.2.2.2.2.1.toInt.toNat) (fun x => x.1 = n ∧ x.2.1 = p ∧ x.2.2.1 = a ∧ 0 ≤ x.2.2.2.1.toInt ∧ 0 ≤ x.2.2.2.2.1.toInt ∧ Nat.gcd x.2.2.2.1.toInt.toNat x.2.2.2.2.1.toInt.toNat = w ∧ x.2.2.2.2.2 = S) (fun _ r => ∃ d : Int64, r = ((if p = 0 then a / d else n.toInt64 / d), S) ∧ d.toInt = w) (by
    intro hh ⟨y1, y2, y3, u, v, T⟩ ⟨j1, j2, j3, j4, j5, j6, j7⟩ ih
    have i1 : y1 = n := j1
    have i2 : y2 = p := j2
    have i3 : y3 = a := j3
    have i4 : 0 ≤ u.toInt := j4
    have i5 : 0 ≤ v.toInt := j5
    have i6 : Nat.gcd u.toInt.toNat v.toInt.toNat = w := j6
    have i7 : T = S := j7
    clear j1 j2 j3 j4 j5 j6 j7
    subst i1; subst i2; subst i3; subst i7
    unfold x_X8_chance_B83
    simp only [cmp_0, lt]
    have z64 : (0 : Int64).toInt = 0 := by decide
    rw [z64]
    by_cases c1 : v.toInt = 0
    · rw [c1] at i6
      have i6 : Nat.gcd u.toInt.toNat 0 = w := i6
      rw [Nat.gcd_zero_right] at i6
      have nu : ¬ u = 0 := fun q => by rw [q] at i6; have : (0 : Int64).toInt.toNat = 0 := by decide
                                       omega
      rw [if_pos c1, if_neg nu, if_neg nu]
      by_cases c2 : y2 = 0
      · rw [if_pos c2]; exact ⟨_, rfl, u, by rw [if_pos c2], by omega⟩
      · rw [if_neg c2]; exact ⟨_, rfl, u, by rw [if_neg c2], by omega⟩
    · have nv : ¬ v = 0 := fun q => c1 (by rw [q]; decide)
      rw [if_neg c1, if_neg nv]
      have er := l_rm i4 (show 0 < v.toInt by omega)
      have h5 := Int.emod_nonneg u.toInt c1
      have h6 := Int.emod_lt_of_pos u.toInt (show 0 < v.toInt by omega)
      refine ih (y1, y2, y3, v, rmL u v, T) ⟨rfl, rfl, rfl, i5, by show 0 ≤ (rmL u v).toInt; omega, ?_, rfl⟩ (by show (rmL u v).toInt.toNat < v.toInt.toNat; omega)
      show Nat.gcd v.toInt.toNat (rmL u v).toInt.toNat = w
      rw [er, ← i6]
      have e7 : (u.toInt % v.toInt).toNat = u.toInt.toNat % v.toInt.toNat := by
        have : u.toInt % v.toInt = ((u.toInt.toNat % v.toInt.toNat : Nat) : Int) := by
          rw [Int.natCast_emod, Int.toNat_of_nonneg i4, Int.toNat_of_nonneg i5]
        rw [this]; rfl
      rw [e7, Nat.gcd_comm u.toInt.toNat, Nat.gcd_comm v.toInt.toNat, ← Nat.gcd_rec]) N (n, p, a, u, v, S) ⟨rfl, rfl, rfl, hu, hv, hg, rfl⟩ hN
  obtain ⟨d, e3, e4⟩ := e2
  exact ⟨d, by rw [e, e3], e4⟩
