/-! copy -/
theorem m_copy {N : Nat} (hN : 200 < N) {a1 a2 a3 a4 a5 b : Int32} (S : SM) (h1 : 0 ≤ a1.toInt ∧ a1.toInt ≤ 3) (h3 : 0 ≤ a3.toInt ∧ a3.toInt ≤ 3) (h2 : 0 ≤ a2.toInt) (h4 : 0 ≤ a4.toInt) (h5 : 0 ≤ a5.toInt) (hs : a2.toInt + a5.toInt ≤ 40) (hd : a4.toInt + a5.toInt ≤ 40) (n src dst : Nat) (hn : n = a5.toNatClampNeg) (hsrc : src = 40 * a1.toNatClampNeg + a2.toNatClampNeg) (hdst : dst = 40 * a3.toNatClampNeg + a4.toNatClampNeg) (tt : Nat → Nat) (hb : (b = 0 ∧ ∀ c, tt c = c) ∨ (¬ b = 0 ∧ ∀ c, tt c = n - 1 - c)) (hov : ∀ c c', c' < c → c < n → src + tt c ≠ dst + tt c') : ∃ r, lp (x_X8_copy_B121 N) N (a1, a2, a3, a4, a5, b, (0 : Int32), S) = some r ∧ (r.1 = a5 ∧ (∀ j, j ≠ 21 → r.2.1 j = S.1 j) ∧ (∀ t, t < n → r.2.1 21 (dst + t) = S.1 21 (src + t)) ∧ ∀ p, (p < dst ∨ dst + n ≤ p) → r.2.1 21 p = S.1 21 p) := by
  have en : (n : Int) = a5.toInt := by rw [hn, i_nat]; omega
  have es : (src : Int) = 40 * a1.toInt + a2.toInt := by rw [hsrc, i_nat, i_nat]; omega
  have ed : (dst : Int) = 40 * a3.toInt + a4.toInt := by rw [hdst, i_nat, i_nat]; omega
  have htt : ∀ c, c < n → tt c < n := fun c hc => by rcases hb with ⟨_, e⟩ | ⟨_, e⟩ <;> rw [e] <;> omega
  have hti : ∀ c, c < n → tt (tt c) = c := fun c hc => by
    rcases hb with ⟨_, e⟩ | ⟨_, e⟩
    · rw [e, e]
    · rw [e, e]; omega
  refine lp_tot (F := x_X8_copy_B121 N) (fun x => 40 - x.2.2.2.2.2.2.1.toInt.toNat) (fun x => x.1 = a1 ∧ x.2.1 = a2 ∧ x.2.2.1 = a3 ∧ x.2.2.2.1 = a4 ∧ x.2.2.2.2.1 = a5 ∧ x.2.2.2.2.2.1 = b ∧ 0 ≤ x.2.2.2.2.2.2.1.toInt ∧ x.2.2.2.2.2.2.1.toInt ≤ a5.toInt ∧ (∀ j, j ≠ 21 → x.2.2.2.2.2.2.2.1 j = S.1 j) ∧ (∀ c : Nat, (c : Int) < x.2.2.2.2.2.2.1.toInt → x.2.2.2.2.2.2.2.1 21 (dst + tt c) = S.1 21 (src + tt c)) ∧ ∀ p, (∀ c : Nat, (c : Int) < x.2.2.2.2.2.2.1.toInt → p ≠ dst + tt c) → x.2.2.2.2.2.2.2.1 21 p = S.1 21 p) (fun _ r => r.1 = a5 ∧ (∀ j, j ≠ 21 → r.2.1 j = S.1 j) ∧ (∀ t, t < n → r.2.1 21 (dst + t) = S.1 21 (src + t)) ∧ ∀ p, (p < dst ∨ dst + n ≤ p) → r.2.1 21 p = S.1 21 p) ?_ N _ ⟨rfl, rfl, rfl, rfl, rfl, rfl, Int.le_refl 0, h5, fun _ _ => rfl, fun c hc => absurd hc (by show ¬ (c : Int) < (0 : Int32).toInt; simp only [Int32.reduceToInt]; omega), fun _ _ => rfl⟩ (by show 40 - _ < N; omega)
  intro h ⟨x1, x2, x3, x4, x5, x6, y, T⟩ ⟨i1, i2, i3, i4, i5, i6, i7, i8, i9, i10, i11⟩ ih
  have i1 : x1 = a1 := i1
  have i2 : x2 = a2 := i2
  have i3 : x3 = a3 := i3
  have i4 : x4 = a4 := i4
  have i5 : x5 = a5 := i5
  have i6 : x6 = b := i6
  subst i1; subst i2; subst i3; subst i4; subst i5; subst i6
  have i7 : 0 ≤ y.toInt := i7
  have i8 : y.toInt ≤ x5.toInt := i8
  have i9 : ∀ j, j ≠ 21 → T.1 j = S.1 j := i9
  have i10 : ∀ c : Nat, (c : Int) < y.toInt → T.1 21 (dst + tt c) = S.1 21 (src + tt c) := i10
  have i11 : ∀ p, (∀ c : Nat, (c : Int) < y.toInt → p ≠ dst + tt c) → T.1 21 p = S.1 21 p := i11
  unfold x_X8_copy_B121
  simp only [i_le (x := x5)]
  by_cases hx : x5.toInt ≤ y.toInt
  · rw [if_pos hx]
    refine ⟨_, rfl, rfl, i9, fun t ht => ?_, fun p hp => i11 p (fun c hc => ?_)⟩
    · have := i10 (tt t) (by have := htt t ht; omega)
      rw [hti t ht] at this
      exact this
    · have := htt c (by omega)
      omega
  · rw [if_neg hx]
    obtain ⟨q, hq⟩ : ∃ q : Nat, q = y.toNatClampNeg := ⟨_, rfl⟩
    have eq : (q : Int) = y.toInt := by rw [hq, i_nat]; omega
    have e1 := inc1 (x := y) (by omega)
    have hqn : tt q < n := htt q (by omega)
    have key : ∀ t : Int32, (t.toInt = (tt q : Int)) → ∃ r, x_X8_copy_b145 N h x1 x2 x3 x4 x5 x6 y t T = some r ∧ (r.1 = x5 ∧ (∀ j, j ≠ 21 → r.2.1 j = S.1 j) ∧ (∀ t, t < n → r.2.1 21 (dst + t) = S.1 21 (src + t)) ∧ ∀ p, (p < dst ∨ dst + n ≤ p) → r.2.1 21 p = S.1 21 p) := by
      intro t ht
      have f1 := s40 h1 (b := x2) (by omega)
      have f2 := s40 h3 (b := x4) (by omega)
      have f3 : (40 * x1 + x2 + t).toInt = src + tt q := by rw [i_add] <;> omega
      have f4 : (40 * x3 + x4 + t).toInt = dst + tt q := by rw [i_add] <;> omega
      have n3 : (40 * x1 + x2 + t).toNatClampNeg = src + tt q := by rw [i_nat, f3]; omega
      have n4 : (40 * x3 + x4 + t).toNatClampNeg = dst + tt q := by rw [i_nat, f4]; omega
      unfold x_X8_copy_b145
      rw [if_pos (i_inb.mpr ⟨by omega, by omega⟩), if_pos (i_inb.mpr ⟨by omega, by omega⟩), n3, n4]
      simp only [lt]
      refine ih (x1, x2, x3, x4, x5, x6, y + 1, _) ⟨rfl, rfl, rfl, rfl, rfl, rfl, by show 0 ≤ (y + 1).toInt; omega, by show (y + 1).toInt ≤ x5.toInt; omega, fun j hj => ?_, fun c hc => ?_, fun p hp => ?_⟩ (by show 40 - (y + 1).toInt.toNat < 40 - y.toInt.toNat; omega)
      · show up T.1 21 _ j = S.1 j
        rw [up_n _ _ hj]; exact i9 j hj
      · have hc : (c : Int) < (y + 1).toInt := hc
        show upd (T.1 21) (dst + tt q) (T.1 21 (src + tt q)) (dst + tt c) = _
        by_cases hcq : c = q
        · subst hcq
          rw [upd_s]
          exact i11 _ (fun c' hc' => hov c c' (by omega) (by omega))
        · have : tt c ≠ tt q := fun e => hcq (by rw [← hti c (by omega), e, hti q (by omega)])
          rw [upd_n _ _ (by omega)]
          exact i10 c (by omega)
      · have hp : ∀ c : Nat, (c : Int) < (y + 1).toInt → p ≠ dst + tt c := hp
        show upd (T.1 21) (dst + tt q) (T.1 21 (src + tt q)) p = _
        rw [upd_n _ _ (hp q (by omega))]
        exact i11 p (fun c hc => hp c (by omega))
    rcases hb with ⟨b0, e⟩ | ⟨b0, e⟩
    · rw [if_pos b0]
      exact key y (by rw [e]; omega)
    · rw [if_neg b0]
      refine key _ ?_
      have g1 : (x5 - 1).toInt = x5.toInt - 1 := by rw [i_sub] <;> simp only [Int32.reduceToInt] <;> omega
      rw [e, i_sub] <;> omega
