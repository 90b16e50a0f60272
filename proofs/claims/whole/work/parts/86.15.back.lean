/-- what the reference's way back leaves -/
def MB (S T : SM) : Prop := (∀ j, j ≠ 0 → j ≠ 4 → j ≠ 6 → j ≠ 7 → j ≠ 8 → T.1 j = S.1 j) ∧ (∀ f, f < 100 → T.1 4 f = S.1 16 f) ∧ (∀ m, m < 5 → T.1 6 m = S.1 17 m ∧ T.1 7 m = S.1 17 (5 + m) ∧ T.1 8 m = S.1 17 (10 + m)) ∧ (T.1 0 15 = S.1 0 46 ∧ T.1 0 7 = S.1 0 47 ∧ T.1 0 8 = S.1 0 48 ∧ T.1 0 9 = S.1 0 49 ∧ T.1 0 4 = S.1 0 50) ∧ ∀ k, k ≠ 15 → k ≠ 7 → k ≠ 8 → k ≠ 9 → k ≠ 4 → T.1 0 k = S.1 0 k
theorem m_back_in (S S1 : SM) {N : Nat} (hN : 200 < N) (h1 : ∀ j, j ≠ 4 → S1.1 j = S.1 j) (h2 : ∀ f : Nat, f < 100 → S1.1 4 f = S.1 16 f) : ∃ r, lp (x_X8_back_B39 N) N ((0 : Int32), S1) = some r ∧ (r.1 = S.1 0 46 ∧ MB S r.2) := by
  refine lp_tot (F := x_X8_back_B39 N) (fun x => 5 - x.1.toInt.toNat) (fun x => 0 ≤ x.1.toInt ∧ x.1.toInt ≤ 5 ∧ (∀ j, j ≠ 4 → j ≠ 6 → j ≠ 7 → j ≠ 8 → x.2.1 j = S.1 j) ∧ (∀ f : Nat, f < 100 → x.2.1 4 f = S.1 16 f) ∧ ∀ m : Nat, (m : Int) < x.1.toInt → x.2.1 6 m = S.1 17 m ∧ x.2.1 7 m = S.1 17 (5 + m) ∧ x.2.1 8 m = S.1 17 (10 + m)) (fun _ r => r.1 = S.1 0 46 ∧ MB S r.2) ?_ N _ ⟨Int.le_refl 0, Int.le_of_lt_add_one (by decide : (0 : Int32).toInt < 5 + 1) , fun j a b d e => h1 j a, h2, fun m hm => absurd hm (by show ¬ (m : Int) < (0 : Int32).toInt; simp only [Int32.reduceToInt]; omega)⟩ (by show 5 - _ < N; omega)
  intro h x ⟨i1, i2, i3, i4, i5⟩ ih
  unfold x_X8_back_B39
  simp only [lt, i_le, Int32.reduceToInt]
  by_cases hx : 5 ≤ x.1.toInt
  · rw [if_pos hx]
    have e0 := i3 0 (by decide) (by decide) (by decide) (by decide)
    refine ⟨_, rfl, ?_, ?_, i4, fun m hm => i5 m (by omega), ?_, ?_⟩
    · show x.2.1 0 46 = S.1 0 46
      rw [e0]
    · intro j a b d e f
      show up _ 0 _ j = S.1 j
      simp only [up_n _ _ a]
      exact i3 j b d e f
    · refine ⟨?_, ?_, ?_, ?_, ?_⟩
      · show x.2.1 0 46 = _; rw [e0]
      · show x.2.1 0 47 = _; rw [e0]
      · show x.2.1 0 48 = _; rw [e0]
      · show x.2.1 0 49 = _; rw [e0]
      · show x.2.1 0 50 = _; rw [e0]
    · intro k k1 k2 k3 k4 k5
      show upd (upd (upd (upd (upd (x.2.1 0) 15 _) 7 _) 8 _) 9 _) 4 _ k = _
      rw [upd_n _ _ k5, upd_n _ _ k4, upd_n _ _ k3, upd_n _ _ k2, upd_n _ _ k1, e0]
  · have hr : 0 ≤ x.1.toInt ∧ x.1.toInt < 5 := ⟨i1, by omega⟩
    have b5 : inb x.1 5 = true := i_inb.mpr ⟨i1, by omega⟩
    have b15 : inb x.1 15 = true := i_inb.mpr ⟨i1, by omega⟩
    have b15a : inb ((5 : Int32) + x.1) 15 = true := i_inb.mpr (by rw [a5 hr]; omega)
    have b15b : inb ((10 : Int32) + x.1) 15 = true := i_inb.mpr (by rw [a10 hr]; omega)
    have n5 : ((5 : Int32) + x.1).toNatClampNeg = 5 + x.1.toNatClampNeg := by rw [i_nat, i_nat, a5 hr]; omega
    have n10 : ((10 : Int32) + x.1).toNatClampNeg = 10 + x.1.toNatClampNeg := by rw [i_nat, i_nat, a10 hr]; omega
    rw [if_neg hx]
    simp only [b5, b15, b15a, b15b, if_true, n5, n10]
    obtain ⟨k, hk⟩ : ∃ k, k = x.1.toNatClampNeg := ⟨_, rfl⟩
    have ek : (k : Int) = x.1.toInt := by rw [hk, i_nat]; omega
    rw [← hk]
    have e1 := inc1 (x := x.1) (by omega)
    refine ih (_, _) ⟨by show 0 ≤ (x.1 + 1).toInt; omega, by show (x.1 + 1).toInt ≤ 5; omega, fun j a b d e => ?_, i4, fun m hm => ?_⟩ (by show 5 - (x.1 + 1).toInt.toNat < 5 - x.1.toInt.toNat; omega)
    · show up _ 8 _ j = S.1 j
      simp only [up_n _ _ b, up_n _ _ d, up_n _ _ e]
      exact i3 j a b d e
    · have hm : (m : Int) < (x.1 + 1).toInt := hm
      show upd (x.2.1 6) k (x.2.1 17 k) m = _ ∧ upd (x.2.1 7) k (x.2.1 17 (5 + k)) m = _ ∧ upd (x.2.1 8) k (x.2.1 17 (10 + k)) m = _
      rw [i3 17 (by decide) (by decide) (by decide) (by decide)]
      by_cases hmk : m = k
      · subst hmk
        exact ⟨upd_s _ _ _, upd_s _ _ _, upd_s _ _ _⟩
      · obtain ⟨w1, w2, w3⟩ := i5 m (by omega)
        rw [upd_n _ _ hmk, upd_n _ _ hmk, upd_n _ _ hmk]
        exact ⟨w1, w2, w3⟩
theorem m_back (S : SM) {N : Nat} (hN : 200 < N) (hne : ¬ S.1 0 46 = -1) : ∃ r, x_X8_back N S = some r ∧ (r.1 = S.1 0 46 ∧ MB S r.2) := by
  unfold x_X8_back
  rw [if_neg hne]
  refine lp_tot (F := x_X8_back_B13 N) (fun x => 100 - x.1.toInt.toNat) (fun x => 0 ≤ x.1.toInt ∧ x.1.toInt ≤ 100 ∧ (∀ j, j ≠ 4 → x.2.1 j = S.1 j) ∧ ∀ f : Nat, (f : Int) < x.1.toInt → x.2.1 4 f = S.1 16 f) (fun _ r => r.1 = S.1 0 46 ∧ MB S r.2) ?_ N _ ⟨Int.le_refl 0, Int.le_of_lt_add_one (by decide : (0 : Int32).toInt < 100 + 1) , fun _ _ => rfl, fun m hm => absurd hm (by show ¬ (m : Int) < (0 : Int32).toInt; simp only [Int32.reduceToInt]; omega)⟩ (by show 100 - _ < N; omega)
  intro h x ⟨i1, i2, i3, i4⟩ ih
  unfold x_X8_back_B13
  simp only [lt, i_le, Int32.reduceToInt]
  by_cases hx : 100 ≤ x.1.toInt
  · rw [if_pos hx]
    exact m_back_in S x.2 hN i3 (fun f hf => i4 f (by omega))
  · have b1 : inb x.1 100 = true := i_inb.mpr ⟨i1, by omega⟩
    rw [if_neg hx]
    simp only [b1, if_true]
    have e1 := inc1 (x := x.1) (by omega)
    refine ih (_, _) ⟨by show 0 ≤ (x.1 + 1).toInt; omega, by show (x.1 + 1).toInt ≤ 100; omega, fun j a => ?_, fun f hf => ?_⟩ (by show 100 - (x.1 + 1).toInt.toNat < 100 - x.1.toInt.toNat; omega)
    · show up _ 4 _ j = S.1 j
      rw [up_n _ _ a]; exact i3 j a
    · have hf : (f : Int) < (x.1 + 1).toInt := hf
      show upd (x.2.1 4) x.1.toNatClampNeg (x.2.1 16 x.1.toNatClampNeg) f = S.1 16 f
      rw [i3 16 (by decide)]
      by_cases hj : f = x.1.toNatClampNeg
      · subst hj; rw [upd_s]
      · rw [upd_n _ _ hj]
        rw [i_nat] at hj
        exact i4 f (by omega)
theorem o_back {TX : TXt} {g : Sg} {S : SM} (h : Inv TX g S) {N : Nat} (hN : 200 < N) : Sim TX (x_X7_back N g) (x_X8_back N S) := by
  have hI := h
  obtain ⟨hS, hT, hM, hK, hB, hP, hH, hX⟩ := h
  rcases hB with ⟨b1, b2⟩ | ⟨b1, b2, b3, b4, b5, b6⟩
  · have e1 : x_X7_back N g = some (-3, g) := by unfold x_X7_back; rw [if_pos b1]
    have e2 : x_X8_back N S = some (-3, S) := by unfold x_X8_back; rw [if_pos b2]
    rw [e1, e2]; exact Sim.mk hI
  · have k4 := b2.2.2.2.2
    have n1 : ¬ g 0 2 = 0 := by rw [b1]; decide
    have n2 : ¬ S.1 0 46 = -1 := by rw [← k4.1, i_eq]; simp only [Int32.reduceToInt]; omega
    obtain ⟨G, c1, c2, c3, c4, c5⟩ := c_back N g n1
    obtain ⟨r, m1, m2, m3, m4, m5, m6, m7⟩ := m_back S hN n2
    obtain ⟨r0, T⟩ := r
    have m2 : r0 = S.1 0 46 := m2
    have m3 : ∀ j, j ≠ 0 → j ≠ 4 → j ≠ 6 → j ≠ 7 → j ≠ 8 → T.1 j = S.1 j := m3
    rw [c1, m1, m2, ← k4.1]
    have c2 : ∀ j, ((j ≠ 1 ∧ j ≠ 11) ∧ (j ≠ 12 ∧ j ≠ 13) ∧ (j ≠ 14 ∧ j ≠ 15)) → G j = g j := fun j hj => c2 j hj.1.1 hj.1.2 hj.2.1.1 hj.2.1.2 hj.2.2.1 hj.2.2.2
    have m3 : ∀ j, ((j ≠ 0 ∧ j ≠ 4) ∧ (j ≠ 6 ∧ j ≠ 7) ∧ j ≠ 8) → T.1 j = S.1 j := fun j hj => m3 j hj.1.1 hj.1.2 hj.2.1.1 hj.2.1.2 hj.2.2
    have m7 : ∀ k, ((k ≠ 15 ∧ k ≠ 7) ∧ (k ≠ 8 ∧ k ≠ 9) ∧ k ≠ 4) → T.1 0 k = S.1 0 k := fun k hj => m7 k hj.1.1 hj.1.2 hj.2.1.1 hj.2.1.2 hj.2.2
    have g4 := c2 4 (by decide)
    refine Sim.mk ⟨?_, ?_, ?_, ?_, Or.inr ⟨?_, ?_, ?_, ?_, ?_, ?_⟩, ?_, ?_, ?_⟩
    · have p := m6
      rw [c3 0 (by decide), c3 1 (by decide), c3 2 (by decide), c3 3 (by decide), c3 4 (by decide), g4, p.1, p.2.1, p.2.2.1, p.2.2.2.1, p.2.2.2.2]; exact b2
    · intro f hf
      rw [c4 f hf, m4 f hf]; exact b4 f hf
    · intro m hm
      obtain ⟨q1, q2, q3, q4⟩ := c5 m hm
      obtain ⟨w1, w2, w3⟩ := m5 m hm
      rw [q2, q3, q4, w1, w2, w3]; exact b5 m hm
    · intro m hm
      rw [c3 4 (by decide)] at hm
      rw [(c5 m (by omega)).1, m3 5 (by decide), b6 m hm]
      exact hK m (by omega)
    · rw [c2 0 (by decide)]; exact b1
    · rw [c2 2 (by decide), g4, m7 47 (by decide), m7 48 (by decide), m7 49 (by decide), m7 50 (by decide), m7 46 (by decide)]; exact b2
    · rw [c2 2 (by decide), c3 4 (by decide)]; exact Int.le_refl _
    · rw [c2 16 (by decide), m3 16 (by decide)]; exact b4
    · rw [c2 18 (by decide), c2 19 (by decide), c2 20 (by decide), m3 17 (by decide)]; exact b5
    · intro m hm
      rw [c2 2 (by decide)] at hm
      rw [c2 17 (by decide)]
      exact (c5 m (by omega)).1.symm
    · unfold IvP
      rw [c2 3 (by decide), c2 21 (by decide), m7 6 (by decide), m3 3 (by decide)]
      exact hP
    · intro k hk
      rw [c2 30 (by decide), c2 31 (by decide), m3 18 (by decide), m3 19 (by decide), m3 20 (by decide), m3 21 (by decide), c2 (33 + k) (by omega)]
      exact hH k hk
    · unfold IvX
      rw [g4, c2 26 (by decide), c2 27 (by decide), m7 3 (by decide), m3 1 (by decide), m3 2 (by decide)]
      exact hX
