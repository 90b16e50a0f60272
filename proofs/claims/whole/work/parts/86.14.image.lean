/-! image, back -/
theorem cpy_lt {α : Type} {f g : Nat → α} {n k : Nat} (h : k < n) : va_cpy f g 0 0 n k = f k := by
  unfold va_cpy
  rw [if_pos ⟨Nat.zero_le _, by omega⟩]
  exact congrArg f (by omega)
theorem tn0 : (0 : Int32).toNatClampNeg = 0 := by decide
theorem tn5 : (5 : Int32).toNatClampNeg = 5 := by decide
theorem tn100 : (100 : Int32).toNatClampNeg = 100 := by decide
theorem ac100 : acb 0 0 100 100 100 = true := by decide
theorem ac5 : acb 0 0 5 5 5 = true := by decide
/-- the class's image -/
theorem c_image (N : Nat) (g : Sg) : ∃ G : Sg, x_X7_image N g = some (g 1 4, G) ∧ (∀ j, j ≠ 0 → j ≠ 2 → j ≠ 16 → j ≠ 17 → j ≠ 18 → j ≠ 19 → j ≠ 20 → G j = g j) ∧ G 0 2 = 1 ∧ (∀ k, k < 5 → G 2 k = g 1 k) ∧ (∀ f, f < 100 → G 16 f = g 11 f) ∧ ∀ m, m < 5 → G 17 m = g 12 m ∧ G 18 m = g 13 m ∧ G 19 m = g 14 m ∧ G 20 m = g 15 m := by
  unfold x_X7_image x_X5_takeOver_2
  simp only [lt, ac100, ac5, if_true, Option.bind_some, tn0, tn5, tn100]
  refine ⟨_, rfl, ?_, rfl, ?_, ?_, ?_⟩
  · intro j h0 h2 h16 h17 h18 h19 h20
    simp only [up_n _ _ h0, up_n _ _ h2, up_n _ _ h16, up_n _ _ h17, up_n _ _ h18, up_n _ _ h19, up_n _ _ h20]
  · intro k hk
    match k, hk with
    | 0, _ => rfl
    | 1, _ => rfl
    | 2, _ => rfl
    | 3, _ => rfl
    | 4, _ => rfl
  · intro f hf
    exact cpy_lt (f := g 11) hf
  · intro m hm
    exact ⟨cpy_lt (f := g 12) hm, cpy_lt (f := g 13) hm, cpy_lt (f := g 14) hm, cpy_lt (f := g 15) hm⟩
/-- the class's way back -/
theorem c_back (N : Nat) (g : Sg) (h : ¬ g 0 2 = 0) : ∃ G : Sg, x_X7_back N g = some (g 2 4, G) ∧ (∀ j, j ≠ 1 → j ≠ 11 → j ≠ 12 → j ≠ 13 → j ≠ 14 → j ≠ 15 → G j = g j) ∧ (∀ k, k < 5 → G 1 k = g 2 k) ∧ (∀ f, f < 100 → G 11 f = g 16 f) ∧ ∀ m, m < 5 → G 12 m = g 17 m ∧ G 13 m = g 18 m ∧ G 14 m = g 19 m ∧ G 15 m = g 20 m := by
  unfold x_X7_back x_X5_takeOver_1
  simp only [lt, ac100, ac5, if_true, Option.bind_some, tn0, tn5, tn100, if_neg h]
  refine ⟨_, rfl, ?_, ?_, ?_, ?_⟩
  · intro j h1 h11 h12 h13 h14 h15
    simp only [up_n _ _ h1, up_n _ _ h11, up_n _ _ h12, up_n _ _ h13, up_n _ _ h14, up_n _ _ h15]
  · intro k hk
    match k, hk with
    | 0, _ => rfl
    | 1, _ => rfl
    | 2, _ => rfl
    | 3, _ => rfl
    | 4, _ => rfl
  · intro f hf
    exact cpy_lt (f := g 16) hf
  · intro m hm
    exact ⟨cpy_lt (f := g 17) hm, cpy_lt (f := g 18) hm, cpy_lt (f := g 19) hm, cpy_lt (f := g 20) hm⟩
theorem a5 {x : Int32} (h : 0 ≤ x.toInt ∧ x.toInt < 5) : ((5 : Int32) + x).toInt = 5 + x.toInt := by rw [i_add] <;> simp only [Int32.reduceToInt] <;> omega
theorem a10 {x : Int32} (h : 0 ≤ x.toInt ∧ x.toInt < 5) : ((10 : Int32) + x).toInt = 10 + x.toInt := by rw [i_add] <;> simp only [Int32.reduceToInt] <;> omega
theorem inc1 {x : Int32} (h : x.toInt < 100000) : (x + 1).toInt = x.toInt + 1 := by have := i_lo x; rw [i_add] <;> simp only [Int32.reduceToInt] <;> omega
/-- what the reference's image leaves -/
def MI (S T : SM) : Prop := (∀ j, j ≠ 0 → j ≠ 16 → j ≠ 17 → T.1 j = S.1 j) ∧ (∀ f, f < 100 → T.1 16 f = S.1 4 f) ∧ (∀ m, m < 5 → T.1 17 m = S.1 6 m ∧ T.1 17 (5 + m) = S.1 7 m ∧ T.1 17 (10 + m) = S.1 8 m) ∧ (T.1 0 46 = S.1 0 15 ∧ T.1 0 47 = S.1 0 7 ∧ T.1 0 48 = S.1 0 8 ∧ T.1 0 49 = S.1 0 9 ∧ T.1 0 50 = S.1 0 4) ∧ ∀ k, k < 46 → T.1 0 k = S.1 0 k
theorem m_image_in (S S1 : SM) {N : Nat} (hN : 200 < N) (h1 : ∀ j, j ≠ 16 → S1.1 j = S.1 j) (h2 : ∀ f : Nat, f < 100 → S1.1 16 f = S.1 4 f) : ∃ r, lp (x_X8_image_B28 N) N ((0 : Int32), S1) = some r ∧ (r.1 = S.1 0 15 ∧ MI S r.2) := by
  refine lp_tot (F := x_X8_image_B28 N) (fun x => 5 - x.1.toInt.toNat) (fun x => 0 ≤ x.1.toInt ∧ x.1.toInt ≤ 5 ∧ (∀ j, j ≠ 16 → j ≠ 17 → x.2.1 j = S.1 j) ∧ (∀ f : Nat, f < 100 → x.2.1 16 f = S.1 4 f) ∧ ∀ m : Nat, (m : Int) < x.1.toInt → x.2.1 17 m = S.1 6 m ∧ x.2.1 17 (5 + m) = S.1 7 m ∧ x.2.1 17 (10 + m) = S.1 8 m) (fun _ r => r.1 = S.1 0 15 ∧ MI S r.2) ?_ N _ ⟨Int.le_refl 0, Int.le_of_lt_add_one (by decide : (0 : Int32).toInt < 5 + 1) , fun j a b => h1 j a, h2, fun m hm => absurd hm (by show ¬ (m : Int) < (0 : Int32).toInt; simp only [Int32.reduceToInt]; omega)⟩ (by show 5 - _ < N; omega)
  intro h x ⟨i1, i2, i3, i4, i5⟩ ih
  unfold x_X8_image_B28
  simp only [lt, i_le, Int32.reduceToInt]
  by_cases hx : 5 ≤ x.1.toInt
  · rw [if_pos hx]
    have e0 := i3 0 (by decide) (by decide)
    refine ⟨_, rfl, ?_, ?_, i4, fun m hm => i5 m (by omega), ?_, ?_⟩
    · show x.2.1 0 15 = S.1 0 15
      rw [e0]
    · intro j a b d
      show up _ 0 _ j = S.1 j
      simp only [up_n _ _ a]
      exact i3 j b d
    · refine ⟨?_, ?_, ?_, ?_, ?_⟩
      · show x.2.1 0 15 = _; rw [e0]
      · show x.2.1 0 7 = _; rw [e0]
      · show x.2.1 0 8 = _; rw [e0]
      · show x.2.1 0 9 = _; rw [e0]
      · show x.2.1 0 4 = _; rw [e0]
    · intro k hk
      show upd (upd (upd (upd (upd (x.2.1 0) 46 _) 47 _) 48 _) 49 _) 50 _ k = _
      rw [upd_n _ _ (by omega), upd_n _ _ (by omega), upd_n _ _ (by omega), upd_n _ _ (by omega), upd_n _ _ (by omega), e0]
  · have hr : 0 ≤ x.1.toInt ∧ x.1.toInt < 5 := ⟨i1, by omega⟩
    have b5 : inb x.1 5 = true := i_inb.mpr ⟨i1, by omega⟩
    have b15 : inb x.1 15 = true := i_inb.mpr ⟨i1, by omega⟩
    have b15a : inb ((5 : Int32) + x.1) 15 = true := i_inb.mpr (by rw [a5 hr]; omega)
    have b15b : inb ((10 : Int32) + x.1) 15 = true := i_inb.mpr (by rw [a10 hr]; omega)
    have n5 : ((5 : Int32) + x.1).toNatClampNeg = 5 + x.1.toNatClampNeg := by rw [i_nat, i_nat, a5 hr]; omega
    have n10 : ((10 : Int32) + x.1).toNatClampNeg = 10 + x.1.toNatClampNeg := by rw [i_nat, i_nat, a10 hr]; omega
    rw [if_neg hx]
    simp only [b5, b15, b15a, b15b, if_true, n5, n10]
    obtain ⟨k, hk⟩ : ∃ k, k = x.1.toNatClampNeg := ⟨_, rfl⟩
    have ek : (k : Int) = x.1.toInt := by rw [hk, i_nat]; omega
    rw [← hk]
    have e1 := inc1 (x := x.1) (by omega)
    refine ih (_, _) ⟨by show 0 ≤ (x.1 + 1).toInt; omega, by show (x.1 + 1).toInt ≤ 5; omega, fun j a b => ?_, i4, fun m hm => ?_⟩ (by show 5 - (x.1 + 1).toInt.toNat < 5 - x.1.toInt.toNat; omega)
    · show up _ 17 _ j = S.1 j
      simp only [up_n _ _ b]
      exact i3 j a b
    · have hm : (m : Int) < (x.1 + 1).toInt := hm
      show upd (upd (upd (x.2.1 17) k (x.2.1 6 k)) (5 + k) (x.2.1 7 k)) (10 + k) (x.2.1 8 k) m = _ ∧ upd (upd (upd (x.2.1 17) k (x.2.1 6 k)) (5 + k) (x.2.1 7 k)) (10 + k) (x.2.1 8 k) (5 + m) = _ ∧ upd (upd (upd (x.2.1 17) k (x.2.1 6 k)) (5 + k) (x.2.1 7 k)) (10 + k) (x.2.1 8 k) (10 + m) = _
      rw [i3 6 (by decide) (by decide), i3 7 (by decide) (by decide), i3 8 (by decide) (by decide)]
      by_cases hmk : m = k
      · subst hmk
        refine ⟨?_, ?_, upd_s _ _ _⟩
        · rw [upd_n _ _ (by omega), upd_n _ _ (by omega), upd_s]
        · rw [upd_n _ _ (by omega), upd_s]
      · obtain ⟨w1, w2, w3⟩ := i5 m (by omega)
        refine ⟨?_, ?_, ?_⟩
        · rw [upd_n _ _ (by omega), upd_n _ _ (by omega), upd_n _ _ hmk]; exact w1
        · rw [upd_n _ _ (by omega), upd_n _ _ (by omega), upd_n _ _ (by omega)]; exact w2
        · rw [upd_n _ _ (by omega), upd_n _ _ (by omega), upd_n _ _ (by omega)]; exact w3
theorem m_image (S : SM) {N : Nat} (hN : 200 < N) : ∃ r, x_X8_image N S = some r ∧ (r.1 = S.1 0 15 ∧ MI S r.2) := by
  unfold x_X8_image
  refine lp_tot (F := x_X8_image_B2 N) (fun x => 100 - x.1.toInt.toNat) (fun x => 0 ≤ x.1.toInt ∧ x.1.toInt ≤ 100 ∧ (∀ j, j ≠ 16 → x.2.1 j = S.1 j) ∧ ∀ f : Nat, (f : Int) < x.1.toInt → x.2.1 16 f = S.1 4 f) (fun _ r => r.1 = S.1 0 15 ∧ MI S r.2) ?_ N _ ⟨Int.le_refl 0, Int.le_of_lt_add_one (by decide : (0 : Int32).toInt < 100 + 1) , fun _ _ => rfl, fun m hm => absurd hm (by show ¬ (m : Int) < (0 : Int32).toInt; simp only [Int32.reduceToInt]; omega)⟩ (by show 100 - _ < N; omega)
  intro h x ⟨i1, i2, i3, i4⟩ ih
  unfold x_X8_image_B2
  simp only [lt, i_le, Int32.reduceToInt]
  by_cases hx : 100 ≤ x.1.toInt
  · rw [if_pos hx]
    exact m_image_in S x.2 hN i3 (fun f hf => i4 f (by omega))
  · have b1 : inb x.1 100 = true := i_inb.mpr ⟨i1, by omega⟩
    rw [if_neg hx]
    simp only [b1, if_true]
    have e1 := inc1 (x := x.1) (by omega)
    refine ih (_, _) ⟨by show 0 ≤ (x.1 + 1).toInt; omega, by show (x.1 + 1).toInt ≤ 100; omega, fun j a => ?_, fun f hf => ?_⟩ (by show 100 - (x.1 + 1).toInt.toNat < 100 - x.1.toInt.toNat; omega)
    · show up _ 16 _ j = S.1 j
      rw [up_n _ _ a]; exact i3 j a
    · have hf : (f : Int) < (x.1 + 1).toInt := hf
      show upd (x.2.1 16) x.1.toNatClampNeg (x.2.1 4 x.1.toNatClampNeg) f = S.1 4 f
      rw [i3 4 (by decide)]
      by_cases hj : f = x.1.toNatClampNeg
      · subst hj; rw [upd_s]
      · rw [upd_n _ _ hj]
        rw [i_nat] at hj
        exact i4 f (by omega)
theorem o_image {TX : TXt} {g : Sg} {S : SM} (h : Inv TX g S) {N : Nat} (hN : 200 < N) : Sim TX (x_X7_image N g) (x_X8_image N S) := by
  obtain ⟨hS, hT, hM, hK, hB, hP, hH, hX⟩ := h
  obtain ⟨G, c1, c2, c3, c4, c5, c6⟩ := c_image N g
  obtain ⟨r, m1, m2, m3, m4, m5, m6, m7⟩ := m_image S hN
  obtain ⟨r0, T⟩ := r
  have m2 : r0 = S.1 0 15 := m2
  have m3 : ∀ j, j ≠ 0 → j ≠ 16 → j ≠ 17 → T.1 j = S.1 j := m3
  rw [c1, m1, m2, ← hS.2.2.2.2.1]
  have g1 := c2 1 (by decide) (by decide) (by decide) (by decide) (by decide) (by decide) (by decide)
  have g4 := c2 4 (by decide) (by decide) (by decide) (by decide) (by decide) (by decide) (by decide)
  refine Sim.mk ⟨?_, ?_, ?_, ?_, Or.inr ⟨c3, ?_, ?_, ?_, ?_, ?_⟩, ?_, ?_, ?_⟩
  · rw [g1, g4, m7 7 (by decide), m7 8 (by decide), m7 9 (by decide), m7 4 (by decide), m7 15 (by decide)]; exact hS
  · rw [c2 11 (by decide) (by decide) (by decide) (by decide) (by decide) (by decide) (by decide), m3 4 (by decide) (by decide) (by decide)]; exact hT
  · rw [c2 13 (by decide) (by decide) (by decide) (by decide) (by decide) (by decide) (by decide), c2 14 (by decide) (by decide) (by decide) (by decide) (by decide) (by decide) (by decide), c2 15 (by decide) (by decide) (by decide) (by decide) (by decide) (by decide) (by decide), m3 6 (by decide) (by decide) (by decide), m3 7 (by decide) (by decide) (by decide), m3 8 (by decide) (by decide) (by decide)]; exact hM
  · rw [g1, c2 12 (by decide) (by decide) (by decide) (by decide) (by decide) (by decide) (by decide), m3 5 (by decide) (by decide) (by decide)]; exact hK
  · have p := m6
    rw [c4 0 (by decide), c4 1 (by decide), c4 2 (by decide), c4 3 (by decide), c4 4 (by decide), p.1, p.2.1, p.2.2.1, p.2.2.2.1, p.2.2.2.2, g4]
    exact hS
  · rw [c4 4 (by decide), g1]; exact Int.le_refl _
  · intro f hf
    rw [c5 f hf, m4 f hf]
    exact hT f hf
  · intro m hm
    obtain ⟨q1, q2, q3, q4⟩ := c6 m hm
    obtain ⟨w1, w2, w3⟩ := m5 m hm
    show (G 18 m = T.1 17 m ∧ _) ∧ (G 19 m = T.1 17 (5 + m) ∧ _) ∧ (G 20 m = T.1 17 (10 + m) ∧ _)
    rw [q2, q3, q4, w1, w2, w3]
    exact hM m hm
  · intro m hm
    rw [c4 4 (by decide)] at hm
    rw [c2 12 (by decide) (by decide) (by decide) (by decide) (by decide) (by decide) (by decide)]
    exact (c6 m (by have := hS.2.2.2.2.2.2; omega)).1
  · unfold IvP
    rw [c2 3 (by decide) (by decide) (by decide) (by decide) (by decide) (by decide) (by decide), c2 21 (by decide) (by decide) (by decide) (by decide) (by decide) (by decide) (by decide), m7 6 (by decide), m3 3 (by decide) (by decide) (by decide)]
    exact hP
  · intro k hk
    rw [c2 30 (by decide) (by decide) (by decide) (by decide) (by decide) (by decide) (by decide), c2 31 (by decide) (by decide) (by decide) (by decide) (by decide) (by decide) (by decide), m3 18 (by decide) (by decide) (by decide), m3 19 (by decide) (by decide) (by decide), m3 20 (by decide) (by decide) (by decide), m3 21 (by decide) (by decide) (by decide), c2 (33 + k) (by omega) (by omega) (by omega) (by omega) (by omega) (by omega) (by omega)]
    exact hH k hk
  · unfold IvX
    rw [g4, c2 26 (by decide) (by decide) (by decide) (by decide) (by decide) (by decide) (by decide), c2 27 (by decide) (by decide) (by decide) (by decide) (by decide) (by decide) (by decide), m7 3 (by decide), m3 1 (by decide) (by decide) (by decide), m3 2 (by decide) (by decide) (by decide)]
    exact hX
