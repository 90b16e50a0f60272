theorem c_clear7 (N : Nat) (g : Sg) : ∃ G, x_X1_clear_7 N g = some G ∧ (∀ i, i ≠ 7 → G i = g i) ∧ G 7 0 = -1 ∧ G 7 1 = 1000000 := by
  refine ⟨_, rfl, fun i hi => ?_, ?_, ?_⟩
  · rw [up_n _ _ hi, up_n _ _ hi]
  · rw [up_s]; show up g 7 _ 7 0 = -1; rw [up_s]; rfl
  · rw [up_s]; rfl
theorem c_offer7 (N : Nat) (a b : Int32) (g : Sg) : ∃ G, x_X1_offer_7 N a b g = some G ∧ (∀ i, i ≠ 7 → G i = g i) ∧ ((g 7 1).toInt ≤ b.toInt → G = g) ∧ (b.toInt < (g 7 1).toInt → G 7 0 = a ∧ G 7 1 = b) := by
  unfold x_X1_offer_7
  simp only [i_le]
  by_cases h1 : (g 7 1).toInt ≤ b.toInt
  · rw [if_pos h1]
    exact ⟨g, rfl, fun _ _ => rfl, fun _ => rfl, fun z => by omega⟩
  · rw [if_neg h1]
    refine ⟨_, rfl, fun i hi => ?_, fun z => absurd z h1, fun _ => ⟨?_, ?_⟩⟩
    · rw [up_n _ _ hi, up_n _ _ hi]
    · rw [up_s]; show up g 7 _ 7 0 = a; rw [up_s]; rfl
    · rw [up_s]; rfl
theorem o_missing {TX : TXt} {g : Sg} {S : SM} (h : Inv TX g S) {N : Nat} (hN : 1000 < N) (a : Int32) : Sim TX (x_X7_missing N a g) (x_X8_missing N a S) := by
  obtain ⟨k1, k2, k3⟩ := mk5 h
  unfold x_X7_missing x_X8_missing
  simp only [m_in, Option.bind_some, i_l64, b2_0, i_lt, i_le, Int32.reduceToInt, Int64.reduceToInt]
  by_cases h1 : 0 ≤ a.toInt ∧ a.toInt ≤ 1
  · rw [if_neg (show ¬ a.toInt < 0 by omega), if_pos h1.2, if_neg (show ¬ ¬ (0 ≤ a.toInt ∧ a.toInt ≤ 1) from fun z => z h1)]
    obtain ⟨G, e, o, z⟩ := c_markAll h hN
    have hR : Rg (S.1 5) (S.1 6) (S.1 7) (S.1 0 15).toInt := by rw [← k1]; exact Rg_m h
    have hI := inv_g h (G := G) (fun i hi => o i (by omega))
    obtain ⟨b, e1, e2⟩ := c_shoes (N := N) ⟨k2, k3⟩
    rw [e1] at e ⊢
    simp only [Option.bind_some] at e ⊢
    rw [e]
    obtain ⟨G1, e3, o1, z1, z2⟩ := c_clear7 N G
    simp only [Option.bind_some]
    rw [e3]
    simp only [Option.bind_some]
    have hI1 := inv_g hI (G := G1) (fun i hi => o1 i (by omega))
    have z : ∀ f : Nat, f < 100 → G1 10 f = b2 (an (fun x => sv (S.1 5) (S.1 6) (S.1 7) (S.1 8) x f) (20 * (S.1 0 15).toInt.toNat) = true) := fun f hf => by rw [o1 10 (by omega), ← k1]; exact z f hf
    refine Sim.ofP (lp_two (F := x_X7_missing_B35 N) (G := x_X8_missing_B20 N) (fun x => 101 - x.2.2.1.toInt.toNat) (fun x y => x.1 = a ∧ y.1 = a ∧ x.2.1 = y.2.1 ∧ x.2.2.1 = y.2.2.2.1 ∧ 0 ≤ x.2.2.1.toInt ∧ x.2.2.1.toInt ≤ 100 ∧ y.2.2.2.2 = S ∧ (∀ i, i ≠ 7 → x.2.2.2 i = G1 i) ∧ ((y.2.2.1 = -1 ∧ x.2.2.2 7 0 = -1 ∧ x.2.2.2 7 1 = 1000000) ∨ (x.2.2.2 7 0 = y.2.2.1 ∧ 0 ≤ y.2.2.1.toInt ∧ y.2.2.1.toInt ≤ 99 ∧ (x.2.2.2 7 1).toInt = -(S.1 4 y.2.2.1.toInt.toNat).toInt))) (SimP TX) ?_ N (a, 0, 0, G1) (a, 0, -1, 0, S) ⟨rfl, rfl, rfl, rfl, Int.le_refl 0, by show (0 : Int32).toInt ≤ 100; decide, rfl, fun _ _ => rfl, Or.inl ⟨rfl, z1, z2⟩⟩ (by show 101 - _ < N; omega))
    intro hh kk ⟨x1, x2, f, X⟩ ⟨y1, y2, y3, f', Y⟩ ⟨j1, j2, j3, j4, j5, j6, j7, j8, j9⟩ ih
    have i1 : x1 = a := j1
    have i2 : y1 = a := j2
    have i3 : x2 = y2 := j3
    have i4 : f = f' := j4
    have i5 : 0 ≤ f.toInt := j5
    have i6 : f.toInt ≤ 100 := j6
    have i7 : Y = S := j7
    have i8 : ∀ i, i ≠ 7 → X i = G1 i := j8
    have i9 : (y3 = -1 ∧ X 7 0 = -1 ∧ X 7 1 = 1000000) ∨ (X 7 0 = y3 ∧ 0 ≤ y3.toInt ∧ y3.toInt ≤ 99 ∧ (X 7 1).toInt = -(S.1 4 y3.toInt.toNat).toInt) := j9
    clear j1 j2 j3 j4 j5 j6 j7 j8 j9
    subst i1; subst i2; subst i3; subst i4; subst i7
    have hX := inv_g hI1 (G := X) (fun i hi => i8 i (by omega))
    unfold x_X7_missing_B35 x_X8_missing_B20
    simp only [i_le, Int32.reduceToInt]
    by_cases c1 : 100 ≤ f.toInt
    · rw [if_pos c1, if_pos c1]
      by_cases c2 : y1 = 0
      · rw [if_pos c2, if_pos c2]; exact ⟨_, _, rfl, rfl, rfl, hX⟩
      · rw [if_neg c2, if_neg c2]
        refine ⟨_, _, rfl, rfl, ?_, hX⟩
        show X 7 0 = y3
        rcases i9 with ⟨q1, q2, q3⟩ | ⟨q1, _⟩
        · rw [q1, q2]
        · exact q1
    · have e5 := inc1 (x := f) (by omega)
      have b1 : inb f 100 = true := i_inb.mpr ⟨by omega, by omega⟩
      rw [if_neg c1, if_neg c1]
      simp only [b1, if_true, i_nat]
      have t1 := h.2.1 f.toInt.toNat (by omega)
      rw [i8 10 (by omega), z _ (by omega), i8 11 (by omega), o1 11 (by omega), o 11 (by omega), t1.1]
      rw [t1.1] at t1
      simp only [m_isServed (N := N) (by omega) hR (by rw [← k1]; exact ⟨k2, k3⟩) (Kg_m h) (show 0 ≤ f.toInt ∧ f.toInt ≤ 99 by omega), Option.bind_some]
      have go : ∀ (p y3' : Int32) (X' : Sg), (∀ i, i ≠ 7 → X' i = G1 i) → ((y3' = -1 ∧ X' 7 0 = -1 ∧ X' 7 1 = 1000000) ∨ (X' 7 0 = y3' ∧ 0 ≤ y3'.toInt ∧ y3'.toInt ≤ 99 ∧ (X' 7 1).toInt = -(Y.1 4 y3'.toInt.toNat).toInt)) → ∃ r s, x_X7_missing_b92 N hh y1 p f X' = some r ∧ x_X8_missing_b84 N kk y1 p y3' f Y = some s ∧ SimP TX r s := by
        intro p y3' X' o2 o3
        unfold x_X7_missing_b92 x_X8_missing_b84
        simp only [lt]
        exact ih (y1, p, f + 1, X') (y1, p, y3', f + 1, Y) ⟨rfl, rfl, rfl, rfl, by show 0 ≤ (f + 1).toInt; omega, by show (f + 1).toInt ≤ 100; omega, rfl, o2, o3⟩ (by show 101 - (f + 1).toInt.toNat < 101 - f.toInt.toNat; omega)
      generalize hA : an (fun x => sv (Y.1 5) (Y.1 6) (Y.1 7) (Y.1 8) x f.toInt.toNat) (20 * (Y.1 0 15).toInt.toNat) = A
      simp only [b2_0]
      generalize hv : Y.1 4 f.toInt.toNat = v at t1 ⊢
      by_cases c2 : A = true
      · rw [if_neg (fun w => w c2)]
        by_cases c3 : v.toInt ≤ 0
        · rw [if_pos c3]; exact go x2 y3 X i8 i9
        · rw [if_neg c3, if_neg (fun w => w c2)]; exact go x2 y3 X i8 i9
      · rw [if_pos c2]
        by_cases c3 : v.toInt ≤ 0
        · rw [if_pos c3, if_pos c3]; exact go x2 y3 X i8 i9
        · rw [if_neg c3, if_neg c3, if_pos c2]
          simp only [lt]
          obtain ⟨X2, e6, o4, o5, o6⟩ := c_offer7 N f (-v) X
          have ev : (-v).toInt = -v.toInt := i_neg (by omega)
          rw [e6]
          simp only [Option.bind_some]
          unfold x_X8_missing_b77 x_X8_missing_b83
          rw [ev] at o5 o6
          have o7 : ∀ i, i ≠ 7 → X2 i = G1 i := fun i hi => (o4 i hi).trans (i8 i hi)
          rcases i9 with ⟨q1, q2, q3⟩ | ⟨q1, q2, q3, q4⟩
          · rw [if_pos q1]
            have w := o6 (by rw [q3]; show _ < (1000000 : Int); omega)
            exact go _ f X2 o7 (Or.inr ⟨w.1, i5, by omega, by rw [w.2, ev, hv]⟩)
          · rw [if_neg (fun w => by rw [w] at q2; exact absurd q2 (by decide)), if_pos (show inb y3 100 = true from i_inb.mpr ⟨q2, by omega⟩)]
            by_cases c4 : v.toInt ≤ (Y.1 4 y3.toInt.toNat).toInt
            · rw [if_pos c4]
              have w := o5 (by rw [q4]; omega)
              exact go _ y3 X2 o7 (Or.inr ⟨by rw [w]; exact q1, q2, q3, by rw [w]; exact q4⟩)
            · rw [if_neg c4]
              have w := o6 (by rw [q4]; omega)
              exact go _ f X2 o7 (Or.inr ⟨w.1, i5, by omega, by rw [w.2, ev, hv]⟩)
  · rw [if_pos (show ¬ (0 ≤ a.toInt ∧ a.toInt ≤ 1) from h1)]
    by_cases h2 : a.toInt < 0
    · rw [if_pos h2]; exact Sim.mk h
    · rw [if_neg h2, if_neg (show ¬ a.toInt ≤ 1 by omega)]; exact Sim.mk h
