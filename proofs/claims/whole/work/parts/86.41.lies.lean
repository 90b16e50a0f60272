theorem one_sh {z : Int32} (hz : 0 ≤ z.toInt ∧ z.toInt < 20) : 0 ≤ ((1 : Int32) <<< (z &&& 31)).toInt ∧ ((1 : Int32) <<< (z &&& 31)).toInt.toNat = 2 ^ z.toInt.toNat := by
  rcases twenty hz with rfl | rfl | rfl | rfl | rfl | rfl | rfl | rfl | rfl | rfl | rfl | rfl | rfl | rfl | rfl | rfl | rfl | rfl | rfl | rfl <;> decide
theorem an_one {Q : Nat → Bool} {z n : Nat} (hz : z < n) : an (fun w => (2 ^ z).testBit w && Q w) n = Q z := by
  refine Bool.eq_iff_iff.mpr ((an_iff n).trans ⟨fun ⟨i, h1, h2⟩ => ?_, fun q => ⟨z, hz, ?_⟩⟩)
  · rw [Bool.and_eq_true, Nat.testBit_two_pow, decide_eq_true_eq] at h2
    rw [h2.1]; exact h2.2
  · rw [Bool.and_eq_true, Nat.testBit_two_pow, decide_eq_true_eq]
    exact ⟨rfl, q⟩
theorem o_lies {TX : TXt} {g : Sg} {S : SM} (h : Inv TX g S) {N : Nat} (hN : 1000 < N) (a : Int32) : Sim TX (x_X7_lies N a g) (x_X8_lies N a S) := by
  obtain ⟨k1, k2, k3⟩ := mk5 h
  unfold x_X7_lies x_X8_lies
  rw [c_hasMake, m_isMake N a S (by rw [← k1]; exact k2), ← k1]
  simp only [Option.bind_some, b2_0]
  by_cases h2 : 0 ≤ a.toInt ∧ a.toInt < (g 1 4).toInt
  · rw [if_neg (show ¬ ¬ (0 ≤ a.toInt ∧ a.toInt < (g 1 4).toInt) from fun z => z h2), if_neg (show ¬ ¬ (0 ≤ a.toInt ∧ a.toInt < (g 1 4).toInt) from fun z => z h2)]
    refine Sim.ofP (lp_two (F := x_X7_lies_B18 N) (G := x_X8_lies_B15 N) (fun x => 21 - x.2.2.1.toInt.toNat) (fun x y => x.1 = a ∧ y.1 = a ∧ x.2.1 = y.2.1 ∧ x.2.2.1 = y.2.2.1 ∧ 0 ≤ x.2.2.1.toInt ∧ x.2.2.1.toInt ≤ 20 ∧ x.2.2.2 = g ∧ y.2.2.2 = S) (SimP TX) ?_ N (a, 0, 0, g) (a, 0, 0, S) ⟨rfl, rfl, rfl, rfl, Int.le_refl 0, by show (0 : Int32).toInt ≤ 20; decide, rfl, rfl⟩ (by show 21 - _ < N; omega))
    intro hh kk ⟨x1, x2, z, X⟩ ⟨y1, y2, z', Y⟩ ⟨j1, j2, j3, j4, j5, j6, j7, j8⟩ ih
    have i1 : x1 = a := j1
    have i2 : y1 = a := j2
    have i3 : x2 = y2 := j3
    have i4 : z = z' := j4
    have i5 : 0 ≤ z.toInt := j5
    have i6 : z.toInt ≤ 20 := j6
    have i7 : X = g := j7
    have i8 : Y = S := j8
    clear j1 j2 j3 j4 j5 j6 j7 j8
    subst i1; subst i2; subst i3; subst i4; subst i7; subst i8
    unfold x_X7_lies_B18 x_X8_lies_B15
    simp only [i_le, Int32.reduceToInt]
    by_cases c1 : 20 ≤ z.toInt
    · rw [if_pos c1, if_pos c1]; exact ⟨_, _, rfl, rfl, rfl, h⟩
    · have e5 := inc1 (x := z) (by omega)
      have f1 : (y1 * 20).toInt = 20 * y1.toInt := by rw [i_mul] <;> simp only [Int32.reduceToInt] <;> omega
      have f2 : (y1 * 20 + z).toInt = 20 * y1.toInt + z.toInt := by rw [i_add, f1] <;> omega
      rw [if_neg c1, if_neg c1, if_pos (show inb y1 5 = true from i_inb.mpr ⟨by omega, by omega⟩)]
      simp only [lt]
      have hx : 0 ≤ (y1 * 20 + z).toInt ∧ (y1 * 20 + z).toInt < 20 * (X 1 4).toInt := by rw [f2]; omega
      rw [c_stk ⟨k2, k3⟩ (Kg_c h) hx]
      simp only [Option.bind_some, b2_0]
      have go : ∀ p : Int32, ∃ r s, x_X7_lies_b78 N hh y1 p z X = some r ∧ x_X8_lies_b52 N kk y1 p z Y = some s ∧ SimP TX r s := by
        intro p
        unfold x_X7_lies_b78 x_X8_lies_b52
        simp only [lt]
        exact ih (y1, p, z + 1, X) (y1, p, z + 1, Y) ⟨rfl, rfl, rfl, rfl, by show 0 ≤ (z + 1).toInt; omega, by show (z + 1).toInt ≤ 20; omega, rfl, rfl⟩ (by show 21 - (z + 1).toInt.toNat < 21 - z.toInt.toNat; omega)
      have hn : (y1 * 20 + z).toInt.toNat = 20 * y1.toInt.toNat + z.toInt.toNat := by rw [f2]; omega
      have hb : ((Y.1 8 y1.toNatClampNeg >>> (z &&& 31)) &&& 1) = 1 ↔ Sb (X 15) (y1 * 20 + z).toInt.toNat = true := by
        rw [bit_i (Kg_m h _ (by rw [i_nat]; omega)).1 (by omega), hn]
        unfold Sb
        rw [show (20 * y1.toInt.toNat + z.toInt.toNat) / 20 = y1.toInt.toNat by omega, show (20 * y1.toInt.toNat + z.toInt.toNat) % 20 = z.toInt.toNat by omega, i_nat, (h.2.2.1 y1.toInt.toNat (by omega)).2.2.1]
      by_cases c2 : Sb (X 15) (y1 * 20 + z).toInt.toNat = true
      · rw [if_neg (fun w => w c2), if_pos (hb.mpr c2)]
        have r0 := rc_b (kd := X 12) (nb := X 13) (rn := X 14) (x := (y1 * 20 + z).toInt.toNat) (a := 0)
        have r1 := rc_b (kd := X 12) (nb := X 13) (rn := X 14) (x := (y1 * 20 + z).toInt.toNat) (a := 1)
        have v0 := of_i (z := rc (X 12) (X 13) (X 14) (y1 * 20 + z).toInt.toNat 0) (by omega) (by omega)
        have v1 := of_i (z := rc (X 12) (X 13) (X 14) (y1 * 20 + z).toInt.toNat 1 + 1) (by omega) (by omega)
        rw [c_least (Rg_c h) k3 hx]
        simp only [Option.bind_some]
        rw [c_greatest (Rg_c h) k3 hx]
        simp only [Option.bind_some]
        rw [c_people (by omega), v0, v1]
        simp only [Option.bind_some]
        obtain ⟨o1, o2⟩ := one_sh (z := z) (by omega)
        rw [m_servedBy (by omega) (Rg_m h) k3 h2 o1 (tg h)]
        simp only [Option.bind_some]
        rw [o2]
        have eq : ps (Y.1 4) (fun f => an (fun w => (2 ^ z.toInt.toNat).testBit w && fz (Y.1 5) (Y.1 6) (Y.1 7) (20 * y1.toInt.toNat + w) f) 20) 100 = ps (X 11) (fun i => decide (rc (X 12) (X 13) (X 14) (y1 * 20 + z).toInt.toNat 1 + 1 ≤ (i : Int) ∧ (i : Int) ≤ rc (X 12) (X 13) (X 14) (y1 * 20 + z).toInt.toNat 0)) 100 := by
          refine ps_congr 100 (fun f hf => ⟨?_, fun _ => (h.2.1 f hf).1.symm⟩)
          rw [an_one (Q := fun w => fz (Y.1 5) (Y.1 6) (Y.1 7) (20 * y1.toInt.toNat + w) f) (show z.toInt.toNat < 20 by omega)]
          show fz (Y.1 5) (Y.1 6) (Y.1 7) (20 * y1.toInt.toNat + z.toInt.toNat) f = _
          rw [fz_cm h (by omega), ← hn]
          exact fz_rc ((Rg_c h) _ (by omega)).1 hf
        rw [eq]
        generalize ps (X 11) _ 100 = p
        by_cases c3 : p = 0
        · rw [if_pos c3, if_pos c3]; exact go _
        · rw [if_neg c3, if_neg c3]; exact go _
      · rw [if_pos c2, if_neg (fun w => c2 (hb.mp w))]; exact go _
  · rw [if_pos h2, if_pos h2]; exact Sim.mk h
