/-! a text kept -/
theorem Inv_text {TX : TXt} {g G : Sg} {S T : SM} (h : Inv TX g S) (hG : ∀ j : Nat, ¬ (j = 3 ∨ (22 ≤ j ∧ j ≤ 25) ∨ j = 26 ∨ j = 27 ∨ j = 4) → G j = g j) (hG3 : G 3 1 = 0) (hT : ∀ j : Nat, ¬ (j = 0 ∨ j = 1 ∨ j = 2) → T.1 j = S.1 j) (hT0 : ∀ k : Nat, ¬ (k = 3 ∨ k = 6 ∨ (22 ≤ k ∧ k ≤ 30)) → T.1 0 k = S.1 0 k) (h6 : T.1 0 6 = 0) (held : (g 4 0).toInt ≤ (G 4 0).toInt) (hX : IvX TX G T.1) : Inv TX G T := by
  obtain ⟨hS, iT, hM, hK, hB, hP, hH, _⟩ := h
  refine ⟨?_, ?_, ?_, ?_, ?_, ?_, ?_, hX⟩
  · obtain ⟨a, b, c, ⟨d1, d2, d3⟩, e⟩ := hS
    rw [hG 1 (by omega), hT0 7 (by omega), hT0 8 (by omega), hT0 9 (by omega), hT0 4 (by omega), hT0 15 (by omega)]
    exact ⟨a, b, c, ⟨d1, d2, by omega⟩, e⟩
  · rw [hG 11 (by omega), hT 4 (by omega)]; exact iT
  · rw [hG 13 (by omega), hG 14 (by omega), hG 15 (by omega), hT 6 (by omega), hT 7 (by omega), hT 8 (by omega)]; exact hM
  · rw [hG 1 (by omega), hG 12 (by omega), hT 5 (by omega)]; exact hK
  · unfold IvB at hB ⊢
    rw [hG 0 (by omega), hG 1 (by omega), hG 2 (by omega), hG 16 (by omega), hG 17 (by omega), hG 18 (by omega), hG 19 (by omega), hG 20 (by omega), hG 12 (by omega), hT 16 (by omega), hT 17 (by omega), hT0 46 (by omega), hT0 47 (by omega), hT0 48 (by omega), hT0 49 (by omega), hT0 50 (by omega)]
    rcases hB with hB | ⟨b1, ⟨a, b, c, ⟨d1, d2, d3⟩, e⟩, b3⟩
    · exact Or.inl hB
    · exact Or.inr ⟨b1, ⟨a, b, c, ⟨d1, d2, by omega⟩, e⟩, b3⟩
  · unfold IvP
    rw [hG3, h6]
    exact ⟨rfl, by decide, by decide, fun i hi => by
      have : (0 : Int32).toInt = 0 := by decide
      omega⟩
  · exact IvH_c hH (hG 30 (by omega)) (hG 31 (by omega)) (fun k hk => hG _ (by omega)) (hT 18 (by omega)) (hT 19 (by omega)) (hT 20 (by omega)) (hT 21 (by omega))
/-- the class keeps what it has read -/
theorem c_keep (N : Nat) {g : Sg} {h : Nat} (hh : (g 4 0).toInt = h) (h6 : h < 6) : ∃ G, x_X6_keep N g = some (g 4 0, G) ∧ (∀ j, ¬ (j = 26 ∨ j = 27 ∨ j = 4) → G j = g j) ∧ (∀ i : Nat, G 26 i = (if 160 * h ≤ i ∧ i < 160 * h + 160 then g 24 (i - 160 * h) else g 26 i)) ∧ (∀ q : Nat, G 27 q = (if 4 * h ≤ q ∧ q < 4 * h + 4 then g 25 (q - 4 * h) else g 27 q)) ∧ G 4 0 = g 4 0 + 1 := by
  have m1 : (g 4 0 * 160).toInt = 160 * h := by rw [i_mul] <;> simp only [Int32.reduceToInt] <;> omega
  have m2 : (g 4 0 * 4).toInt = 4 * h := by rw [i_mul] <;> simp only [Int32.reduceToInt] <;> omega
  have n1 : (g 4 0 * 160).toNatClampNeg = 160 * h := by rw [i_nat, m1]; omega
  have n2 : (g 4 0 * 4).toNatClampNeg = 4 * h := by rw [i_nat, m2]; omega
  have n160 : (160 : Int32).toNatClampNeg = 160 := by decide
  have n4 : (4 : Int32).toNatClampNeg = 4 := by decide
  have n0 : (0 : Int32).toNatClampNeg = 0 := by decide
  have p0 : decide ((0 : Int32) < 0) = false := by decide
  have p160 : decide ((160 : Int32) < 0) = false := by decide
  have p4 : decide ((4 : Int32) < 0) = false := by decide
  have z0 : (0 : Int32).toInt = 0 := by decide
  have a1 : acb 0 (g 4 0 * 160) 160 160 960 = true := by
    unfold acb
    rw [n0, n160, n1, p0, p160, decide_eq_false (show ¬ g 4 0 * 160 < 0 by rw [i_lt, m1, z0]; omega), decide_eq_true (show 0 + 160 ≤ 160 by omega), decide_eq_true (show 160 * h + 160 ≤ 960 by omega)]
    rfl
  have a2 : acb 0 (g 4 0 * 4) 4 4 24 = true := by
    unfold acb
    rw [n0, n4, n2, p0, p4, decide_eq_false (show ¬ g 4 0 * 4 < 0 by rw [i_lt, m2, z0]; omega), decide_eq_true (show 0 + 4 ≤ 4 by omega), decide_eq_true (show 4 * h + 4 ≤ 24 by omega)]
    rfl
  unfold x_X6_keep
  simp only [lt]
  rw [if_pos a1, if_pos a2, n0, n1, n2, n160, n4]
  refine ⟨_, rfl, fun j hj => ?_, fun i => ?_, fun q => ?_, ?_⟩
  · rw [up_n _ _ (by omega), up_n _ _ (by omega), up_n _ _ (by omega)]
  · rw [up_n _ _ (by omega), up_n _ _ (by omega), up_s]
    unfold va_cpy
    by_cases c : 160 * h ≤ i ∧ i < 160 * h + 160
    · rw [if_pos c, if_pos c]; exact congrArg _ (by omega)
    · rw [if_neg c, if_neg c]
  · rw [up_n _ _ (by omega), up_s, up_n _ _ (by omega), up_n _ _ (by omega)]
    unfold va_cpy
    by_cases c : 4 * h ≤ q ∧ q < 4 * h + 4
    · rw [if_pos c, if_pos c]; exact congrArg _ (by omega)
    · rw [if_neg c, if_neg c]
  · rw [up_s, upd_s]
