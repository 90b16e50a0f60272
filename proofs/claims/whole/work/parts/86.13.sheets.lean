/-! sheets: the small helpers -/
theorem c_isOne (N : Nat) (a : Int32) (g : Sg) : x_X3_isOne N a g = some (b2 (0 ≤ a.toInt ∧ a.toInt ≤ 3), g) := by
  unfold x_X3_isOne b2
  simp only [i_lt, i_le, Int32.reduceToInt]
  by_cases h1 : a.toInt < 0
  · rw [if_pos h1, if_neg (by omega)]
  · rw [if_neg h1]
    by_cases h2 : 4 ≤ a.toInt
    · rw [if_pos h2, if_neg (by omega)]
    · rw [if_neg h2, if_pos (by omega)]
theorem m_isSheet (N : Nat) (a : Int32) (S : SM) : x_X8_isSheet N a S = some (b2 (0 ≤ a.toInt ∧ a.toInt ≤ 3), S) := by
  unfold x_X8_isSheet
  rw [m_in]
  simp only [Option.bind_some, i_l64, Int64.reduceToInt]
  rw [if_pos (b2_01 _)]
theorem c_isMissing (N : Nat) {a : Int32} (g : Sg) (h : 0 ≤ a.toInt ∧ a.toInt ≤ 3) : x_X3_isMissing N a g = some (b2 (g 30 a.toNatClampNeg = -1), g) := by
  unfold x_X3_isMissing b2
  rw [if_pos (i_inb.mpr ⟨h.1, by omega⟩)]
  by_cases h1 : g 30 a.toNatClampNeg = -1
  · rw [if_pos h1, if_pos h1]
  · rw [if_neg h1, if_neg h1]
theorem c_fill {N qc nc : Nat} (hn : nc ≤ 1000) (hN : 1000 < N) (a : Int32) (g : Sg) : ∃ G, x_J7_fill_53178 N qc nc a g = some G ∧ (∀ j, j ≠ qc → G j = g j) ∧ ∀ i, i < nc → G qc i = a := by
  unfold x_J7_fill_53178
  simp only [lt]
  have e : (Int32.ofNat nc).toInt = nc := nI_toInt (by omega)
  refine lp_tot (F := x_J7_fill_53178_B5 N qc nc) (fun x => nc - x.2.1.toInt.toNat) (fun x => x.1 = a ∧ x.2.2.1 = Int32.ofNat nc ∧ 0 ≤ x.2.1.toInt ∧ x.2.1.toInt ≤ nc ∧ (∀ j, j ≠ qc → x.2.2.2 j = g j) ∧ ∀ i : Nat, (i : Int) < x.2.1.toInt → x.2.2.2 qc i = a) (fun _ G => (∀ j, j ≠ qc → G j = g j) ∧ ∀ i, i < nc → G qc i = a) ?_ N _ ⟨rfl, rfl, Int.le_refl 0, by show (0 : Int32).toInt ≤ nc; simp only [Int32.reduceToInt]; omega, fun _ _ => rfl, fun i hi => absurd hi (by show ¬ (i : Int) < (0 : Int32).toInt; simp only [Int32.reduceToInt]; omega)⟩ (by show nc - _ < N; omega)
  intro h x hI ih
  obtain ⟨h1, h2, h3, h4, h5, h6⟩ := hI
  unfold x_J7_fill_53178_B5
  simp only [lt, i_le]
  rw [h2, e]
  by_cases hx : (nc : Int) ≤ x.2.1.toInt
  · rw [if_pos hx]
    exact ⟨_, rfl, h5, fun i hi => h6 i (by omega)⟩
  · rw [if_neg hx, if_pos (i_inb.mpr ⟨h3, by omega⟩)]
    have e1 : (x.2.1 + 1).toInt = x.2.1.toInt + 1 := by rw [i_add] <;> simp only [Int32.reduceToInt] <;> omega
    refine ih (x.1, x.2.1 + 1, Int32.ofNat nc, up x.2.2.2 qc (upd (x.2.2.2 qc) x.2.1.toNatClampNeg x.1)) ⟨h1, rfl, by show 0 ≤ (x.2.1 + 1).toInt; omega, by show (x.2.1 + 1).toInt ≤ nc; omega, fun j hj => ?_, fun i hi => ?_⟩ (by show nc - (x.2.1 + 1).toInt.toNat < nc - x.2.1.toInt.toNat; omega)
    · show up x.2.2.2 qc _ j = g j
      rw [up_n _ _ hj]; exact h5 j hj
    · show up x.2.2.2 qc _ qc i = a
      have hi : (i : Int) < (x.2.1 + 1).toInt := hi
      rw [up_s]
      by_cases hj : i = x.2.1.toNatClampNeg
      · subst hj; rw [upd_s]; exact h1
      · rw [upd_n _ _ hj]
        rw [i_nat] at hj
        exact h6 i (by omega)
/-- all but the sheets stays -/
theorem inv_H {TX : TXt} {g G : Sg} {S T : SM} (h : Inv TX g S) (hg : ∀ j, j < 30 → G j = g j) (ht : ∀ j, j < 18 → T.1 j = S.1 j) (hH : IvH G T.1) : Inv TX G T := by
  obtain ⟨hS, hT, hM, hK, hB, hP, -, hX⟩ := h
  refine ⟨?_, ?_, ?_, ?_, ?_, ?_, hH, ?_⟩
  · rw [hg 1 (by decide), hg 4 (by decide), ht 0 (by decide)]; exact hS
  · rw [hg 11 (by decide), ht 4 (by decide)]; exact hT
  · rw [hg 13 (by decide), hg 14 (by decide), hg 15 (by decide), ht 6 (by decide), ht 7 (by decide), ht 8 (by decide)]; exact hM
  · rw [hg 1 (by decide), hg 12 (by decide), ht 5 (by decide)]; exact hK
  · unfold IvB
    rw [hg 0 (by decide), hg 1 (by decide), hg 2 (by decide), hg 4 (by decide), hg 12 (by decide), hg 16 (by decide), hg 17 (by decide), hg 18 (by decide), hg 19 (by decide), hg 20 (by decide), ht 0 (by decide), ht 16 (by decide), ht 17 (by decide)]
    exact hB
  · unfold IvP
    rw [hg 3 (by decide), hg 21 (by decide), ht 0 (by decide), ht 3 (by decide)]
    exact hP
  · unfold IvX
    rw [hg 4 (by decide), hg 26 (by decide), hg 27 (by decide), ht 0 (by decide), ht 1 (by decide), ht 2 (by decide)]
    exact hX
theorem s40 {a b : Int32} (h1 : 0 ≤ a.toInt ∧ a.toInt ≤ 3) (h2 : 0 ≤ b.toInt ∧ b.toInt ≤ 100) : (40 * a + b).toInt = 40 * a.toInt + b.toInt := by
  have e : (40 * a).toInt = 40 * a.toInt := by rw [i_mul] <;> simp only [Int32.reduceToInt] <;> omega
  rw [i_add, e] <;> rw [e] <;> omega
/-! cell -/
theorem o_cell {TX : TXt} {g : Sg} {S : SM} (h : Inv TX g S) (N : Nat) (a b d : Int32) : Sim TX (x_X7_cell N a b d g) (x_X8_cell N a b d S) := by
  have hH := h.2.2.2.2.2.2.1
  unfold x_X7_cell x_X8_cell
  rw [c_isOne, m_isSheet]
  simp only [Option.bind_some, b2_0]
  by_cases h1 : 0 ≤ a.toInt ∧ a.toInt ≤ 3
  · rw [if_neg (fun z => z h1), if_neg (fun z => z h1), c_isMissing N g h1]
    have b4 : inb a 4 = true := i_inb.mpr ⟨h1.1, by omega⟩
    simp only [Option.bind_some, b2_0, b4, if_true]
    obtain ⟨k, hk⟩ : ∃ k, k = a.toNatClampNeg := ⟨_, rfl⟩
    have ek : (k : Int) = a.toInt := by rw [hk, i_nat]; omega
    rw [← hk]
    rcases hH k (by omega) with ⟨m1, m2⟩ | ⟨m1, m2, m3, m4, m5, m6⟩
    · rw [if_neg (fun z => z m1), if_pos m2]; exact Sim.mk h
    · have n1 : ¬ g 30 k = -1 := by rw [i_eq]; simp only [Int32.reduceToInt]; omega
      have n2 : ¬ S.1 18 k = 0 := by rw [m2]; decide
      rw [if_pos n1, if_neg n2, m_in]
      have e1 : (S.1 20 k - 1).toInt = (g 31 k).toInt - 1 := by rw [m4, i_sub] <;> simp only [Int32.reduceToInt] <;> omega
      simp only [Option.bind_some, b2_0, i_l64, e1, i_lt, Int32.reduceToInt, Int64.reduceToInt]
      by_cases h2 : b.toInt < 0
      · rw [if_pos h2, if_pos (by omega)]; exact Sim.mk h
      rw [if_neg h2]
      by_cases h3 : b.toInt < (g 31 k).toInt
      · rw [if_pos h3, if_neg (show ¬ ¬ (0 ≤ b.toInt ∧ b.toInt ≤ (g 31 k).toInt - 1) by omega)]
        have b5 : inb b 40 = true := i_inb.mpr ⟨by omega, by omega⟩
        have e2 := s40 h1 (b := b) (by omega)
        have b6 : inb (40 * a + b) 160 = true := i_inb.mpr ⟨by omega, by omega⟩
        have e3 : (40 * a + b).toNatClampNeg = 40 * k + b.toNatClampNeg := by rw [i_nat, i_nat, e2]; omega
        -- the value that is laid
        have key : ∀ z : Int32, Sim TX ((some (up g (33 + k) (upd (g (33 + k)) b.toNatClampNeg z)) : Option Sg).bind fun q8 => some ((1 : Int32), q8)) (x_X8_cell_b83 N z (40 * a + b) S) := by
          intro z
          unfold x_X8_cell_b83
          rw [if_pos b6]
          simp only [Option.bind_some, lt]
          refine Sim.mk (inv_H h (fun j hj => up_n _ _ (by omega)) (fun j hj => up_n _ _ (by omega)) ?_)
          intro j hj
          have g30 : up g (33 + k) (upd (g (33 + k)) b.toNatClampNeg z) 30 = g 30 := up_n _ _ (by omega)
          have g31 : up g (33 + k) (upd (g (33 + k)) b.toNatClampNeg z) 31 = g 31 := up_n _ _ (by omega)
          have t18 : up S.1 21 (upd (S.1 21) (40 * a + b).toNatClampNeg z) 18 = S.1 18 := rfl
          have t19 : up S.1 21 (upd (S.1 21) (40 * a + b).toNatClampNeg z) 19 = S.1 19 := rfl
          have t20 : up S.1 21 (upd (S.1 21) (40 * a + b).toNatClampNeg z) 20 = S.1 20 := rfl
          rw [g30, g31]
          rcases hH j hj with ⟨u1, u2⟩ | ⟨u1, u2, u3, u4, u5, u6⟩
          · exact Or.inl ⟨u1, u2⟩
          · refine Or.inr ⟨u1, u2, u3, u4, u5, fun i hi => ?_⟩
            show up g (33 + k) _ (33 + j) i = upd (S.1 21) (40 * a + b).toNatClampNeg z (40 * j + i)
            rw [e3]
            by_cases hjk : j = k
            · subst hjk
              rw [up_s]
              by_cases hi2 : i = b.toNatClampNeg
              · subst hi2; rw [upd_s, upd_s]
              · rw [upd_n _ _ hi2, upd_n _ _ (by omega)]; exact u6 i hi
            · have hbb : b.toNatClampNeg < 40 := by rw [i_nat]; omega
              rw [up_n _ _ (by omega), upd_n _ _ (by omega)]; exact u6 i hi
        unfold x_X3_put
        simp only [b4, b5, if_true]
        rw [← hk, m3]
        by_cases s0 : g 30 k = 0
        · rw [if_pos s0, if_pos s0]; exact key _
        · rw [if_neg s0, if_neg s0]
          by_cases s1 : g 30 k = 1
          · rw [if_pos s1, if_pos s1]; exact key _
          · rw [if_neg s1, if_neg s1]; exact key _
      · rw [if_neg h3, if_pos (by omega)]; exact Sim.mk h
  · rw [if_pos h1, if_pos h1]; exact Sim.mk h
