abbrev TXt : Type := (Nat → Int32) → (Nat → Int32) → (Nat → Int32) → Int32 → Prop
/-! force -/
theorem o_force {TX : TXt} {g : Sg} {S : SM} (h : Inv TX g S) (N : Nat) (a : Int32) : Sim TX (x_X7_force N a g) (x_X8_force N a S) := by
  obtain ⟨hS, hT, hM, hK, hB, hP, hH, hX⟩ := h
  have hX1 := hX.1
  have hX2 := hX.2.1
  have hX3 := hX.2.2.1
  unfold x_X7_force x_X8_force
  rw [m_in]
  simp only [Option.bind_some, i_l64, b2_0, lt]
  have e1 : (S.1 0 3 - 1).toInt = (g 4 0).toInt - 1 := by
    rw [← hX1, i_sub] <;> simp only [Int32.reduceToInt] <;> omega
  rw [e1]
  simp only [i_lt, Int32.reduceToInt, Int64.reduceToInt]
  by_cases h1 : a.toInt < 0
  · rw [if_pos h1, if_pos (by omega)]
    exact Sim.mk ⟨hS, hT, hM, hK, hB, hP, hH, hX⟩
  · rw [if_neg h1]
    by_cases h2 : a.toInt < (g 4 0).toInt
    · rw [if_pos h2, if_neg (by omega)]
      have hu := hS.2.2.2.1
      rw [hu.1]
      refine Sim.mk ⟨⟨hS.1, hS.2.1, hS.2.2.1, ⟨rfl, by show 0 ≤ a.toInt; omega, h2⟩, hS.2.2.2.2⟩, hT, hM, hK, hB, hP, IvH_c hH rfl rfl (fun k hk => up_n _ _ (by omega)) rfl rfl rfl rfl, hX⟩
    · rw [if_neg h2, if_pos (by omega)]
      exact Sim.mk ⟨hS, hT, hM, hK, hB, hP, hH, hX⟩
/-! feed -/
theorem o_feed {TX : TXt} {g : Sg} {S : SM} (h : Inv TX g S) (N : Nat) (a : Int32) : Sim TX (x_X7_feed N a g) (x_X8_feed N a S) := by
  obtain ⟨hS, hT, hM, hK, hB, hP, hH, hX⟩ := h
  obtain ⟨p1, p2, p3, p4⟩ := hP
  unfold x_X7_feed x_X8_feed
  rw [m_in]
  simp only [Option.bind_some, i_l64, b2_0, lt, i_lt, i_le, Int32.reduceToInt, Int64.reduceToInt]
  by_cases h1 : a.toInt < 0
  · rw [if_pos h1, if_pos (by omega)]
    exact Sim.mk ⟨hS, hT, hM, hK, hB, ⟨p1, p2, p3, p4⟩, hH, hX⟩
  · rw [if_neg h1]
    by_cases h2 : a.toInt ≤ 255
    · rw [if_pos h2, if_neg (by omega)]
      unfold x_X2_isFull
      simp only [i_lt, Int32.reduceToInt]
      by_cases h3 : (g 3 1).toInt < 160
      · rw [if_pos h3]
        have n1 : ¬ S.1 0 6 = 160 := by
          rw [← p1, i_eq]
          simp only [Int32.reduceToInt]
          omega
        have b1 : inb (g 3 1) 160 = true := i_inb.mpr ⟨p2, by omega⟩
        have b9 : inb (S.1 0 6) 160 = true := by rw [← p1]; exact b1
        rw [if_neg n1, if_pos b9]
        simp only [Option.bind_some]
        unfold x_X2_append x_X2_isFull
        simp only [i_lt, Int32.reduceToInt, if_true, if_pos h3, Option.bind_some, if_pos b1, lt]
        unfold x_X2_append_b27
        simp only [Option.bind_some]
        have e1 : (g 3 1 + 1).toInt = (g 3 1).toInt + 1 := by
          rw [i_add] <;> simp only [Int32.reduceToInt] <;> omega
        have er : ∀ (z : Int32) (G : Sg) (T : SM), z = g 3 1 + 1 → Inv TX G T → Sim TX (some (g 3 1 + 1, G)) (some (z, T)) := fun z G T hz hh => by rw [hz]; exact Sim.mk hh
        refine er _ _ _ (by show S.1 0 6 + 1 = _; rw [p1]) ⟨hS, hT, hM, hK, hB, ⟨by show g 3 1 + 1 = S.1 0 6 + 1; rw [p1], ?_, ?_, ?_⟩, IvH_c hH rfl rfl (fun k hk => by rw [up_n _ _ (by omega), up_n _ _ (by omega)]) rfl rfl rfl rfl, hX⟩
        · show 0 ≤ (g 3 1 + 1).toInt
          omega
        · show (g 3 1 + 1).toInt ≤ 160
          omega
        · intro i hi
          have hi : (i : Int) < (g 3 1 + 1).toInt := hi
          show upd (g 21) _ a i = upd (S.1 3) (S.1 0 6).toNatClampNeg a i ∧ 0 ≤ (upd (g 21) _ a i).toInt ∧ (upd (g 21) _ a i).toInt ≤ 255
          rw [← p1]
          by_cases hj : i = (g 3 1).toNatClampNeg
          · subst hj
            rw [upd_s, upd_s]
            exact ⟨rfl, by omega, h2⟩
          · rw [upd_n _ _ hj, upd_n _ _ hj]
            rw [i_nat] at hj
            exact p4 i (by omega)
      · rw [if_neg h3]
        have n1 : S.1 0 6 = 160 := by
          rw [← p1, i_eq]
          simp only [Int32.reduceToInt]
          omega
        rw [if_pos n1]
        simp only [Option.bind_some]
        rw [if_neg (by decide)]
        exact Sim.mk ⟨hS, hT, hM, hK, hB, ⟨p1, p2, p3, p4⟩, hH, hX⟩
    · rw [if_neg h2, if_pos (by omega)]
      exact Sim.mk ⟨hS, hT, hM, hK, hB, ⟨p1, p2, p3, p4⟩, hH, hX⟩
theorem c_hasMake (N : Nat) (a : Int32) (g : Sg) : x_X5_hasMake N a g = some (b2 (0 ≤ a.toInt ∧ a.toInt < (g 1 4).toInt), g) := by
  unfold x_X5_hasMake b2
  simp only [i_lt, i_le, Int32.reduceToInt]
  by_cases h1 : a.toInt < 0
  · rw [if_pos h1, if_neg (by omega)]
  · rw [if_neg h1]
    by_cases h2 : (g 1 4).toInt ≤ a.toInt
    · rw [if_pos h2, if_neg (by omega)]
    · rw [if_neg h2, if_pos (by omega)]
theorem m_isMake (N : Nat) (a : Int32) (S : SM) (h0 : 0 ≤ (S.1 0 15).toInt) : x_X8_isMake N a S = some (b2 (0 ≤ a.toInt ∧ a.toInt < (S.1 0 15).toInt), S) := by
  unfold x_X8_isMake
  rw [m_in]
  simp only [Option.bind_some, i_l64, Int64.reduceToInt]
  rw [if_pos (b2_01 _)]
  have h1 := i_hi (S.1 0 15)
  have e : (S.1 0 15 - 1).toInt = (S.1 0 15).toInt - 1 := by
    rw [i_sub] <;> simp only [Int32.reduceToInt] <;> omega
  rw [e]
  refine congrArg (fun z => some (z, S)) ?_
  unfold b2
  by_cases h2 : 0 ≤ a.toInt ∧ a.toInt < (S.1 0 15).toInt
  · rw [if_pos h2, if_pos (by omega)]
  · rw [if_neg h2, if_neg (by omega)]
/-! make -/
theorem d100 {x : Int32} (h : 0 ≤ x.toInt) : (x / 100).toInt = x.toInt / 100 := by
  rw [i_div (by decide)]
  exact Int.tdiv_eq_ediv_of_nonneg h
theorem r100 {x : Int32} (h : 0 ≤ x.toInt) : (rmI x 100).toInt = x.toInt % 100 := by
  rw [i_rm (by decide)]
  exact Int.tmod_eq_emod_of_nonneg h
theorem o_make {TX : TXt} {g : Sg} {S : SM} (h : Inv TX g S) (N : Nat) (a b d : Int32) : Sim TX (x_X7_make N a b d g) (x_X8_make N a b d S) := by
  have hI := h
  obtain ⟨hS, hT, hM, hK, hB, hP, hH, hX⟩ := h
  obtain ⟨k1, k2, k3⟩ := hS.2.2.2.2
  unfold x_X7_make x_X8_make
  simp only [m_in, Option.bind_some, i_l64, b2_0, lt, i_lt, i_le, Int32.reduceToInt, Int64.reduceToInt]
  by_cases h1 : a.toInt < 0
  · rw [if_pos h1, if_pos (by omega)]; exact Sim.mk hI
  rw [if_neg h1]
  by_cases h2 : 6 ≤ a.toInt
  · rw [if_pos h2, if_pos (by omega)]; exact Sim.mk hI
  rw [if_neg h2, if_neg (show ¬ ¬ (0 ≤ a.toInt ∧ a.toInt ≤ 5) by omega)]
  by_cases h7 : d.toInt < 0
  · rw [if_pos h7]
    by_cases h6 : 0 ≤ b.toInt ∧ b.toInt ≤ 918
    · rw [if_neg (fun w => w h6)]
      by_cases h5 : 18 < (rmI b 100).toInt
      · rw [if_pos h5]; exact Sim.mk hI
      · rw [if_neg h5, if_pos (show ¬ (0 ≤ d.toInt ∧ d.toInt ≤ 1048575) by omega)]; exact Sim.mk hI
    · rw [if_pos h6]; exact Sim.mk hI
  rw [if_neg h7]
  by_cases h8 : d.toInt ≤ 1048575
  · rw [if_pos h8]
    by_cases h3 : b.toInt < 0
    · rw [if_pos h3, if_pos (show ¬ (0 ≤ b.toInt ∧ b.toInt ≤ 918) by omega)]; exact Sim.mk hI
    rw [if_neg h3]
    have e1 := d100 (x := b) (by omega)
    have e2 := r100 (x := b) (by omega)
    rw [e1, e2]
    by_cases h4 : 9 < b.toInt / 100
    · rw [if_pos h4, if_pos (show ¬ (0 ≤ b.toInt ∧ b.toInt ≤ 918) by omega)]; exact Sim.mk hI
    rw [if_neg h4]
    by_cases h5 : 19 ≤ b.toInt % 100
    · rw [if_neg (show ¬ b.toInt % 100 < 19 by omega)]
      by_cases h6 : b.toInt ≤ 918
      · rw [if_neg (show ¬ ¬ (0 ≤ b.toInt ∧ b.toInt ≤ 918) by omega), if_pos (show 18 < b.toInt % 100 by omega)]; exact Sim.mk hI
      · rw [if_pos (show ¬ (0 ≤ b.toInt ∧ b.toInt ≤ 918) by omega)]; exact Sim.mk hI
    rw [if_pos (show b.toInt % 100 < 19 by omega), if_neg (show ¬ ¬ (0 ≤ b.toInt ∧ b.toInt ≤ 918) by omega), if_neg (show ¬ 18 < b.toInt % 100 by omega), if_neg (show ¬ ¬ (0 ≤ d.toInt ∧ d.toInt ≤ 1048575) by omega)]
    by_cases h9 : (g 1 4).toInt < 5
    · have n5 : ¬ S.1 0 15 = 5 := by rw [← k1, i_eq]; simp only [Int32.reduceToInt]; omega
      have b1 : inb (g 1 4) 5 = true := i_inb.mpr ⟨k2, by omega⟩
      have b3 : inb (S.1 0 15) 5 = true := by rw [← k1]; exact b1
      rw [if_pos h9, if_neg n5]
      have z5 : ∀ (q : Sg) (F : Nat → Int32), up q 5 F 0 = q 0 := fun _ _ => rfl
      have z6 : ∀ (q : Sg) (F : Nat → Int32), up q 6 F 0 = q 0 := fun _ _ => rfl
      have z7 : ∀ (q : Sg) (F : Nat → Int32), up q 7 F 0 = q 0 := fun _ _ => rfl
      have z8 : ∀ (q : Sg) (F : Nat → Int32), up q 8 F 0 = q 0 := fun _ _ => rfl
      simp only [z5, z6, z7, z8, b1, b3, if_true]
      have e4 : (g 1 4 + 1).toInt = (g 1 4).toInt + 1 := by
        rw [i_add] <;> simp only [Int32.reduceToInt] <;> omega
      have e5 : (rmI b 100 - 9).toInt = b.toInt % 100 - 9 := sub_l e2 (by decide) (by omega)
      have e6 : S.1 0 15 + 1 - 1 = g 1 4 := by
        rw [← k1, i_eq, sub_l e4 (k := 1) (by decide) (by omega)]
        omega
      have hr : ∀ (z : Int32) (G : Sg) (T : SM), z = g 1 4 → Inv TX G T → Sim TX (some (g 1 4, G)) (some (z, T)) := fun z G T hz hh => by rw [hz]; exact Sim.mk hh
      refine hr _ _ _ e6 ⟨⟨hS.1, hS.2.1, hS.2.2.1, hS.2.2.2.1, ?_⟩, hT, ?_, ?_, ?_, hP, IvH_c hH rfl rfl (fun k hk => by rw [up_n _ _ (by omega), up_n _ _ (by omega), up_n _ _ (by omega), up_n _ _ (by omega), up_n _ _ (by omega)]) rfl rfl rfl rfl, hX⟩
      · show g 1 4 + 1 = S.1 0 15 + 1 ∧ 0 ≤ (g 1 4 + 1).toInt ∧ (g 1 4 + 1).toInt ≤ 5
        rw [e4]
        exact ⟨by rw [k1], by omega, by omega⟩
      · intro m hm
        show (upd (g 13) (g 1 4).toNatClampNeg (b / 100) m = upd (S.1 6) (S.1 0 15).toNatClampNeg (b / 100) m ∧ 0 ≤ (upd (g 13) (g 1 4).toNatClampNeg (b / 100) m).toInt ∧ (upd (g 13) (g 1 4).toNatClampNeg (b / 100) m).toInt ≤ 9) ∧ (upd (g 14) (g 1 4).toNatClampNeg (rmI b 100 - 9) m = upd (S.1 7) (S.1 0 15).toNatClampNeg (rmI b 100 - 9) m ∧ -9 ≤ (upd (g 14) (g 1 4).toNatClampNeg (rmI b 100 - 9) m).toInt ∧ (upd (g 14) (g 1 4).toNatClampNeg (rmI b 100 - 9) m).toInt ≤ 9) ∧ (upd (g 15) (g 1 4).toNatClampNeg d m = upd (S.1 8) (S.1 0 15).toNatClampNeg d m ∧ 0 ≤ (upd (g 15) (g 1 4).toNatClampNeg d m).toInt ∧ (upd (g 15) (g 1 4).toNatClampNeg d m).toInt ≤ 1048575)
        rw [← k1]
        by_cases hj : m = (g 1 4).toNatClampNeg
        · subst hj
          rw [upd_s, upd_s, upd_s, upd_s, upd_s, upd_s]
          exact ⟨⟨rfl, by rw [e1]; omega, by rw [e1]; omega⟩, ⟨rfl, by rw [e5]; omega, by rw [e5]; omega⟩, ⟨rfl, by omega, h8⟩⟩
        · rw [upd_n _ _ hj, upd_n _ _ hj, upd_n _ _ hj, upd_n _ _ hj, upd_n _ _ hj, upd_n _ _ hj]
          exact hM m hm
      · intro m hm
        have hm : (m : Int) < (g 1 4 + 1).toInt := hm
        show upd (g 12) (g 1 4).toNatClampNeg a m = upd (S.1 5) (S.1 0 15).toNatClampNeg a m ∧ 0 ≤ (upd (g 12) (g 1 4).toNatClampNeg a m).toInt ∧ (upd (g 12) (g 1 4).toNatClampNeg a m).toInt ≤ 5
        rw [← k1]
        by_cases hj : m = (g 1 4).toNatClampNeg
        · subst hj
          rw [upd_s, upd_s]
          exact ⟨rfl, by omega, by omega⟩
        · rw [upd_n _ _ hj, upd_n _ _ hj]
          rw [i_nat] at hj
          exact hK m (by omega)
      · rcases hB with hB | ⟨q1, q2, q3, q4, q5, q6⟩
        · exact Or.inl hB
        · refine Or.inr ⟨q1, q2, ?_, q4, q5, fun m hm => ?_⟩
          · show (g 2 4).toInt ≤ (g 1 4 + 1).toInt
            omega
          · show g 17 m = upd (g 12) (g 1 4).toNatClampNeg a m
            have hm : (m : Int) < (g 2 4).toInt := hm
            rw [upd_n _ _ (by rw [i_nat]; omega)]
            exact q6 m hm
    · have n5 : S.1 0 15 = 5 := by rw [← k1, i_eq]; simp only [Int32.reduceToInt]; omega
      rw [if_neg h9, if_pos n5]; exact Sim.mk hI
  · rw [if_neg h8]
    by_cases h6 : 0 ≤ b.toInt ∧ b.toInt ≤ 918
    · rw [if_neg (fun w => w h6)]
      by_cases h5 : 18 < (rmI b 100).toInt
      · rw [if_pos h5]; exact Sim.mk hI
      · rw [if_neg h5, if_pos (show ¬ (0 ≤ d.toInt ∧ d.toInt ≤ 1048575) by omega)]; exact Sim.mk hI
    · rw [if_pos h6]; exact Sim.mk hI
