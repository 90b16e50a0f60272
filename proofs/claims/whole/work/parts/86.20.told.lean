/-! told, set -/
theorem ten {x : Int32} (h1 : 0 ≤ x.toInt) (h2 : x.toInt ≤ 9) : x = 0 ∨ x = 1 ∨ x = 2 ∨ x = 3 ∨ x = 4 ∨ x = 5 ∨ x = 6 ∨ x = 7 ∨ x = 8 ∨ x = 9 := by
  simp only [i_eq (x := x), Int32.reduceToInt]
  omega
theorem c_told0 (N : Nat) (a : Int32) (g : Sg) : x_X7_told N a 0 g = some (g 1 0, g) := rfl
theorem m_told0 (N : Nat) (a : Int32) (S : SM) : x_X8_told N a 0 S = some (S.1 0 7, S) := by
  unfold x_X8_told x_X8_told_b24 x_X8_told_b49
  simp only [m_in, Option.bind_some, i_l64, b2_0, Int32.reduceToInt, Int64.reduceToInt]
  rfl
theorem c_told1 (N : Nat) (a : Int32) (g : Sg) : x_X7_told N a 1 g = some (g 1 1, g) := rfl
theorem m_told1 (N : Nat) (a : Int32) (S : SM) : x_X8_told N a 1 S = some (S.1 0 8, S) := by
  unfold x_X8_told x_X8_told_b24 x_X8_told_b49
  simp only [m_in, Option.bind_some, i_l64, b2_0, Int32.reduceToInt, Int64.reduceToInt]
  rfl
theorem c_told2 (N : Nat) (a : Int32) (g : Sg) : x_X7_told N a 2 g = some (g 1 2, g) := rfl
theorem m_told2 (N : Nat) (a : Int32) (S : SM) : x_X8_told N a 2 S = some (S.1 0 9, S) := by
  unfold x_X8_told x_X8_told_b24 x_X8_told_b49
  simp only [m_in, Option.bind_some, i_l64, b2_0, Int32.reduceToInt, Int64.reduceToInt]
  rfl
theorem c_told3 (N : Nat) (a : Int32) (g : Sg) : x_X7_told N a 3 g = (x_X7_isFoot N a g).bind fun q => if q.1 = 0 then some (-100, q.2) else if inb a 100 = true then some (q.2 11 a.toNatClampNeg, q.2) else none := rfl
theorem m_told3 (N : Nat) (a : Int32) (S : SM) : x_X8_told N a 3 S = (x_X8_isFoot N a S).bind fun q => if q.1 = 0 then some (-100, q.2) else if inb a 100 = true then some (q.2.1 4 a.toNatClampNeg, q.2) else none := by
  unfold x_X8_told x_X8_told_b24 x_X8_told_b49
  simp only [m_in, Option.bind_some, i_l64, b2_0, Int32.reduceToInt, Int64.reduceToInt]
  rfl
theorem c_told4 (N : Nat) (a : Int32) (g : Sg) : x_X7_told N a 4 g = (x_X5_hasMake N a g).bind fun q => if q.1 = 0 then some (-100, q.2) else if inb a 5 = true then some (q.2 13 a.toNatClampNeg, q.2) else none := rfl
theorem m_told4 (N : Nat) (a : Int32) (S : SM) : x_X8_told N a 4 S = (x_X8_isMake N a S).bind fun q => if q.1 = 0 then some (-100, q.2) else if inb a 5 = true then some (q.2.1 6 a.toNatClampNeg, q.2) else none := by
  unfold x_X8_told x_X8_told_b24 x_X8_told_b49
  simp only [m_in, Option.bind_some, i_l64, b2_0, Int32.reduceToInt, Int64.reduceToInt]
  rfl
theorem c_told5 (N : Nat) (a : Int32) (g : Sg) : x_X7_told N a 5 g = (x_X5_hasMake N a g).bind fun q => if q.1 = 0 then some (-100, q.2) else if inb a 5 = true then some (q.2 14 a.toNatClampNeg, q.2) else none := rfl
theorem m_told5 (N : Nat) (a : Int32) (S : SM) : x_X8_told N a 5 S = (x_X8_isMake N a S).bind fun q => if q.1 = 0 then some (-100, q.2) else if inb a 5 = true then some (q.2.1 7 a.toNatClampNeg, q.2) else none := by
  unfold x_X8_told x_X8_told_b24 x_X8_told_b49
  simp only [m_in, Option.bind_some, i_l64, b2_0, Int32.reduceToInt, Int64.reduceToInt]
  rfl
theorem c_told6 (N : Nat) (a : Int32) (g : Sg) : x_X7_told N a 6 g = (x_X5_hasMake N a g).bind fun q => if q.1 = 0 then some (-100, q.2) else if inb a 5 = true then some (q.2 15 a.toNatClampNeg, q.2) else none := rfl
theorem m_told6 (N : Nat) (a : Int32) (S : SM) : x_X8_told N a 6 S = (x_X8_isMake N a S).bind fun q => if q.1 = 0 then some (-100, q.2) else if inb a 5 = true then some (q.2.1 8 a.toNatClampNeg, q.2) else none := by
  unfold x_X8_told x_X8_told_b24 x_X8_told_b49
  simp only [m_in, Option.bind_some, i_l64, b2_0, Int32.reduceToInt, Int64.reduceToInt]
  rfl
theorem c_told7 (N : Nat) (a : Int32) (g : Sg) : x_X7_told N a 7 g = (x_X5_hasMake N a g).bind fun q => if q.1 = 0 then some (-100, q.2) else if inb a 5 = true then some (q.2 12 a.toNatClampNeg, q.2) else none := rfl
theorem m_told7 (N : Nat) (a : Int32) (S : SM) : x_X8_told N a 7 S = (x_X8_isMake N a S).bind fun q => if q.1 = 0 then some (-100, q.2) else if inb a 5 = true then some (q.2.1 5 a.toNatClampNeg, q.2) else none := by
  unfold x_X8_told x_X8_told_b24 x_X8_told_b49
  simp only [m_in, Option.bind_some, i_l64, b2_0, Int32.reduceToInt, Int64.reduceToInt]
  rfl
theorem c_told8 (N : Nat) (a : Int32) (g : Sg) : x_X7_told N a 8 g = (x_X7_footNow N 0 g).bind fun q => some (q.1, q.2) := rfl
theorem m_told8 (N : Nat) (a : Int32) (S : SM) : x_X8_told N a 8 S = (x_X8_footNow N 0 S).bind fun q => some (q.1, q.2) := by
  unfold x_X8_told x_X8_told_b24 x_X8_told_b49
  simp only [m_in, Option.bind_some, i_l64, b2_0, Int32.reduceToInt, Int64.reduceToInt]
  rfl
theorem c_told9 (N : Nat) (a : Int32) (g : Sg) : x_X7_told N a 9 g = (x_X7_footNow N 1 g).bind fun q => some (q.1, q.2) := rfl
theorem m_told9 (N : Nat) (a : Int32) (S : SM) : x_X8_told N a 9 S = (x_X8_footNow N 1 S).bind fun q => some (q.1, q.2) := by
  unfold x_X8_told x_X8_told_b24 x_X8_told_b49
  simp only [m_in, Option.bind_some, i_l64, b2_0, Int32.reduceToInt, Int64.reduceToInt]
  rfl
def FootOK (TX : TXt) (N : Nat) : Prop := ∀ (g : Sg) (S : SM), Inv TX g S → ∀ a : Int32, (a = 0 ∨ a = 1) → Sim TX (x_X7_footNow N a g) (x_X8_footNow N a S)
theorem Sim.same {TX : TXt} {p : Option (Int32 × Sg)} {q : Option (Int32 × SM)} (h : Sim TX p q) : Sim TX (p.bind fun z => some (z.1, z.2)) (q.bind fun z => some (z.1, z.2)) := by
  obtain ⟨r, g, S, e1, e2, h3⟩ := h
  rw [e1, e2]
  exact Sim.mk h3
theorem o_told {TX : TXt} {g : Sg} {S : SM} (h : Inv TX g S) {N : Nat} (hF : FootOK TX N) (a b : Int32) : Sim TX (x_X7_told N a b g) (x_X8_told N a b S) := by
  have hI := h
  obtain ⟨hS, hT, hM, hK, hB, hP, hH, hX⟩ := h
  obtain ⟨k1, k2, k3⟩ := hS.2.2.2.2
  have k9 : 0 ≤ (S.1 0 15).toInt := by rw [← k1]; exact k2
  by_cases hb : 0 ≤ b.toInt ∧ b.toInt ≤ 9
  · have mk : ∀ (x y : Nat), (0 ≤ a.toInt ∧ a.toInt < (g 1 4).toInt → g x a.toNatClampNeg = S.1 y a.toNatClampNeg) → Sim TX ((x_X5_hasMake N a g).bind fun q => if q.1 = 0 then some (-100, q.2) else if inb a 5 = true then some (q.2 x a.toNatClampNeg, q.2) else none) ((x_X8_isMake N a S).bind fun q => if q.1 = 0 then some (-100, q.2) else if inb a 5 = true then some (q.2.1 y a.toNatClampNeg, q.2) else none) := by
      intro x y hxy
      simp only [c_hasMake, m_isMake N a S k9, Option.bind_some, b2_0]
      rw [← k1]
      by_cases h3 : 0 ≤ a.toInt ∧ a.toInt < (g 1 4).toInt
      · have n9 : ¬ ¬ (0 ≤ a.toInt ∧ a.toInt < (g 1 4).toInt) := fun z => z h3
        have b5 : inb a 5 = true := i_inb.mpr ⟨h3.1, by omega⟩
        rw [if_neg n9, if_neg n9, if_pos b5, if_pos b5, hxy h3]; exact Sim.mk hI
      · rw [if_pos h3, if_pos h3]; exact Sim.mk hI
    rcases ten hb.1 hb.2 with e | e | e | e | e | e | e | e | e | e <;> subst e
    · rw [c_told0, m_told0, ← hS.1.1]; exact Sim.mk hI
    · rw [c_told1, m_told1, ← hS.2.1.1]; exact Sim.mk hI
    · rw [c_told2, m_told2, ← hS.2.2.1.1]; exact Sim.mk hI
    · rw [c_told3, m_told3]
      simp only [c_isFoot, m_isFoot, Option.bind_some, b2_0]
      by_cases h3 : 0 ≤ a.toInt ∧ a.toInt ≤ 99
      · have n9 : ¬ ¬ (0 ≤ a.toInt ∧ a.toInt ≤ 99) := fun z => z h3
        have b5 : inb a 100 = true := i_inb.mpr ⟨h3.1, by omega⟩
        rw [if_neg n9, if_neg n9, if_pos b5, if_pos b5, (hT a.toNatClampNeg (by rw [i_nat]; omega)).1]; exact Sim.mk hI
      · rw [if_pos h3, if_pos h3]; exact Sim.mk hI
    · rw [c_told4, m_told4]; exact mk _ _ (fun h3 => (hM a.toNatClampNeg (by rw [i_nat]; omega)).1.1)
    · rw [c_told5, m_told5]; exact mk _ _ (fun h3 => (hM a.toNatClampNeg (by rw [i_nat]; omega)).2.1.1)
    · rw [c_told6, m_told6]; exact mk _ _ (fun h3 => (hM a.toNatClampNeg (by rw [i_nat]; omega)).2.2.1)
    · rw [c_told7, m_told7]; exact mk _ _ (fun h3 => (hK a.toNatClampNeg (by rw [i_nat]; omega)).1)
    · rw [c_told8, m_told8]; exact (hF g S hI 0 (Or.inl rfl)).same
    · rw [c_told9, m_told9]; exact (hF g S hI 1 (Or.inr rfl)).same
  · unfold x_X7_told x_X8_told
    rw [m_in]
    simp only [Option.bind_some, b2_0, i_l64, Int64.reduceToInt]
    rw [if_pos (show b.toInt < 0 ∨ 9 < b.toInt by omega), if_pos hb]
    exact Sim.mk hI
