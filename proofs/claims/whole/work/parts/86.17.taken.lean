/-! taken -/
def uT (K k : Int32) : Int32 := if K = k ∨ k = 0 ∨ (K = 3 ∧ k = 1) ∨ (K = 4 ∧ k = 2) then 1 else 0
theorem six {x : Int32} (h1 : 0 ≤ x.toInt) (h2 : x.toInt ≤ 5) : x = 0 ∨ x = 1 ∨ x = 2 ∨ x = 3 ∨ x = 4 ∨ x = 5 := by
  simp only [i_eq (x := x), Int32.reduceToInt]
  omega
theorem c_under (n : Nat) {K k : Int32} (g : Sg) (hK : 0 ≤ K.toInt ∧ K.toInt ≤ 5) (hk : 0 ≤ k.toInt ∧ k.toInt ≤ 5) : x_X0_isUnder (n + 7) K k g = some (uT K k, g) := by
  rcases six hK.1 hK.2 with h | h | h | h | h | h <;> rcases six hk.1 hk.2 with h' | h' | h' | h' | h' | h' <;> subst h <;> subst h' <;> rfl
theorem m_under (N n : Nat) {K k : Int32} (a : Int32) (S : SM) (hK : 0 ≤ K.toInt ∧ K.toInt ≤ 5) (hk : 0 ≤ k.toInt ∧ k.toInt ≤ 5) : lp (x_X8_taken_B33 N) (n + 7) (a, k, K, S) = if uT K k = 0 then some (-13, S) else if inb a 5 = true then some (S.1 6 a.toNatClampNeg, S) else none := by
  rcases six hK.1 hK.2 with h | h | h | h | h | h <;> rcases six hk.1 hk.2 with h' | h' | h' | h' | h' | h' <;> subst h <;> subst h' <;> rfl
theorem o_taken {TX : TXt} {g : Sg} {S : SM} (h : Inv TX g S) {N : Nat} (hN : 1000 < N) (a b : Int32) : Sim TX (x_X7_taken N a b g) (x_X8_taken N a b S) := by
  have hI := h
  obtain ⟨hS, hT, hM, hK, hB, hP, hH, hX⟩ := h
  obtain ⟨k1, k2, k3⟩ := hS.2.2.2.2
  obtain ⟨n, hn⟩ : ∃ n, N = n + 7 := ⟨N - 7, by omega⟩
  unfold x_X7_taken x_X8_taken
  have k9 : 0 ≤ (S.1 0 15).toInt := by rw [← k1]; exact k2
  simp only [c_hasMake, m_in, m_isMake N a S k9, Option.bind_some, i_l64, b2_0, lt, i_lt, i_le, Int32.reduceToInt, Int64.reduceToInt]
  rw [← k1]
  by_cases h1 : b.toInt < 0
  · rw [if_pos h1, if_pos (by omega)]; exact Sim.mk hI
  rw [if_neg h1]
  by_cases h2 : b.toInt < 6
  · have nb : ¬ ¬ (0 ≤ b.toInt ∧ b.toInt ≤ 5) := fun z => z (by omega)
    rw [if_pos h2, if_neg nb]
    by_cases h3 : 0 ≤ a.toInt ∧ a.toInt < (g 1 4).toInt
    · have n9 : ¬ ¬ (0 ≤ a.toInt ∧ a.toInt < (g 1 4).toInt) := fun z => z h3
      rw [if_neg n9, if_neg n9]
      have b5 : inb a 5 = true := i_inb.mpr ⟨h3.1, by omega⟩
      obtain ⟨q1, q2, q3⟩ := hK a.toNatClampNeg (by rw [i_nat]; omega)
      obtain ⟨⟨m1, _⟩, _⟩ := hM a.toNatClampNeg (by rw [i_nat]; omega)
      rw [if_pos b5, if_pos b5, ← q1, hn, c_under n g ⟨q2, q3⟩ ⟨by omega, by omega⟩, m_under _ n a S ⟨q2, q3⟩ ⟨by omega, by omega⟩]
      simp only [Option.bind_some]
      by_cases h4 : uT (g 12 a.toNatClampNeg) b = 0
      · rw [if_pos h4, if_pos h4]; exact Sim.mk hI
      · rw [if_neg h4, if_neg h4, if_pos b5, if_pos b5, ← m1]; exact Sim.mk hI
    · rw [if_pos h3, if_pos h3]; exact Sim.mk hI
  · rw [if_neg h2, if_pos (by omega)]; exact Sim.mk hI
