theorem b2_c {p q : Prop} [Decidable p] [Decidable q] (h : p ↔ q) : b2 p = b2 q := by
  unfold b2
  by_cases hp : p
  · rw [if_pos hp, if_pos (h.mp hp)]
  · rw [if_neg hp, if_neg (fun z => hp (h.mpr z))]
theorem b2_1 {p : Prop} [Decidable p] : b2 p = 1 ↔ p := by
  unfold b2
  by_cases hp : p
  · rw [if_pos hp]; exact ⟨fun _ => hp, fun _ => rfl⟩
  · rw [if_neg hp]; exact ⟨fun z => absurd z (by decide), fun z => absurd z hp⟩
theorem Rg_c {TX : TXt} {g : Sg} {S : SM} (h : Inv TX g S) : Rg (g 12) (g 13) (g 14) (g 1 4).toInt := by
  obtain ⟨hS, hT, hM, hK, hB, hP, hH, hX⟩ := h
  obtain ⟨k1, k2, k3⟩ := hS.2.2.2.2
  intro m hm
  obtain ⟨a1, a2, a3⟩ := hM m (by omega)
  exact ⟨(hK m hm).2, a1.2, a2.2⟩
theorem Rg_m {TX : TXt} {g : Sg} {S : SM} (h : Inv TX g S) : Rg (S.1 5) (S.1 6) (S.1 7) (g 1 4).toInt := by
  obtain ⟨hS, hT, hM, hK, hB, hP, hH, hX⟩ := h
  obtain ⟨k1, k2, k3⟩ := hS.2.2.2.2
  intro m hm
  obtain ⟨a1, a2, a3⟩ := hM m (by omega)
  have q := hK m hm
  rw [← q.1, ← a1.1, ← a2.1]
  exact ⟨q.2, a1.2, a2.2⟩
theorem mk5 {TX : TXt} {g : Sg} {S : SM} (h : Inv TX g S) : g 1 4 = S.1 0 15 ∧ 0 ≤ (g 1 4).toInt ∧ (g 1 4).toInt ≤ 5 := h.1.2.2.2.2
theorem Ln_cm {TX : TXt} {g : Sg} {S : SM} (h : Inv TX g S) {x : Nat} (hx : (x : Int) < 20 * (g 1 4).toInt) : Ln (S.1 5) (S.1 6) (S.1 7) x = Ln (g 12) (g 13) (g 14) x := by
  obtain ⟨k1, k2, k3⟩ := mk5 h
  obtain ⟨hS, hT, hM, hK, hB, hP, hH, hX⟩ := h
  obtain ⟨a1, a2, a3⟩ := hM (x / 20) (by omega)
  unfold Ln
  rw [(hK (x / 20) (by omega)).1, a1.1, a2.1]
theorem Sy_cm {TX : TXt} {g : Sg} {S : SM} (h : Inv TX g S) {x : Nat} (hx : (x : Int) < 20 * (g 1 4).toInt) (f : Int) : Sy (S.1 5) (S.1 6) (S.1 7) x f = Sy (g 12) (g 13) (g 14) x f := by
  have e := Ln_cm h hx
  obtain ⟨k1, k2, k3⟩ := mk5 h
  obtain ⟨hS, hT, hM, hK, hB, hP, hH, hX⟩ := h
  obtain ⟨a1, a2, a3⟩ := hM (x / 20) (by omega)
  unfold Sy
  rw [e, (hK (x / 20) (by omega)).1, a1.1]
theorem m_isShoe (N : Nat) (a : Int32) (S : SM) (h : 0 ≤ (S.1 0 15).toInt ∧ (S.1 0 15).toInt ≤ 5) : x_X8_isShoe N a S = some (b2 (0 ≤ a.toInt ∧ a.toInt < 20 * (S.1 0 15).toInt), S) := by
  have e1 : (20 * S.1 0 15).toInt = 20 * (S.1 0 15).toInt := mul_l (by decide) rfl (by omega)
  have e2 : (20 * S.1 0 15 - 1).toInt = 20 * (S.1 0 15).toInt - 1 := sub_l e1 (by decide) (by omega)
  unfold x_X8_isShoe
  rw [m_in]
  simp only [Option.bind_some, i_l64, e2, Int64.reduceToInt]
  rw [if_pos (b2_01 _)]
  exact congrArg (fun z => some (z, S)) (b2_c (by omega))
theorem o_fit {TX : TXt} {g : Sg} {S : SM} (h : Inv TX g S) {N : Nat} (hN : 200 < N) (a b : Int32) : Sim TX (x_X7_fit N a b g) (x_X8_fit N a b S) := by
  obtain ⟨k1, k2, k3⟩ := mk5 h
  unfold x_X7_fit x_X8_fit
  rw [c_hasShoe N a g ⟨k2, k3⟩, m_isShoe N a S (by rw [← k1]; exact ⟨k2, k3⟩), ← k1]
  simp only [Option.bind_some, b2_0]
  by_cases h1 : 0 ≤ a.toInt ∧ a.toInt < 20 * (g 1 4).toInt
  · rw [if_neg (show ¬ ¬ (0 ≤ a.toInt ∧ a.toInt < 20 * (g 1 4).toInt) from fun z => z h1), if_neg (show ¬ ¬ (0 ≤ a.toInt ∧ a.toInt < 20 * (g 1 4).toInt) from fun z => z h1)]
    have hc := c_len (N := N) (Rg_c h) k3 h1
    have hm := m_len (N := N) (Rg_m h) k3 h1
    rw [Ln_cm h (by omega)] at hm
    by_cases h2 : b = -1
    · rw [if_pos h2, if_pos h2]
      unfold x_X7_fit_b27 x_X8_fit_b24
      rw [if_pos h2, if_pos h2, hc, hm]
      exact Sim.mk h
    · rw [if_neg h2, if_neg h2, c_isFoot, m_isFoot]
      simp only [Option.bind_some, b2_0]
      by_cases h3 : 0 ≤ b.toInt ∧ b.toInt ≤ 99
      · rw [if_neg (show ¬ ¬ (0 ≤ b.toInt ∧ b.toInt ≤ 99) from fun z => z h3), if_neg (show ¬ ¬ (0 ≤ b.toInt ∧ b.toInt ≤ 99) from fun z => z h3)]
        unfold x_X7_fit_b27 x_X8_fit_b24
        have hc := c_saysOf (N := N) (by omega) (Rg_c h) k3 h1 h3
        have hm := m_saysOf (N := N) (Rg_m h) k3 h1 h3
        rw [Sy_cm h (by omega)] at hm
        rw [if_neg h2, if_neg h2, hc, hm]
        exact Sim.mk h
      · rw [if_pos h3, if_pos h3]; exact Sim.mk h
  · rw [if_pos h1, if_pos h1]; exact Sim.mk h
