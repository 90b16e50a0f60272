/-! set -/
theorem c_set0 (N : Nat) (a d : Int32) (g : Sg) : x_X7_set N 0 a d g = if d < 0 then some (-100, g) else if d ≤ 99 then (x_X7_told N a 0 g).bind fun q => if q.1 = -100 then some (-100, q.2) else some (q.1, up q.2 1 (upd (q.2 1) 0 d)) else some (-100, g) := rfl
theorem m_set0 (N : Nat) (a d : Int32) (S : SM) : x_X8_set N 0 a d S = (x_X8_in N d.toInt64 0 99 S).bind fun p => if p.1 = 0 then some (-100, p.2) else (x_X8_told N a 0 p.2).bind fun q => some (q.1, (up q.2.1 0 (upd (q.2.1 0) 7 d), q.2.2)) := by
  unfold x_X8_set x_X8_set_b24 x_X8_set_b40 x_X8_set_b54 x_X8_set_b91
  simp only [m_in, Option.bind_some, i_l64, b2_0, Int32.reduceToInt, Int64.reduceToInt]
  rfl
theorem c_set1 (N : Nat) (a d : Int32) (g : Sg) : x_X7_set N 1 a d g = if d < 0 then some (-100, g) else if d ≤ 99 then (x_X7_told N a 1 g).bind fun q => if q.1 = -100 then some (-100, q.2) else some (q.1, up q.2 1 (upd (q.2 1) 1 d)) else some (-100, g) := rfl
theorem m_set1 (N : Nat) (a d : Int32) (S : SM) : x_X8_set N 1 a d S = (x_X8_in N d.toInt64 0 99 S).bind fun p => if p.1 = 0 then some (-100, p.2) else (x_X8_told N a 1 p.2).bind fun q => some (q.1, (up q.2.1 0 (upd (q.2.1 0) 8 d), q.2.2)) := by
  unfold x_X8_set x_X8_set_b24 x_X8_set_b40 x_X8_set_b54 x_X8_set_b91
  simp only [m_in, Option.bind_some, i_l64, b2_0, Int32.reduceToInt, Int64.reduceToInt]
  rfl
theorem c_set2 (N : Nat) (a d : Int32) (g : Sg) : x_X7_set N 2 a d g = if d < 0 then some (-100, g) else if d ≤ 23 then (x_X7_told N a 2 g).bind fun q => if q.1 = -100 then some (-100, q.2) else some (q.1, up q.2 1 (upd (q.2 1) 2 d)) else some (-100, g) := rfl
theorem m_set2 (N : Nat) (a d : Int32) (S : SM) : x_X8_set N 2 a d S = (x_X8_in N d.toInt64 0 23 S).bind fun p => if p.1 = 0 then some (-100, p.2) else (x_X8_told N a 2 p.2).bind fun q => some (q.1, (up q.2.1 0 (upd (q.2.1 0) 9 d), q.2.2)) := by
  unfold x_X8_set x_X8_set_b24 x_X8_set_b40 x_X8_set_b54 x_X8_set_b91
  simp only [m_in, Option.bind_some, i_l64, b2_0, Int32.reduceToInt, Int64.reduceToInt]
  rfl
theorem c_set3 (N : Nat) (a d : Int32) (g : Sg) : x_X7_set N 3 a d g = if d < 0 then some (-100, g) else if d ≤ 9 then (x_X7_told N a 3 g).bind fun q => if q.1 = -100 then some (-100, q.2) else if inb a 100 = true then some (q.1, up q.2 11 (upd (q.2 11) a.toNatClampNeg d)) else none else some (-100, g) := rfl
theorem m_set3 (N : Nat) (a d : Int32) (S : SM) : x_X8_set N 3 a d S = (x_X8_isFoot N a S).bind fun o => if o.1 = 0 then some (-100, o.2) else (x_X8_in N d.toInt64 0 9 o.2).bind fun p => if p.1 = 0 then some (-100, p.2) else (x_X8_told N a 3 p.2).bind fun q => if inb a 100 = true then some (q.1, (up q.2.1 4 (upd (q.2.1 4) a.toNatClampNeg d), q.2.2)) else none := by
  unfold x_X8_set x_X8_set_b24 x_X8_set_b40 x_X8_set_b54 x_X8_set_b91
  simp only [m_in, Option.bind_some, i_l64, b2_0, Int32.reduceToInt, Int64.reduceToInt]
  rfl
theorem c_set4 (N : Nat) (a d : Int32) (g : Sg) : x_X7_set N 4 a d g = if d < 0 then some (-100, g) else if d ≤ 9 then (x_X7_told N a 4 g).bind fun q => if q.1 = -100 then some (-100, q.2) else if inb a 5 = true then some (q.1, up q.2 13 (upd (q.2 13) a.toNatClampNeg d)) else none else some (-100, g) := rfl
theorem m_set4 (N : Nat) (a d : Int32) (S : SM) : x_X8_set N 4 a d S = (x_X8_isMake N a S).bind fun o => if o.1 = 0 then some (-100, o.2) else (x_X8_in N d.toInt64 0 9 o.2).bind fun p => if p.1 = 0 then some (-100, p.2) else (x_X8_told N a 4 p.2).bind fun q => if inb a 5 = true then some (q.1, (up q.2.1 6 (upd (q.2.1 6) a.toNatClampNeg d), q.2.2)) else none := by
  unfold x_X8_set x_X8_set_b24 x_X8_set_b40 x_X8_set_b54 x_X8_set_b91
  simp only [m_in, Option.bind_some, i_l64, b2_0, Int32.reduceToInt, Int64.reduceToInt]
  rfl
theorem c_set5 (N : Nat) (a d : Int32) (g : Sg) : x_X7_set N 5 a d g = if d < -9 then some (-100, g) else if d ≤ 9 then (x_X7_told N a 5 g).bind fun q => if q.1 = -100 then some (-100, q.2) else if inb a 5 = true then some (q.1, up q.2 14 (upd (q.2 14) a.toNatClampNeg d)) else none else some (-100, g) := rfl
theorem m_set5 (N : Nat) (a d : Int32) (S : SM) : x_X8_set N 5 a d S = (x_X8_isMake N a S).bind fun o => if o.1 = 0 then some (-100, o.2) else (x_X8_in N d.toInt64 (-9) 9 o.2).bind fun p => if p.1 = 0 then some (-100, p.2) else (x_X8_told N a 5 p.2).bind fun q => if inb a 5 = true then some (q.1, (up q.2.1 7 (upd (q.2.1 7) a.toNatClampNeg d), q.2.2)) else none := by
  unfold x_X8_set x_X8_set_b24 x_X8_set_b40 x_X8_set_b54 x_X8_set_b91
  simp only [m_in, Option.bind_some, i_l64, b2_0, Int32.reduceToInt, Int64.reduceToInt]
  rfl
theorem c_set6 (N : Nat) (a d : Int32) (g : Sg) : x_X7_set N 6 a d g = if d < 0 then some (-100, g) else if d ≤ 1048575 then (x_X7_told N a 6 g).bind fun q => if q.1 = -100 then some (-100, q.2) else if inb a 5 = true then some (q.1, up q.2 15 (upd (q.2 15) a.toNatClampNeg d)) else none else some (-100, g) := rfl
theorem m_set6 (N : Nat) (a d : Int32) (S : SM) : x_X8_set N 6 a d S = (x_X8_isMake N a S).bind fun o => if o.1 = 0 then some (-100, o.2) else (x_X8_in N d.toInt64 0 1048575 o.2).bind fun p => if p.1 = 0 then some (-100, p.2) else (x_X8_told N a 6 p.2).bind fun q => if inb a 5 = true then some (q.1, (up q.2.1 8 (upd (q.2.1 8) a.toNatClampNeg d), q.2.2)) else none := by
  unfold x_X8_set x_X8_set_b24 x_X8_set_b40 x_X8_set_b54 x_X8_set_b91
  simp only [m_in, Option.bind_some, i_l64, b2_0, Int32.reduceToInt, Int64.reduceToInt]
  rfl

theorem o_set0 {TX : TXt} {g : Sg} {S : SM} (h : Inv TX g S) (N : Nat) (a d : Int32) : Sim TX (x_X7_set N 0 a d g) (x_X8_set N 0 a d S) := by
  have hI := h
  obtain ⟨hS, hT, hM, hK, hB, hP, hH, hX⟩ := h
  rw [c_set0, m_set0]
  simp only [m_in, Option.bind_some, i_l64, b2_0, i_lt, i_le, Int32.reduceToInt, Int64.reduceToInt, c_told0, m_told0]
  by_cases h1 : d.toInt < 0
  · rw [if_pos h1, if_pos (by omega)]; exact Sim.mk hI
  rw [if_neg h1]
  by_cases h2 : d.toInt ≤ 99
  · have hq := hS.1
    have n1 : ¬ g 1 0 = -100 := by rw [i_eq]; simp only [Int32.reduceToInt]; omega
    have n9 : ¬ ¬ (0 ≤ d.toInt ∧ d.toInt ≤ 99) := fun z => z (by omega)
    rw [if_pos h2, if_neg n1, if_neg n9, ← hq.1]
    exact Sim.mk ⟨⟨⟨rfl, by show 0 ≤ d.toInt; omega, by show d.toInt ≤ 99; omega⟩, hS.2.1, hS.2.2.1, hS.2.2.2⟩, hT, hM, hK, hB, hP, IvH_c hH rfl rfl (fun k hk => up_n _ _ (by omega)) rfl rfl rfl rfl, hX⟩
  · rw [if_neg h2, if_pos (by omega)]; exact Sim.mk hI
theorem o_set1 {TX : TXt} {g : Sg} {S : SM} (h : Inv TX g S) (N : Nat) (a d : Int32) : Sim TX (x_X7_set N 1 a d g) (x_X8_set N 1 a d S) := by
  have hI := h
  obtain ⟨hS, hT, hM, hK, hB, hP, hH, hX⟩ := h
  rw [c_set1, m_set1]
  simp only [m_in, Option.bind_some, i_l64, b2_0, i_lt, i_le, Int32.reduceToInt, Int64.reduceToInt, c_told1, m_told1]
  by_cases h1 : d.toInt < 0
  · rw [if_pos h1, if_pos (by omega)]; exact Sim.mk hI
  rw [if_neg h1]
  by_cases h2 : d.toInt ≤ 99
  · have hq := hS.2.1
    have n1 : ¬ g 1 1 = -100 := by rw [i_eq]; simp only [Int32.reduceToInt]; omega
    have n9 : ¬ ¬ (0 ≤ d.toInt ∧ d.toInt ≤ 99) := fun z => z (by omega)
    rw [if_pos h2, if_neg n1, if_neg n9, ← hq.1]
    exact Sim.mk ⟨⟨hS.1, ⟨rfl, by show 0 ≤ d.toInt; omega, by show d.toInt ≤ 99; omega⟩, hS.2.2.1, hS.2.2.2⟩, hT, hM, hK, hB, hP, IvH_c hH rfl rfl (fun k hk => up_n _ _ (by omega)) rfl rfl rfl rfl, hX⟩
  · rw [if_neg h2, if_pos (by omega)]; exact Sim.mk hI
theorem o_set2 {TX : TXt} {g : Sg} {S : SM} (h : Inv TX g S) (N : Nat) (a d : Int32) : Sim TX (x_X7_set N 2 a d g) (x_X8_set N 2 a d S) := by
  have hI := h
  obtain ⟨hS, hT, hM, hK, hB, hP, hH, hX⟩ := h
  rw [c_set2, m_set2]
  simp only [m_in, Option.bind_some, i_l64, b2_0, i_lt, i_le, Int32.reduceToInt, Int64.reduceToInt, c_told2, m_told2]
  by_cases h1 : d.toInt < 0
  · rw [if_pos h1, if_pos (by omega)]; exact Sim.mk hI
  rw [if_neg h1]
  by_cases h2 : d.toInt ≤ 23
  · have hq := hS.2.2.1
    have n1 : ¬ g 1 2 = -100 := by rw [i_eq]; simp only [Int32.reduceToInt]; omega
    have n9 : ¬ ¬ (0 ≤ d.toInt ∧ d.toInt ≤ 23) := fun z => z (by omega)
    rw [if_pos h2, if_neg n1, if_neg n9, ← hq.1]
    exact Sim.mk ⟨⟨hS.1, hS.2.1, ⟨rfl, by show 0 ≤ d.toInt; omega, by show d.toInt ≤ 23; omega⟩, hS.2.2.2⟩, hT, hM, hK, hB, hP, IvH_c hH rfl rfl (fun k hk => up_n _ _ (by omega)) rfl rfl rfl rfl, hX⟩
  · rw [if_neg h2, if_pos (by omega)]; exact Sim.mk hI
theorem o_set3 {TX : TXt} {g : Sg} {S : SM} (h : Inv TX g S) (N : Nat) (a d : Int32) : Sim TX (x_X7_set N 3 a d g) (x_X8_set N 3 a d S) := by
  have hI := h
  obtain ⟨hS, hT, hM, hK, hB, hP, hH, hX⟩ := h
  rw [c_set3, m_set3, c_told3]
  simp only [m_told3, m_in, c_isFoot, m_isFoot, Option.bind_some, i_l64, b2_0, i_lt, i_le, Int32.reduceToInt, Int64.reduceToInt]
  by_cases h3 : 0 ≤ a.toInt ∧ a.toInt ≤ 99
  · have n3 : ¬ ¬ (0 ≤ a.toInt ∧ a.toInt ≤ 99) := fun z => z h3
    have b5 : inb a 100 = true := i_inb.mpr ⟨h3.1, by omega⟩
    have hq := hT a.toNatClampNeg (by rw [i_nat]; omega)
    have n1 : ¬ g 11 a.toNatClampNeg = -100 := by rw [i_eq]; simp only [Int32.reduceToInt]; omega
    simp only [if_neg n3, if_pos b5, Option.bind_some]
    by_cases h1 : d.toInt < 0
    · rw [if_pos h1, if_pos (by omega)]; exact Sim.mk hI
    rw [if_neg h1]
    by_cases h2 : d.toInt ≤ 9
    · have n9 : ¬ ¬ (0 ≤ d.toInt ∧ d.toInt ≤ 9) := fun z => z (by omega)
      rw [if_pos h2, if_neg n1, if_neg n9, ← hq.1]
      refine Sim.mk ⟨hS, ?_, hM, hK, hB, hP, IvH_c hH rfl rfl (fun k hk => up_n _ _ (by omega)) rfl rfl rfl rfl, hX⟩
      intro f hf
      show upd (g 11) a.toNatClampNeg d f = upd (S.1 4) a.toNatClampNeg d f ∧ 0 ≤ (upd (g 11) a.toNatClampNeg d f).toInt ∧ (upd (g 11) a.toNatClampNeg d f).toInt ≤ 9
      by_cases hj : f = a.toNatClampNeg
      · subst hj
        rw [upd_s, upd_s]
        exact ⟨rfl, by omega, h2⟩
      · rw [upd_n _ _ hj, upd_n _ _ hj]
        exact hT f hf
    · rw [if_neg h2, if_pos (by omega)]; exact Sim.mk hI
  · simp only [if_pos h3, Option.bind_some, if_true]
    by_cases h1 : d.toInt < 0
    · rw [if_pos h1]; exact Sim.mk hI
    rw [if_neg h1]
    by_cases h2 : d.toInt ≤ 9
    · rw [if_pos h2]; exact Sim.mk hI
    · rw [if_neg h2]; exact Sim.mk hI
theorem o_set4 {TX : TXt} {g : Sg} {S : SM} (h : Inv TX g S) (N : Nat) (a d : Int32) : Sim TX (x_X7_set N 4 a d g) (x_X8_set N 4 a d S) := by
  have hI := h
  obtain ⟨hS, hT, hM, hK, hB, hP, hH, hX⟩ := h
  obtain ⟨k1, k2, k3⟩ := hS.2.2.2.2
  have k9 : 0 ≤ (S.1 0 15).toInt := by rw [← k1]; exact k2
  rw [c_set4, m_set4, c_told4]
  simp only [m_told4, m_in, c_hasMake, m_isMake N a S k9, Option.bind_some, i_l64, b2_0, i_lt, i_le, Int32.reduceToInt, Int64.reduceToInt]
  rw [← k1]
  by_cases h3 : 0 ≤ a.toInt ∧ a.toInt < (g 1 4).toInt
  · have n3 : ¬ ¬ (0 ≤ a.toInt ∧ a.toInt < (g 1 4).toInt) := fun z => z h3
    have b5 : inb a 5 = true := i_inb.mpr ⟨h3.1, by omega⟩
    have hq := (hM a.toNatClampNeg (by rw [i_nat]; omega)).1
    have n1 : ¬ g 13 a.toNatClampNeg = -100 := by rw [i_eq]; simp only [Int32.reduceToInt]; omega
    simp only [if_neg n3, if_pos b5, Option.bind_some]
    by_cases h1 : d.toInt < 0
    · rw [if_pos h1, if_pos (by omega)]; exact Sim.mk hI
    rw [if_neg h1]
    by_cases h2 : d.toInt ≤ 9
    · have n9 : ¬ ¬ (0 ≤ d.toInt ∧ d.toInt ≤ 9) := fun z => z (by omega)
      rw [if_pos h2, if_neg n1, if_neg n9, ← hq.1]
      refine Sim.mk ⟨hS, hT, ?_, hK, hB, hP, IvH_c hH rfl rfl (fun k hk => up_n _ _ (by omega)) rfl rfl rfl rfl, hX⟩
      intro i hm
      show ((upd (g 13) a.toNatClampNeg d i) = (upd (S.1 6) a.toNatClampNeg d i) ∧ 0 ≤ (upd (g 13) a.toNatClampNeg d i).toInt ∧ (upd (g 13) a.toNatClampNeg d i).toInt ≤ 9) ∧ ((g 14 i) = (S.1 7 i) ∧ -9 ≤ (g 14 i).toInt ∧ (g 14 i).toInt ≤ 9) ∧ ((g 15 i) = (S.1 8 i) ∧ 0 ≤ (g 15 i).toInt ∧ (g 15 i).toInt ≤ 1048575)
      by_cases hj : i = a.toNatClampNeg
      · subst hj
        rw [upd_s, upd_s]
        exact ⟨⟨rfl, by omega, by omega⟩, (hM _ hm).2⟩
      · rw [upd_n _ _ hj, upd_n _ _ hj]
        exact hM i hm
    · rw [if_neg h2, if_pos (by omega)]; exact Sim.mk hI
  · simp only [if_pos h3, Option.bind_some, if_true]
    by_cases h1 : d.toInt < 0
    · rw [if_pos h1]; exact Sim.mk hI
    rw [if_neg h1]
    by_cases h2 : d.toInt ≤ 9
    · rw [if_pos h2]; exact Sim.mk hI
    · rw [if_neg h2]; exact Sim.mk hI
theorem o_set5 {TX : TXt} {g : Sg} {S : SM} (h : Inv TX g S) (N : Nat) (a d : Int32) : Sim TX (x_X7_set N 5 a d g) (x_X8_set N 5 a d S) := by
  have hI := h
  obtain ⟨hS, hT, hM, hK, hB, hP, hH, hX⟩ := h
  obtain ⟨k1, k2, k3⟩ := hS.2.2.2.2
  have k9 : 0 ≤ (S.1 0 15).toInt := by rw [← k1]; exact k2
  rw [c_set5, m_set5, c_told5]
  simp only [m_told5, m_in, c_hasMake, m_isMake N a S k9, Option.bind_some, i_l64, b2_0, i_lt, i_le, Int32.reduceToInt, Int64.reduceToInt]
  rw [← k1]
  by_cases h3 : 0 ≤ a.toInt ∧ a.toInt < (g 1 4).toInt
  · have n3 : ¬ ¬ (0 ≤ a.toInt ∧ a.toInt < (g 1 4).toInt) := fun z => z h3
    have b5 : inb a 5 = true := i_inb.mpr ⟨h3.1, by omega⟩
    have hq := (hM a.toNatClampNeg (by rw [i_nat]; omega)).2.1
    have n1 : ¬ g 14 a.toNatClampNeg = -100 := by rw [i_eq]; simp only [Int32.reduceToInt]; omega
    simp only [if_neg n3, if_pos b5, Option.bind_some]
    by_cases h1 : d.toInt < -9
    · rw [if_pos h1, if_pos (by omega)]; exact Sim.mk hI
    rw [if_neg h1]
    by_cases h2 : d.toInt ≤ 9
    · have n9 : ¬ ¬ (-9 ≤ d.toInt ∧ d.toInt ≤ 9) := fun z => z (by omega)
      rw [if_pos h2, if_neg n1, if_neg n9, ← hq.1]
      refine Sim.mk ⟨hS, hT, ?_, hK, hB, hP, IvH_c hH rfl rfl (fun k hk => up_n _ _ (by omega)) rfl rfl rfl rfl, hX⟩
      intro i hm
      show ((g 13 i) = (S.1 6 i) ∧ 0 ≤ (g 13 i).toInt ∧ (g 13 i).toInt ≤ 9) ∧ ((upd (g 14) a.toNatClampNeg d i) = (upd (S.1 7) a.toNatClampNeg d i) ∧ -9 ≤ (upd (g 14) a.toNatClampNeg d i).toInt ∧ (upd (g 14) a.toNatClampNeg d i).toInt ≤ 9) ∧ ((g 15 i) = (S.1 8 i) ∧ 0 ≤ (g 15 i).toInt ∧ (g 15 i).toInt ≤ 1048575)
      by_cases hj : i = a.toNatClampNeg
      · subst hj
        rw [upd_s, upd_s]
        exact ⟨(hM _ hm).1, ⟨rfl, by omega, by omega⟩, (hM _ hm).2.2⟩
      · rw [upd_n _ _ hj, upd_n _ _ hj]
        exact hM i hm
    · rw [if_neg h2, if_pos (by omega)]; exact Sim.mk hI
  · simp only [if_pos h3, Option.bind_some, if_true]
    by_cases h1 : d.toInt < -9
    · rw [if_pos h1]; exact Sim.mk hI
    rw [if_neg h1]
    by_cases h2 : d.toInt ≤ 9
    · rw [if_pos h2]; exact Sim.mk hI
    · rw [if_neg h2]; exact Sim.mk hI
theorem o_set6 {TX : TXt} {g : Sg} {S : SM} (h : Inv TX g S) (N : Nat) (a d : Int32) : Sim TX (x_X7_set N 6 a d g) (x_X8_set N 6 a d S) := by
  have hI := h
  obtain ⟨hS, hT, hM, hK, hB, hP, hH, hX⟩ := h
  obtain ⟨k1, k2, k3⟩ := hS.2.2.2.2
  have k9 : 0 ≤ (S.1 0 15).toInt := by rw [← k1]; exact k2
  rw [c_set6, m_set6, c_told6]
  simp only [m_told6, m_in, c_hasMake, m_isMake N a S k9, Option.bind_some, i_l64, b2_0, i_lt, i_le, Int32.reduceToInt, Int64.reduceToInt]
  rw [← k1]
  by_cases h3 : 0 ≤ a.toInt ∧ a.toInt < (g 1 4).toInt
  · have n3 : ¬ ¬ (0 ≤ a.toInt ∧ a.toInt < (g 1 4).toInt) := fun z => z h3
    have b5 : inb a 5 = true := i_inb.mpr ⟨h3.1, by omega⟩
    have hq := (hM a.toNatClampNeg (by rw [i_nat]; omega)).2.2
    have n1 : ¬ g 15 a.toNatClampNeg = -100 := by rw [i_eq]; simp only [Int32.reduceToInt]; omega
    simp only [if_neg n3, if_pos b5, Option.bind_some]
    by_cases h1 : d.toInt < 0
    · rw [if_pos h1, if_pos (by omega)]; exact Sim.mk hI
    rw [if_neg h1]
    by_cases h2 : d.toInt ≤ 1048575
    · have n9 : ¬ ¬ (0 ≤ d.toInt ∧ d.toInt ≤ 1048575) := fun z => z (by omega)
      rw [if_pos h2, if_neg n1, if_neg n9, ← hq.1]
      refine Sim.mk ⟨hS, hT, ?_, hK, hB, hP, IvH_c hH rfl rfl (fun k hk => up_n _ _ (by omega)) rfl rfl rfl rfl, hX⟩
      intro i hm
      show ((g 13 i) = (S.1 6 i) ∧ 0 ≤ (g 13 i).toInt ∧ (g 13 i).toInt ≤ 9) ∧ ((g 14 i) = (S.1 7 i) ∧ -9 ≤ (g 14 i).toInt ∧ (g 14 i).toInt ≤ 9) ∧ ((upd (g 15) a.toNatClampNeg d i) = (upd (S.1 8) a.toNatClampNeg d i) ∧ 0 ≤ (upd (g 15) a.toNatClampNeg d i).toInt ∧ (upd (g 15) a.toNatClampNeg d i).toInt ≤ 1048575)
      by_cases hj : i = a.toNatClampNeg
      · subst hj
        rw [upd_s, upd_s]
        exact ⟨(hM _ hm).1, (hM _ hm).2.1, ⟨rfl, by omega, by omega⟩⟩
      · rw [upd_n _ _ hj, upd_n _ _ hj]
        exact hM i hm
    · rw [if_neg h2, if_pos (by omega)]; exact Sim.mk hI
  · simp only [if_pos h3, Option.bind_some, if_true]
    by_cases h1 : d.toInt < 0
    · rw [if_pos h1]; exact Sim.mk hI
    rw [if_neg h1]
    by_cases h2 : d.toInt ≤ 1048575
    · rw [if_pos h2]; exact Sim.mk hI
    · rw [if_neg h2]; exact Sim.mk hI
theorem o_set {TX : TXt} {g : Sg} {S : SM} (h : Inv TX g S) (N : Nat) (w a d : Int32) : Sim TX (x_X7_set N w a d g) (x_X8_set N w a d S) := by
  by_cases hb : 0 ≤ w.toInt ∧ w.toInt ≤ 6
  · rcases ten hb.1 (by omega) with e | e | e | e | e | e | e | e | e | e <;> subst e
    · exact o_set0 h N a d
    · exact o_set1 h N a d
    · exact o_set2 h N a d
    · exact o_set3 h N a d
    · exact o_set4 h N a d
    · exact o_set5 h N a d
    · exact o_set6 h N a d
    · exact absurd hb.2 (by decide)
    · exact absurd hb.2 (by decide)
    · exact absurd hb.2 (by decide)
  · unfold x_X7_set x_X8_set
    rw [m_in]
    simp only [Option.bind_some, b2_0, i_l64, i_lt, i_le, Int64.reduceToInt, Int32.reduceToInt]
    by_cases h1 : w.toInt < 0
    · rw [if_pos h1, if_pos hb]; exact Sim.mk h
    · rw [if_neg h1, if_pos (by omega), if_pos hb]; exact Sim.mk h
