/-! what a kept text is: on both sides one value of the names -/
def Vl : Type := Int32 → Int32 → Int32 → Int32 → Int32 → Int32 → Int32 → Int32
def FrT (S T : SM) : Prop := (∀ j : Nat, j ≠ 0 → T.1 j = S.1 j) ∧ ∀ k : Nat, ¬ (22 ≤ k ∧ k ≤ 30) → T.1 0 k = S.1 0 k
def TXc (N : Nat) (val : Vl) (st sa : Nat → Int32) : Prop := ∀ (g : Sg) (t w : Int32), (0 ≤ t.toInt ∧ t.toInt < 6) → (0 ≤ w.toInt ∧ w.toInt ≤ 2) → (∀ i : Nat, i < 160 → g 26 (160 * t.toInt.toNat + i) = st i) → (∀ q : Nat, q < 4 → g 27 (4 * t.toInt.toNat + q) = sa q) → ∃ G, x_X6_value N t w g = some (val w (g 28 0) (g 28 1) (g 28 2) (g 28 3) (g 28 4) (g 28 5), G) ∧ ∀ j, j ≠ 29 → G j = g j
def TXm (N : Nat) (val : Vl) (by' : Nat → Int32) (sz : Int32) : Prop := ∀ (S : SM) (t w : Int32), (0 ≤ t.toInt ∧ t.toInt < 6) → (0 ≤ w.toInt ∧ w.toInt ≤ 2) → (∀ i : Nat, i < 160 → S.1 1 (160 * t.toInt.toNat + i) = by' i) → S.1 2 t.toInt.toNat = sz → ∃ T, x_X8_read N t w S = some (val w (S.1 0 16) (S.1 0 17) (S.1 0 18) (S.1 0 19) (S.1 0 20) (S.1 0 21), T) ∧ FrT S T
def TXs (N : Nat) : TXt := fun st sa by' sz => ∃ val, TXc N val st sa ∧ TXm N val by' sz
/-- the rule's text in two states -/
def Rl (N : Nat) (val : Vl) (g : Sg) (S : SM) : Prop := (∀ (g' : Sg) (w : Int32), g' 26 = g 26 → g' 27 = g 27 → (0 ≤ w.toInt ∧ w.toInt ≤ 2) → ∃ G, x_X6_value N (g 1 3) w g' = some (val w (g' 28 0) (g' 28 1) (g' 28 2) (g' 28 3) (g' 28 4) (g' 28 5), G) ∧ ∀ j, j ≠ 29 → G j = g' j) ∧ ∀ (S' : SM) (w : Int32), S'.1 1 = S.1 1 → S'.1 2 = S.1 2 → (0 ≤ w.toInt ∧ w.toInt ≤ 2) → ∃ T, x_X8_read N (g 1 3) w S' = some (val w (S'.1 0 16) (S'.1 0 17) (S'.1 0 18) (S'.1 0 19) (S'.1 0 20) (S'.1 0 21), T) ∧ FrT S' T
theorem rule_val {N : Nat} {g : Sg} {S : SM} (h : Inv (TXs N) g S) : ∃ val, Rl N val g S := by
  obtain ⟨hS, hT, hM, hK, hB, hP, hH, hX⟩ := h
  obtain ⟨u1, u2, u3⟩ := hS.2.2.2.1
  obtain ⟨x1, x2, x3, x4⟩ := hX
  obtain ⟨val, v1, v2⟩ := x4 (g 1 3).toInt.toNat (by omega)
  refine ⟨val, fun g' w e26 e27 hw => ?_, fun S' w e1 e2 hw => ?_⟩
  · exact v1 g' (g 1 3) w (by omega) hw (fun i _ => by rw [e26]) (fun q _ => by rw [e27])
  · exact v2 S' (g 1 3) w (by omega) hw (fun i _ => by rw [e1]) (by rw [e2])
def wi (m v : Int32) : Int32 := mxI 0 (mnI m v)
theorem c_within (N : Nat) (v m : Int32) (g : Sg) : x_X7_within N v m g = some (wi m v, g) := rfl
theorem m_within (N : Nat) (v m : Int32) (S : SM) (hm : 0 ≤ m.toInt) : x_X8_within N v 0 m S = some (wi m v, S) := by
  have e : (wi m v).toInt = max 0 (min m.toInt v.toInt) := by
    unfold wi
    rw [max_i, min_i]; rfl
  have z0 : (0 : Int32).toInt = 0 := by decide
  unfold x_X8_within
  simp only [i_le]
  rw [z0]
  by_cases h1 : 0 ≤ v.toInt
  · rw [if_pos h1]
    by_cases h2 : v.toInt ≤ m.toInt
    · rw [if_pos h2]
      exact congrArg (fun q => some (q, S)) (i_eq.mpr (by omega))
    · rw [if_neg h2]
      exact congrArg (fun q => some (q, S)) (i_eq.mpr (by omega))
  · rw [if_neg h1]
    exact congrArg (fun q => some (q, S)) (i_eq.mpr (by rw [e, z0]; omega))
/-- names told, class -/
theorem c_name (N : Nat) (a b c d e f : Int32) (g : Sg) : ∃ G, x_X6_name N a b c d e f g = some G ∧ (∀ j, j ≠ 28 → G j = g j) ∧ G 28 0 = a ∧ G 28 1 = b ∧ G 28 2 = c ∧ G 28 3 = d ∧ G 28 4 = e ∧ G 28 5 = f := by
  refine ⟨_, rfl, fun j hj => ?_, rfl, rfl, rfl, rfl, rfl, rfl⟩
  rw [up_n _ _ hj, up_n _ _ hj, up_n _ _ hj, up_n _ _ hj, up_n _ _ hj, up_n _ _ hj]
def FNv (val : Vl) (g : Sg) (a : Int32) : Int32 := mnI 99 ((if a = 0 then g 1 0 else g 1 1) + wi 20 (val 0 0 0 0 0 a (g 1 2)))
theorem c_foot {N : Nat} {val : Vl} {g : Sg} {S : SM} (hr : Rl N val g S) (g' : Sg) (a : Int32) (e1 : g' 1 = g 1) (e26 : g' 26 = g 26) (e27 : g' 27 = g 27) : ∃ G, x_X7_footNow N a g' = some (FNv val g a, G) ∧ ∀ j, j ≠ 28 → j ≠ 29 → G j = g' j := by
  obtain ⟨G1, n1, n2, n3, n4, n5, n6, n7, n8⟩ := c_name N 0 0 0 0 a (g' 1 2) g'
  unfold x_X7_footNow
  rw [n1]
  simp only [Option.bind_some]
  have q1 : G1 1 = g 1 := (n2 1 (by omega)).trans e1
  obtain ⟨G2, v1, v2⟩ := hr.1 G1 0 ((n2 26 (by omega)).trans e26) ((n2 27 (by omega)).trans e27) (by decide)
  rw [q1, v1, n3, n4, n5, n6, n7, n8, e1]
  simp only [Option.bind_some, c_within]
  have w1 : G2 1 = g 1 := (v2 1 (by omega)).trans q1
  rw [w1]
  unfold x_X7_footNow_b63 FNv
  simp only [lt]
  have fr : ∀ j, j ≠ 28 → j ≠ 29 → G2 j = g' j := fun j h1 h2 => (v2 j h2).trans (n2 j h1)
  by_cases c : a = 0
  · rw [if_pos c, if_pos c]; exact ⟨G2, rfl, fr⟩
  · rw [if_neg c, if_neg c]; exact ⟨G2, rfl, fr⟩
def FrN (S T : SM) : Prop := (∀ j : Nat, j ≠ 0 → T.1 j = S.1 j) ∧ ∀ k : Nat, ¬ (16 ≤ k ∧ k ≤ 30) → T.1 0 k = S.1 0 k
theorem min99 (v : Int32) (S : SM) : (if v ≤ (99 : Int32) then some (v, S) else some ((99 : Int32), S)) = some (mnI 99 v, S) := by
  unfold mnI
  have h99 : (99 : Int32).toInt = 99 := by decide
  simp only [i_le, i_lt]
  by_cases c : v.toInt < (99 : Int32).toInt
  · rw [if_pos c, if_pos (by omega)]
  · rw [if_neg c]
    by_cases c2 : v.toInt ≤ (99 : Int32).toInt
    · rw [if_pos c2, show v = 99 from i_eq.mpr (by omega)]
    · rw [if_neg c2]
def st0 (S : SM) (k : Nat) (v : Int32) : SM := (up S.1 0 (upd (S.1 0) k v), S.2)
theorem st0_j (S : SM) (k : Nat) (v : Int32) {j : Nat} (h : j ≠ 0) : (st0 S k v).1 j = S.1 j := up_n _ _ h
theorem st0_s (S : SM) (k : Nat) (v : Int32) : (st0 S k v).1 0 k = v := upd_s _ _ _
theorem st0_n (S : SM) (k : Nat) (v : Int32) {q : Nat} (h : q ≠ k) : (st0 S k v).1 0 q = S.1 0 q := upd_n _ _ h
/-- names told, reference -/
def nm6 (S : SM) (a b c d e : Int32) : SM := st0 (st0 (st0 (st0 (st0 (st0 S 16 a) 17 b) 18 c) 19 d) 20 e) 21 (S.1 0 9)
theorem nm6_j (S : SM) (a b c d e : Int32) {j : Nat} (h : j ≠ 0) : (nm6 S a b c d e).1 j = S.1 j := by
  unfold nm6
  rw [st0_j _ _ _ h, st0_j _ _ _ h, st0_j _ _ _ h, st0_j _ _ _ h, st0_j _ _ _ h, st0_j _ _ _ h]
theorem nm6_k (S : SM) (a b c d e : Int32) {k : Nat} (h : ¬ (16 ≤ k ∧ k ≤ 21)) : (nm6 S a b c d e).1 0 k = S.1 0 k := by
  unfold nm6
  rw [st0_n _ _ _ (by omega), st0_n _ _ _ (by omega), st0_n _ _ _ (by omega), st0_n _ _ _ (by omega), st0_n _ _ _ (by omega), st0_n _ _ _ (by omega)]
theorem nm6_v (S : SM) (a b c d e : Int32) : (nm6 S a b c d e).1 0 16 = a ∧ (nm6 S a b c d e).1 0 17 = b ∧ (nm6 S a b c d e).1 0 18 = c ∧ (nm6 S a b c d e).1 0 19 = d ∧ (nm6 S a b c d e).1 0 20 = e ∧ (nm6 S a b c d e).1 0 21 = S.1 0 9 := ⟨rfl, rfl, rfl, rfl, rfl, rfl⟩
theorem m_foot {N : Nat} {val : Vl} {g : Sg} {S : SM} (h : Inv (TXs N) g S) (hr : Rl N val g S) (S' : SM) (a : Int32) (e1 : S'.1 1 = S.1 1) (e2 : S'.1 2 = S.1 2) (e0 : ∀ k, (k = 4 ∨ (7 ≤ k ∧ k ≤ 9)) → S'.1 0 k = S.1 0 k) : ∃ T, x_X8_footNow N a S' = some (FNv val g a, T) ∧ FrN S' T := by
  obtain ⟨s1, s2, s3, s4, _⟩ := h.1
  have e : x_X8_footNow N a S' = (if a = 0 then x_X8_footNow_b48 N ((nm6 S' 0 0 0 0 a).1 0 7) (nm6 S' 0 0 0 0 a) else x_X8_footNow_b48 N ((nm6 S' 0 0 0 0 a).1 0 8) (nm6 S' 0 0 0 0 a)) := rfl
  rw [e]
  obtain ⟨n1, n2, n3, n4, n5, n6⟩ := nm6_v S' 0 0 0 0 a
  have nj : ∀ j, j ≠ 0 → (nm6 S' 0 0 0 0 a).1 j = S'.1 j := fun j hj => nm6_j _ _ _ _ _ _ hj
  have nk : ∀ k, ¬ (16 ≤ k ∧ k ≤ 21) → (nm6 S' 0 0 0 0 a).1 0 k = S'.1 0 k := fun k hk => nm6_k _ _ _ _ _ _ hk
  generalize nm6 S' 0 0 0 0 a = W at *
  have b48 : ∀ t0 : Int32, ∃ T, x_X8_footNow_b48 N t0 W = some (mnI 99 (t0 + wi 20 (val 0 0 0 0 0 a (g 1 2))), T) ∧ FrN S' T := by
    intro t0
    unfold x_X8_footNow_b48
    have k4 : W.1 0 4 = g 1 3 := by rw [nk 4 (by omega), e0 4 (by omega)]; exact s4.1.symm
    obtain ⟨T, t1, t2⟩ := hr.2 W 0 ((nj 1 (by omega)).trans e1) ((nj 2 (by omega)).trans e2) (by decide)
    rw [k4, t1, n1, n2, n3, n4, n5, n6, e0 9 (by omega), ← s3.1]
    simp only [Option.bind_some]
    rw [m_within N _ 20 T (by decide)]
    simp only [Option.bind_some, lt]
    rw [min99]
    exact ⟨T, rfl, fun j hj => (t2.1 j hj).trans (nj j hj), fun k hk => (t2.2 k (by omega)).trans (nk k (by omega))⟩
  unfold FNv
  by_cases c : a = 0
  · rw [if_pos c, if_pos c, nk 7 (by omega), e0 7 (by omega), ← s1.1]; exact b48 _
  · rw [if_neg c, if_neg c, nk 8 (by omega), e0 8 (by omega), ← s2.1]; exact b48 _
theorem foot_ok {N : Nat} : FootOK (TXs N) N := by
  intro g S h a _
  obtain ⟨val, hr⟩ := rule_val h
  obtain ⟨G, g1, g2⟩ := c_foot hr g a rfl rfl rfl
  obtain ⟨T, t1, t2⟩ := m_foot h hr S a rfl rfl (fun _ _ => rfl)
  rw [g1, t1]
  exact Sim.mk (inv_k h (fun i hi => g2 i (by omega) (by omega)) (by rw [g2 3 (by omega) (by omega)]) (fun i hi => t2.1 i (by omega)) (fun k hk => t2.2 k (by omega)))
