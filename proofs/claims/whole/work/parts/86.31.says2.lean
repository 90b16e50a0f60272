theorem m_len {N : Nat} {a : Int32} {S : SM} {mk : Int} (h : Rg (S.1 5) (S.1 6) (S.1 7) mk) (hm : mk ≤ 5) (ha : 0 ≤ a.toInt ∧ a.toInt < 20 * mk) : x_X8_longOf N a S = some (Int32.ofInt (Ln (S.1 5) (S.1 6) (S.1 7) a.toInt.toNat), S) := by
  have e := d20 ha.1
  have en := n20 ha.1
  have er := r20 ha.1
  obtain ⟨h1, h2, h3⟩ := h (a.toInt.toNat / 20) (by omega)
  obtain ⟨k, hk⟩ : ∃ k, k = S.1 5 (a.toInt.toNat / 20) := ⟨_, rfl⟩
  obtain ⟨n, hn⟩ : ∃ n, n = S.1 6 (a.toInt.toNat / 20) := ⟨_, rfl⟩
  obtain ⟨r, hr⟩ : ∃ r, r = S.1 7 (a.toInt.toNat / 20) := ⟨_, rfl⟩
  obtain ⟨z, hz⟩ : ∃ z, z = rmI a 20 := ⟨_, rfl⟩
  rw [← hz] at er
  unfold x_X8_longOf
  simp only [lt]
  simp only [if_pos (show inb (a / 20) 5 = true from i_inb.mpr ⟨by omega, by omega⟩), en]
  unfold Ln
  rw [show ((a.toInt.toNat % 20 : Nat) : Int) = z.toInt by omega, ← hk, ← hn, ← hr, ← hz]
  rw [← hk] at h1; rw [← hn] at h2; rw [← hr] at h3
  have e1 : (5 * z).toInt = 5 * z.toInt := mul_l (by decide) rfl (by omega)
  have e2 : (5 * z + r).toInt = 5 * z.toInt + r.toInt := by rw [i_add, e1] <;> omega
  have e3 : (5 * z + r - n).toInt = 5 * z.toInt + r.toInt - n.toInt := by rw [i_sub, e2] <;> omega
  have e4 : (5 * z + r - n - 3).toInt = 5 * z.toInt + r.toInt - n.toInt - 3 := sub_l e3 (by decide) (by omega)
  have e5 : (5 * z + r + 2).toInt = 5 * z.toInt + r.toInt + 2 := add_l e2 (by decide) (by omega)
  have e6 := d2 (x := z) (by omega)
  have e7 : (10 * (z / 2)).toInt = 10 * (z.toInt / 2) := mul_l (by decide) e6 (by omega)
  have e8 : (10 * (z / 2) + r).toInt = 10 * (z.toInt / 2) + r.toInt := by rw [i_add, e7] <;> omega
  clear hk hn hr hz
  rcases six_i h1 with rfl | rfl | rfl | rfl | rfl | rfl
  · exact congrArg (fun z => some (z, S)) (eq_of e2)
  · exact congrArg (fun z => some (z, S)) (eq_of e3)
  · exact congrArg (fun z => some (z, S)) (eq_of e2)
  · exact congrArg (fun z => some (z, S)) (eq_of e4)
  · exact congrArg (fun z => some (z, S)) (eq_of e5)
  · exact congrArg (fun z => some (z, S)) (eq_of e8)
theorem m_plainly (N : Nat) (o : Int32) (S : SM) : x_X8_plainly N o S = some (if o.toInt < -4 then -2 else if o.toInt < -1 then -1 else if o.toInt < 5 then 0 else if o.toInt < 9 then 1 else 2, S) := by
  unfold x_X8_plainly
  simp only [i_le, Int32.reduceToInt]
  by_cases h1 : o.toInt < -4
  · rw [if_neg (by omega), if_pos h1]
  rw [if_pos (by omega), if_neg h1]
  by_cases h2 : o.toInt < -1
  · rw [if_neg (by omega), if_pos h2]
  rw [if_pos (by omega), if_neg h2]
  by_cases h3 : o.toInt < 5
  · rw [if_neg (by omega), if_pos h3]
  rw [if_pos (by omega), if_neg h3]
  by_cases h4 : o.toInt < 9
  · rw [if_neg (by omega), if_pos h4]
  rw [if_pos (by omega), if_neg h4]
theorem m_b50 (N : Nat) (k o : Int32) (S : SM) {w : Int} (hk : 0 ≤ k.toInt ∧ k.toInt ≤ 5) (ho : o.toInt < 1000) : x_X8_saysOf_b50 N k o S = some (Int32.ofInt (if o.toInt < bd k.toInt (-1) then -2 else if o.toInt < bd k.toInt 0 then -1 else if o.toInt < bd k.toInt 1 then 0 else if o.toInt < bd k.toInt 2 then 1 else 2), S) := by
  unfold x_X8_saysOf_b50 x_X8_saysOf_b73
  rw [m_plainly]
  simp only [Option.bind_some]
  generalize o.toInt = v at *
  have sp : v < -4 ∨ (¬ v < -4 ∧ v < -1) ∨ (¬ v < -4 ∧ ¬ v < -1 ∧ v < 5) ∨ (¬ v < -4 ∧ ¬ v < -1 ∧ ¬ v < 5 ∧ v < 9) ∨ (¬ v < -4 ∧ ¬ v < -1 ∧ ¬ v < 5 ∧ ¬ v < 9) := by omega
  have v5 : v < -1 → v < 5 := by omega
  have v9 : v < 5 → v < 9 := by omega
  rcases sp with g1 | ⟨g1, g2⟩ | ⟨g1, g2, g3⟩ | ⟨g1, g2, g3, g4⟩ | ⟨g1, g2, g3, g4⟩
  · rcases six_i hk with rfl | rfl | rfl | rfl | rfl | rfl <;> simp only [bd, Int32.reduceToInt, Int.reduceNeg, Int.reduceEq, if_true, if_false, reduceIte, g1] <;> rfl
  · rcases six_i hk with rfl | rfl | rfl | rfl | rfl | rfl <;> simp only [bd, Int32.reduceToInt, Int.reduceNeg, Int.reduceEq, if_true, if_false, reduceIte, g1, g2, v5 g2] <;> rfl
  · rcases six_i hk with rfl | rfl | rfl | rfl | rfl | rfl <;> simp only [bd, Int32.reduceToInt, Int.reduceNeg, Int.reduceEq, if_true, if_false, reduceIte, g1, g2, g3, v9 g3] <;> rfl
  · rcases six_i hk with rfl | rfl | rfl | rfl | rfl | rfl <;> simp only [bd, Int32.reduceToInt, Int.reduceNeg, Int.reduceEq, if_true, if_false, reduceIte, g1, g2, g3, g4] <;> rfl
  · rcases six_i hk with rfl | rfl | rfl | rfl | rfl | rfl <;> simp only [bd, Int32.reduceToInt, Int.reduceNeg, Int.reduceEq, if_true, if_false, reduceIte, g1, g2, g3, g4, ho] <;> rfl
theorem m_saysOf {N : Nat} {a f : Int32} {S : SM} {mk : Int} (h : Rg (S.1 5) (S.1 6) (S.1 7) mk) (hm : mk ≤ 5) (ha : 0 ≤ a.toInt ∧ a.toInt < 20 * mk) (hf : 0 ≤ f.toInt ∧ f.toInt ≤ 99) : x_X8_saysOf N a f S = some (Int32.ofInt (Sy (S.1 5) (S.1 6) (S.1 7) a.toInt.toNat f.toInt), S) := by
  have e := d20 ha.1
  have en := n20 ha.1
  obtain ⟨h1, h2, h3⟩ := h (a.toInt.toNat / 20) (by omega)
  have lb := Ln_b h (x := a.toInt.toNat) (by omega)
  have el := of_i (z := Ln (S.1 5) (S.1 6) (S.1 7) a.toInt.toNat) (by omega) (by omega)
  unfold x_X8_saysOf x_X8_saysOf_b34
  simp only [lt]
  simp only [if_pos (show inb (a / 20) 5 = true from i_inb.mpr ⟨by omega, by omega⟩), en, m_len h hm ha, Option.bind_some]
  have eo : (Int32.ofInt (Ln (S.1 5) (S.1 6) (S.1 7) a.toInt.toNat) - f).toInt = Ln (S.1 5) (S.1 6) (S.1 7) a.toInt.toNat - f.toInt := by rw [i_sub, el] <;> omega
  unfold Sy sy
  rw [← eo]
  generalize Int32.ofInt (Ln (S.1 5) (S.1 6) (S.1 7) a.toInt.toNat) - f = o at *
  have e3 := d3 h2.1
  have eg : (o + S.1 6 (a.toInt.toNat / 20) / 3).toInt = o.toInt + (S.1 6 (a.toInt.toNat / 20)).toInt / 3 := by rw [i_add, e3] <;> omega
  by_cases k2 : S.1 5 (a.toInt.toNat / 20) = 2
  · rw [if_pos k2, m_b50 (w := 0) N _ _ S h1 (by omega), eg, show gv (S.1 5 (a.toInt.toNat / 20)).toInt (S.1 6 (a.toInt.toNat / 20)).toInt = (S.1 6 (a.toInt.toNat / 20)).toInt / 3 by rw [k2]; rfl]
  rw [if_neg k2]
  by_cases k4 : S.1 5 (a.toInt.toNat / 20) = 4
  · rw [if_pos k4, m_b50 (w := 0) N _ _ S h1 (by omega), eg, show gv (S.1 5 (a.toInt.toNat / 20)).toInt (S.1 6 (a.toInt.toNat / 20)).toInt = (S.1 6 (a.toInt.toNat / 20)).toInt / 3 by rw [k4]; rfl]
  rw [if_neg k4, m_b50 (w := 0) N _ _ S h1 (by omega)]
  have g0 : gv (S.1 5 (a.toInt.toNat / 20)).toInt (S.1 6 (a.toInt.toNat / 20)).toInt = 0 := by
    unfold gv
    rw [if_neg (show ¬ (S.1 5 (a.toInt.toNat / 20)).toInt = 2 from fun z => k2 (i_eq.mpr z)), if_neg (show ¬ (S.1 5 (a.toInt.toNat / 20)).toInt = 4 from fun z => k4 (i_eq.mpr z))]
  rw [g0, Int.add_zero]
/-! how far a shoe reaches -/
def rc (kd nb rn : Nat → Int32) (x : Nat) (a : Int) : Int := if a ≤ -2 then 99 else if 2 < a then -1 else max (-1) (min 99 (Ln kd nb rn x + gv (kd (x / 20)).toInt (nb (x / 20)).toInt - bd (kd (x / 20)).toInt a))
theorem rc_b {kd nb rn : Nat → Int32} {x : Nat} {a : Int} : -1 ≤ rc kd nb rn x a ∧ rc kd nb rn x a ≤ 99 := by
  unfold rc
  split
  · omega
  split <;> omega
theorem bd_up {k : Int} (h : 0 ≤ k ∧ k ≤ 5) : bd k (-1) ≤ bd k 0 ∧ bd k 0 ≤ bd k 1 ∧ bd k 1 ≤ bd k 2 := by
  have : k = 0 ∨ k = 1 ∨ k = 2 ∨ k = 3 ∨ k = 4 ∨ k = 5 := by omega
  rcases this with rfl | rfl | rfl | rfl | rfl | rfl <;> decide
theorem sy_ge {k n o : Int} (hk : 0 ≤ k ∧ k ≤ 5) : (-1 ≤ sy k n o ↔ bd k (-1) ≤ o + gv k n) ∧ (0 ≤ sy k n o ↔ bd k 0 ≤ o + gv k n) ∧ (1 ≤ sy k n o ↔ bd k 1 ≤ o + gv k n) ∧ (2 ≤ sy k n o ↔ bd k 2 ≤ o + gv k n) := by
  have b := bd_up hk
  unfold sy
  split
  · omega
  split
  · omega
  split
  · omega
  split <;> omega
theorem rc_ge {kd nb rn : Nat → Int32} {x : Nat} {a f : Int} (hk : 0 ≤ (kd (x / 20)).toInt ∧ (kd (x / 20)).toInt ≤ 5) (hf : 0 ≤ f ∧ f ≤ 99) : f ≤ rc kd nb rn x a ↔ a ≤ Sy kd nb rn x f := by
  obtain ⟨s1, s2, s3, s4⟩ := sy_ge (n := (nb (x / 20)).toInt) (o := Ln kd nb rn x - f) hk
  have sb := sy_b (kd (x / 20)).toInt (nb (x / 20)).toInt (Ln kd nb rn x - f)
  unfold rc Sy
  by_cases h1 : a ≤ -2
  · rw [if_pos h1]; omega
  rw [if_neg h1]
  by_cases h2 : 2 < a
  · rw [if_pos h2]; omega
  rw [if_neg h2]
  have : a = -1 ∨ a = 0 ∨ a = 1 ∨ a = 2 := by omega
  rcases this with rfl | rfl | rfl | rfl
  · rw [s1]; omega
  · rw [s2]; omega
  · rw [s3]; omega
  · rw [s4]; omega
theorem min_i (x y : Int32) : (mnI x y).toInt = min x.toInt y.toInt := by
  unfold mnI
  simp only [i_lt]
  by_cases h : y.toInt < x.toInt
  · rw [if_pos h]; omega
  · rw [if_neg h]; omega
theorem max_i (x y : Int32) : (mxI x y).toInt = max x.toInt y.toInt := by
  unfold mxI
  simp only [i_lt]
  by_cases h : x.toInt < y.toInt
  · rw [if_pos h]; omega
  · rw [if_neg h]; omega
theorem c_reach0 {N : Nat} {k s a : Int32} {g : Sg} (hk : 0 ≤ k.toInt ∧ k.toInt ≤ 5) (hs : -500 ≤ s.toInt ∧ s.toInt ≤ 500) (ha : -2 ≤ a.toInt ∧ a.toInt ≤ 3) : x_X0_reach N k s a g = some (Int32.ofInt (if a.toInt ≤ -2 then 99 else if 2 < a.toInt then -1 else max (-1) (min 99 (s.toInt - bd k.toInt a.toInt))), g) := by
  unfold x_X0_reach
  simp only [i_lt, i_le, Int32.reduceToInt]
  by_cases h1 : a.toInt ≤ -2
  · rw [if_neg (show ¬ (-2 : Int) < a.toInt by omega), if_pos h1]; rfl
  rw [if_pos (show (-2 : Int) < a.toInt by omega), if_neg h1]
  by_cases h2 : 2 < a.toInt
  · rw [if_neg (show ¬ a.toInt ≤ 2 by omega), if_pos h2]; rfl
  rw [if_pos (show a.toInt ≤ 2 by omega), if_neg h2]
  have ha4 : a = -1 ∨ a = 0 ∨ a = 1 ∨ a = 2 := by simp only [i_eq (x := a), Int32.reduceToInt]; omega
  obtain ⟨w, e3, e4⟩ := c_bound N k a g hk ha4
  have hb : -4 ≤ bd k.toInt a.toInt ∧ bd k.toInt a.toInt ≤ 1000 := by
    rcases six_i hk with rfl | rfl | rfl | rfl | rfl | rfl <;> rcases ha4 with rfl | rfl | rfl | rfl <;> decide
  simp only [e3, Option.bind_some, lt]
  refine congrArg (fun z => some (z, g)) (eq_of ?_)
  have es : (s - w).toInt = s.toInt - bd k.toInt a.toInt := by rw [i_sub, e4] <;> omega
  rw [max_i, min_i, es]
  rfl
theorem c_seeming {N : Nat} {a : Int32} {g : Sg} {mk : Int} (h : Rg (g 12) (g 13) (g 14) mk) (hm : mk ≤ 5) (ha : 0 ≤ a.toInt ∧ a.toInt < 20 * mk) : ∃ v, x_X5_seeming N a g = some (v, g) ∧ v.toInt = Ln (g 12) (g 13) (g 14) a.toInt.toNat + gv (g 12 (a.toInt.toNat / 20)).toInt (g 13 (a.toInt.toNat / 20)).toInt := by
  have e := d20 ha.1
  have en := n20 ha.1
  obtain ⟨h1, h2, h3⟩ := h (a.toInt.toNat / 20) (by omega)
  have lb := Ln_b h (x := a.toInt.toNat) (by omega)
  have el := of_i (z := Ln (g 12) (g 13) (g 14) a.toInt.toNat) (by omega) (by omega)
  obtain ⟨v, e1, e2⟩ := c_giving N (g 12 (a.toInt.toNat / 20)) (g 13 (a.toInt.toNat / 20)) g h1 h2
  have hb := gv_b (k := (g 12 (a.toInt.toNat / 20)).toInt) h2
  unfold x_X5_seeming
  simp only [lt, c_len h hm ha, Option.bind_some, if_pos (show inb (a / 20) 5 = true from i_inb.mpr ⟨by omega, by omega⟩), en, e1]
  refine ⟨_, rfl, ?_⟩
  rw [i_add, el, e2] <;> omega
theorem c_reach {N : Nat} {a w : Int32} {g : Sg} {mk : Int} (h : Rg (g 12) (g 13) (g 14) mk) (hm : mk ≤ 5) (ha : 0 ≤ a.toInt ∧ a.toInt < 20 * mk) (hw : -2 ≤ w.toInt ∧ w.toInt ≤ 3) : x_X5_reach N a w g = some (Int32.ofInt (rc (g 12) (g 13) (g 14) a.toInt.toNat w.toInt), g) := by
  have e := d20 ha.1
  have en := n20 ha.1
  obtain ⟨h1, h2, h3⟩ := h (a.toInt.toNat / 20) (by omega)
  have lb := Ln_b h (x := a.toInt.toNat) (by omega)
  obtain ⟨v, e1, e2⟩ := c_seeming (N := N) h hm ha
  have hb := gv_b (k := (g 12 (a.toInt.toNat / 20)).toInt) h2
  unfold x_X5_reach
  rw [if_pos (show inb (a / 20) 5 = true from i_inb.mpr ⟨by omega, by omega⟩), e1, en]
  simp only [Option.bind_some]
  rw [c_reach0 h1 (by omega) hw, e2]
  rfl
theorem c_least {N : Nat} {a : Int32} {g : Sg} {mk : Int} (h : Rg (g 12) (g 13) (g 14) mk) (hm : mk ≤ 5) (ha : 0 ≤ a.toInt ∧ a.toInt < 20 * mk) : x_X5_leastFitted N a g = some (Int32.ofInt (rc (g 12) (g 13) (g 14) a.toInt.toNat 1 + 1), g) := by
  have b := rc_b (kd := g 12) (nb := g 13) (rn := g 14) (x := a.toInt.toNat) (a := 1)
  unfold x_X5_leastFitted
  rw [c_reach h hm ha (by decide)]
  simp only [Option.bind_some]
  exact congrArg (fun z => some (z, g)) (eq_of (add_l (of_i (by show _ ≤ rc _ _ _ _ 1; omega) (by show rc _ _ _ _ 1 ≤ _; omega)) (by decide) (by show _ ≤ rc _ _ _ _ 1 + 1 ∧ _; omega)))
theorem c_greatest {N : Nat} {a : Int32} {g : Sg} {mk : Int} (h : Rg (g 12) (g 13) (g 14) mk) (hm : mk ≤ 5) (ha : 0 ≤ a.toInt ∧ a.toInt < 20 * mk) : x_X5_greatestFitted N a g = some (Int32.ofInt (rc (g 12) (g 13) (g 14) a.toInt.toNat 0), g) := by
  unfold x_X5_greatestFitted
  rw [c_reach h hm ha (by decide)]
  rfl
