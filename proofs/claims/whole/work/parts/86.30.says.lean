/-! what shoes say -/
theorem of_i {z : Int} (h1 : -2147483648 ≤ z) (h2 : z ≤ 2147483647) : (Int32.ofInt z).toInt = z := Int32.toInt_ofInt_of_le h1 (by omega)
theorem eq_of {x : Int32} {z : Int} (h : x.toInt = z) : x = Int32.ofInt z := by rw [← h, Int32.ofInt_toInt]
/-- what a kind gives -/
def gv (k n : Int) : Int := if k = 2 then n / 3 else if k = 4 then n / 3 else 0
def bd (k a : Int) : Int := if a = -1 then -4 else if a = 0 then (if k = 3 then 5 else -1) else if a = 1 then (if k = 3 then 9 else if k = 5 then 9 else 5) else (if k = 3 then 1000 else 9)
def sy (k n o : Int) : Int := if o + gv k n < bd k (-1) then -2 else if o + gv k n < bd k 0 then -1 else if o + gv k n < bd k 1 then 0 else if o + gv k n < bd k 2 then 1 else 2
def ln (k n r z : Int) : Int := if k = 5 then 10 * (z / 2) + r else if k = 1 then 5 * z + r - n else if k = 3 then 5 * z + r - n - 3 else if k = 4 then 5 * z + r + 2 else 5 * z + r
theorem sy_b (k n o : Int) : -2 ≤ sy k n o ∧ sy k n o ≤ 2 := by
  unfold sy
  split
  · omega
  split
  · omega
  split
  · omega
  split <;> omega
theorem gv_b {k n : Int} (h : 0 ≤ n ∧ n ≤ 9) : 0 ≤ gv k n ∧ gv k n ≤ 3 := by
  unfold gv
  split
  · omega
  split <;> omega
theorem ln_b {k n r z : Int} (hn : 0 ≤ n ∧ n ≤ 9) (hr : -9 ≤ r ∧ r ≤ 9) (hz : 0 ≤ z ∧ z < 20) : -21 ≤ ln k n r z ∧ ln k n r z ≤ 106 := by
  unfold ln
  split
  · omega
  split
  · omega
  split
  · omega
  split <;> omega
theorem d3 {x : Int32} (h : 0 ≤ x.toInt) : (x / 3).toInt = x.toInt / 3 := by
  rw [i_div (by decide)]
  exact Int.tdiv_eq_ediv_of_nonneg h
theorem d2 {x : Int32} (h : 0 ≤ x.toInt) : (x / 2).toInt = x.toInt / 2 := by
  rw [i_div (by decide)]
  exact Int.tdiv_eq_ediv_of_nonneg h
theorem six_i {k : Int32} (h : 0 ≤ k.toInt ∧ k.toInt ≤ 5) : k = 0 ∨ k = 1 ∨ k = 2 ∨ k = 3 ∨ k = 4 ∨ k = 5 := by
  simp only [i_eq (x := k), Int32.reduceToInt]
  omega
theorem c_giving (N : Nat) (k n : Int32) (g : Sg) (hk : 0 ≤ k.toInt ∧ k.toInt ≤ 5) (hn : 0 ≤ n.toInt ∧ n.toInt ≤ 9) : ∃ v, x_X0_giving N k n g = some (v, g) ∧ v.toInt = gv k.toInt n.toInt := by
  have e := d3 hn.1
  unfold x_X0_giving x_X0_giving_b10 gv
  simp only [i_eq (x := k), Int32.reduceToInt]
  by_cases h1 : k.toInt = 2
  · rw [if_pos h1, if_pos h1]; exact ⟨_, rfl, e⟩
  rw [if_neg h1, if_neg h1]
  by_cases h2 : k.toInt = 4
  · rw [if_pos h2, if_pos h2]; exact ⟨_, rfl, e⟩
  rw [if_neg h2, if_neg h2]; exact ⟨_, rfl, rfl⟩
theorem c_bound (N : Nat) (k a : Int32) (g : Sg) (hk : 0 ≤ k.toInt ∧ k.toInt ≤ 5) (ha : a = -1 ∨ a = 0 ∨ a = 1 ∨ a = 2) : ∃ v, x_X0_bound N k a g = some (v, g) ∧ v.toInt = bd k.toInt a.toInt := by
  rcases ha with rfl | rfl | rfl | rfl <;> rcases six_i hk with rfl | rfl | rfl | rfl | rfl | rfl <;> exact ⟨_, rfl, by decide⟩
theorem c_says_st {N : Nat} {h : Int32 × Int32 × Int32 × Int32 × Int32 × Sg → Option (Int32 × Sg)} {k n o s a : Int32} {g : Sg} (hk : 0 ≤ k.toInt ∧ k.toInt ≤ 5) (hn : 0 ≤ n.toInt ∧ n.toInt ≤ 9) (ho : -1000 ≤ o.toInt ∧ o.toInt ≤ 1000) (ha : a = -1 ∨ a = 0 ∨ a = 1 ∨ a = 2) : x_X0_says_B6 N h (k, n, o, s, a, g) = h (k, n, o, if o.toInt + gv k.toInt n.toInt < bd k.toInt a.toInt then s else a, a + 1, g) := by
  obtain ⟨v, e1, e2⟩ := c_giving N k n g hk hn
  obtain ⟨w, e3, e4⟩ := c_bound N k a g hk ha
  have hb := gv_b (k := k.toInt) hn
  unfold x_X0_says_B6
  simp only [e1, e3, Option.bind_some]
  have na : ¬ (2 : Int32) < a := by rcases ha with rfl | rfl | rfl | rfl <;> decide
  rw [if_neg na]
  have es : (o + v).toInt = o.toInt + gv k.toInt n.toInt := by rw [i_add, e2] <;> omega
  unfold x_X0_says_b31
  simp only [i_lt, es, e4, lt]
  by_cases h1 : o.toInt + gv k.toInt n.toInt < bd k.toInt a.toInt
  · rw [if_pos h1, if_pos h1]
  · rw [if_neg h1, if_neg h1]
theorem c_says {N : Nat} (hN : 5 ≤ N) (k n o : Int32) (g : Sg) (hk : 0 ≤ k.toInt ∧ k.toInt ≤ 5) (hn : 0 ≤ n.toInt ∧ n.toInt ≤ 9) (ho : -500 ≤ o.toInt ∧ o.toInt ≤ 500) : x_X0_says N k n o g = some (Int32.ofInt (sy k.toInt n.toInt o.toInt), g) := by
  obtain ⟨M, rfl⟩ : ∃ M, N = M + 5 := ⟨N - 5, by omega⟩
  unfold x_X0_says
  have s1 : ∀ (s a : Int32), lp (x_X0_says_B6 (M + 5)) (M + 5) (k, n, o, s, -1, g) = lp (x_X0_says_B6 (M + 5)) (M + 4) (k, n, o, if o.toInt + gv k.toInt n.toInt < bd k.toInt (-1) then s else -1, 0, g) := fun s a => c_says_st (a := -1) hk hn (by omega) (by simp)
  have s2 : ∀ (s a : Int32), lp (x_X0_says_B6 (M + 5)) (M + 4) (k, n, o, s, 0, g) = lp (x_X0_says_B6 (M + 5)) (M + 3) (k, n, o, if o.toInt + gv k.toInt n.toInt < bd k.toInt 0 then s else 0, 1, g) := fun s a => c_says_st (a := 0) hk hn (by omega) (by simp)
  have s3 : ∀ (s a : Int32), lp (x_X0_says_B6 (M + 5)) (M + 3) (k, n, o, s, 1, g) = lp (x_X0_says_B6 (M + 5)) (M + 2) (k, n, o, if o.toInt + gv k.toInt n.toInt < bd k.toInt 1 then s else 1, 2, g) := fun s a => c_says_st (a := 1) hk hn (by omega) (by simp)
  have s4 : ∀ (s a : Int32), lp (x_X0_says_B6 (M + 5)) (M + 2) (k, n, o, s, 2, g) = lp (x_X0_says_B6 (M + 5)) (M + 1) (k, n, o, if o.toInt + gv k.toInt n.toInt < bd k.toInt 2 then s else 2, 3, g) := fun s a => c_says_st (a := 2) hk hn (by omega) (by simp)
  have s5 : ∀ (s a : Int32), lp (x_X0_says_B6 (M + 5)) (M + 1) (k, n, o, s, 3, g) = some (s, g) := fun s a => rfl
  rw [s1 _ 0, s2 _ 0, s3 _ 0, s4 _ 0, s5 _ 0]
  refine congrArg (fun z => some (z, g)) ?_
  have hb := gv_b (k := k.toInt) hn
  unfold sy
  generalize o.toInt + gv k.toInt n.toInt = v at *
  have b1 : bd k.toInt (-1) ≤ bd k.toInt 0 ∧ bd k.toInt 0 ≤ bd k.toInt 1 ∧ bd k.toInt 1 ≤ bd k.toInt 2 := by rcases six_i hk with rfl | rfl | rfl | rfl | rfl | rfl <;> decide
  by_cases h1 : v < bd k.toInt (-1)
  · rw [if_pos h1, if_pos h1, if_pos (show v < bd k.toInt 0 by omega), if_pos (show v < bd k.toInt 1 by omega), if_pos (show v < bd k.toInt 2 by omega)]; rfl
  rw [if_neg h1, if_neg h1]
  by_cases h2 : v < bd k.toInt 0
  · rw [if_pos h2, if_pos h2, if_pos (show v < bd k.toInt 1 by omega), if_pos (show v < bd k.toInt 2 by omega)]; rfl
  rw [if_neg h2, if_neg h2]
  by_cases h3 : v < bd k.toInt 1
  · rw [if_pos h3, if_pos h3, if_pos (show v < bd k.toInt 2 by omega)]; rfl
  rw [if_neg h3, if_neg h3]
  by_cases h4 : v < bd k.toInt 2
  · rw [if_pos h4, if_pos h4]; rfl
  · rw [if_neg h4, if_neg h4]; rfl
theorem c_len0 (N : Nat) (k n r z : Int32) (g : Sg) (hk : 0 ≤ k.toInt ∧ k.toInt ≤ 5) (hn : 0 ≤ n.toInt ∧ n.toInt ≤ 9) (hr : -9 ≤ r.toInt ∧ r.toInt ≤ 9) (hz : 0 ≤ z.toInt ∧ z.toInt < 20) : ∃ v, x_X0_lengthOf N k n r z g = some (v, g) ∧ v.toInt = ln k.toInt n.toInt r.toInt z.toInt := by
  have e1 : (5 * z).toInt = 5 * z.toInt := mul_l (by decide) rfl (by omega)
  have e2 : (5 * z + r).toInt = 5 * z.toInt + r.toInt := by rw [i_add, e1] <;> omega
  have e3 : (5 * z + r - n).toInt = 5 * z.toInt + r.toInt - n.toInt := by rw [i_sub, e2] <;> omega
  have e4 : (5 * z + r - n - 3).toInt = 5 * z.toInt + r.toInt - n.toInt - 3 := sub_l e3 (by decide) (by omega)
  have e5 : (5 * z + r + 2).toInt = 5 * z.toInt + r.toInt + 2 := add_l e2 (by decide) (by omega)
  have e6 := d2 hz.1
  have e7 : (10 * (z / 2)).toInt = 10 * (z.toInt / 2) := mul_l (by decide) e6 (by omega)
  have e8 : (10 * (z / 2) + r).toInt = 10 * (z.toInt / 2) + r.toInt := by rw [i_add, e7] <;> omega
  unfold x_X0_lengthOf ln
  rcases six_i hk with rfl | rfl | rfl | rfl | rfl | rfl
  · exact ⟨_, rfl, e2⟩
  · exact ⟨_, rfl, e3⟩
  · exact ⟨_, rfl, e2⟩
  · exact ⟨_, rfl, e4⟩
  · exact ⟨_, rfl, e5⟩
  · exact ⟨_, rfl, e8⟩
/-! makes in range; a shoe's numbers -/
def Rg (kd nb rn : Nat → Int32) (mk : Int) : Prop := ∀ m : Nat, (m : Int) < mk → (0 ≤ (kd m).toInt ∧ (kd m).toInt ≤ 5) ∧ (0 ≤ (nb m).toInt ∧ (nb m).toInt ≤ 9) ∧ (-9 ≤ (rn m).toInt ∧ (rn m).toInt ≤ 9)
def Ln (kd nb rn : Nat → Int32) (x : Nat) : Int := ln (kd (x / 20)).toInt (nb (x / 20)).toInt (rn (x / 20)).toInt ((x % 20 : Nat) : Int)
def Sy (kd nb rn : Nat → Int32) (x : Nat) (f : Int) : Int := sy (kd (x / 20)).toInt (nb (x / 20)).toInt (Ln kd nb rn x - f)
theorem Ln_b {kd nb rn : Nat → Int32} {mk : Int} (h : Rg kd nb rn mk) {x : Nat} (hx : (x : Int) < 20 * mk) : -21 ≤ Ln kd nb rn x ∧ Ln kd nb rn x ≤ 106 := by
  obtain ⟨h1, h2, h3⟩ := h (x / 20) (by omega)
  exact ln_b h2 h3 (by omega)
theorem n20 {a : Int32} (h : 0 ≤ a.toInt) : (a / 20).toNatClampNeg = a.toInt.toNat / 20 := by
  rw [i_nat, d20 h]
  omega
theorem c_len {N : Nat} {a : Int32} {g : Sg} {mk : Int} (h : Rg (g 12) (g 13) (g 14) mk) (hm : mk ≤ 5) (ha : 0 ≤ a.toInt ∧ a.toInt < 20 * mk) : x_X5_lengthOf N a g = some (Int32.ofInt (Ln (g 12) (g 13) (g 14) a.toInt.toNat), g) := by
  have e := d20 ha.1
  have en := n20 ha.1
  have er := r20 ha.1
  obtain ⟨h1, h2, h3⟩ := h (a.toInt.toNat / 20) (by omega)
  unfold x_X5_lengthOf
  simp only [lt]
  rw [if_pos (show inb (a / 20) 5 = true from i_inb.mpr ⟨by omega, by omega⟩), if_pos (show inb (a / 20) 5 = true from i_inb.mpr ⟨by omega, by omega⟩), if_pos (show inb (a / 20) 5 = true from i_inb.mpr ⟨by omega, by omega⟩), en]
  obtain ⟨v, e1, e2⟩ := c_len0 N (g 12 (a.toInt.toNat / 20)) (g 13 (a.toInt.toNat / 20)) (g 14 (a.toInt.toNat / 20)) (rmI a 20) g h1 h2 h3 (by omega)
  rw [e1]
  simp only [Option.bind_some]
  refine congrArg (fun z => some (z, g)) (eq_of ?_)
  rw [e2, er]
  unfold Ln
  rw [show ((a.toInt.toNat % 20 : Nat) : Int) = a.toInt % 20 by omega]
theorem c_saysOf {N : Nat} (hN : 5 ≤ N) {a f : Int32} {g : Sg} {mk : Int} (h : Rg (g 12) (g 13) (g 14) mk) (hm : mk ≤ 5) (ha : 0 ≤ a.toInt ∧ a.toInt < 20 * mk) (hf : 0 ≤ f.toInt ∧ f.toInt ≤ 99) : x_X5_saysOf N a f g = some (Int32.ofInt (Sy (g 12) (g 13) (g 14) a.toInt.toNat f.toInt), g) := by
  have e := d20 ha.1
  have en := n20 ha.1
  obtain ⟨h1, h2, h3⟩ := h (a.toInt.toNat / 20) (by omega)
  have lb := Ln_b h (x := a.toInt.toNat) (by omega)
  have el := of_i (z := Ln (g 12) (g 13) (g 14) a.toInt.toNat) (by omega) (by omega)
  unfold x_X5_saysOf
  simp only [lt]
  rw [if_pos (show inb (a / 20) 5 = true from i_inb.mpr ⟨by omega, by omega⟩), if_pos (show inb (a / 20) 5 = true from i_inb.mpr ⟨by omega, by omega⟩), en, c_len h hm ha]
  simp only [Option.bind_some]
  have eo : (Int32.ofInt (Ln (g 12) (g 13) (g 14) a.toInt.toNat) - f).toInt = Ln (g 12) (g 13) (g 14) a.toInt.toNat - f.toInt := by rw [i_sub, el] <;> omega
  rw [c_says hN _ _ _ _ h1 h2 (by rw [eo]; omega), eo]
  rfl
