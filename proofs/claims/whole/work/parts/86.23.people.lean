/-! shoes and people -/
theorem c_hasShoe (N : Nat) (a : Int32) (g : Sg) (h : 0 ≤ (g 1 4).toInt ∧ (g 1 4).toInt ≤ 5) : x_X5_hasShoe N a g = some (b2 (0 ≤ a.toInt ∧ a.toInt < 20 * (g 1 4).toInt), g) := by
  have e : (g 1 4 * 20).toInt = 20 * (g 1 4).toInt := by rw [i_mul] <;> simp only [Int32.reduceToInt] <;> omega
  unfold x_X5_hasShoe x_X5_shoes b2
  simp only [Option.bind_some, i_lt, i_le, e, Int32.reduceToInt]
  by_cases h1 : a.toInt < 0
  · rw [if_pos h1, if_neg (by omega)]
  · rw [if_neg h1]
    by_cases h2 : 20 * (g 1 4).toInt ≤ a.toInt
    · rw [if_pos h2, if_neg (by omega)]
    · rw [if_neg h2, if_pos (by omega)]
theorem d20 {x : Int32} (h : 0 ≤ x.toInt) : (x / 20).toInt = x.toInt / 20 := by
  rw [i_div (by decide)]
  exact Int.tdiv_eq_ediv_of_nonneg h
theorem r20 {x : Int32} (h : 0 ≤ x.toInt) : (rmI x 20).toInt = x.toInt % 20 := by
  rw [i_rm (by decide)]
  exact Int.tmod_eq_emod_of_nonneg h
abbrev stk (sk : Nat → Int32) (a : Int32) : Prop := ((sk (a / 20).toNatClampNeg >>> (rmI a 20 &&& 31)) &&& 1) = 1
theorem c_stocks (N : Nat) (a : Int32) (g : Sg) (h : 0 ≤ (g 1 4).toInt ∧ (g 1 4).toInt ≤ 5) : x_X5_stocks N a g = some (b2 ((0 ≤ a.toInt ∧ a.toInt < 20 * (g 1 4).toInt) ∧ stk (g 15) a), g) := by
  unfold x_X5_stocks
  rw [c_hasShoe N a g h]
  simp only [Option.bind_some, b2_0]
  by_cases h1 : 0 ≤ a.toInt ∧ a.toInt < 20 * (g 1 4).toInt
  · have e := d20 h1.1
    rw [if_neg (fun z => z h1), if_pos (show inb (a / 20) 5 = true from i_inb.mpr ⟨by omega, by omega⟩)]
    unfold b2 stk
    by_cases h2 : ((g 15 (a / 20).toNatClampNeg >>> (rmI a 20 &&& 31)) &&& 1) = 1
    · rw [if_pos h2, if_pos ⟨h1, h2⟩]
    · rw [if_neg h2, if_neg (fun z => h2 z.2)]
  · rw [if_pos h1]
    unfold b2
    rw [if_neg (fun z => h1 z.1)]
theorem m_isStock (N : Nat) (a : Int32) (S : SM) (h : 0 ≤ a.toInt ∧ a.toInt < 100) : x_X8_isStock N a S = some (b2 (stk (S.1 8) a), S) := by
  have e := d20 h.1
  unfold x_X8_isStock b2 stk
  rw [if_pos (show inb (a / 20) 5 = true from i_inb.mpr ⟨by omega, by omega⟩)]
  by_cases h2 : ((S.1 8 (a / 20).toNatClampNeg >>> (rmI a 20 &&& 31)) &&& 1) = 1
  · rw [if_pos h2, if_pos h2]
  · rw [if_neg h2, if_neg h2]
theorem stk_eq {nb rn sk nb2 rn2 sk2 : Nat → Int32} (h : IvM nb rn sk nb2 rn2 sk2) {a : Int32} (ha : 0 ≤ a.toInt ∧ a.toInt < 100) : stk sk a ↔ stk sk2 a := by
  have e := d20 ha.1
  have e2 := (h (a / 20).toNatClampNeg (by rw [i_nat]; omega)).2.2.1
  unfold stk
  rw [e2]
/-- a sum over the places below n that P marks -/
def ps (f : Nat → Int32) (P : Nat → Bool) : Nat → Int32
  | 0 => 0
  | n + 1 => ps f P n + (if P n then f n else 0)
theorem ps_congr {f f2 : Nat → Int32} {P P2 : Nat → Bool} : ∀ n, (∀ i, i < n → P i = P2 i ∧ (P i = true → f i = f2 i)) → ps f P n = ps f2 P2 n := by
  intro n
  induction n with
  | zero => intro _; rfl
  | succ n ih =>
    intro h
    unfold ps
    rw [ih (fun i hi => h i (by omega))]
    obtain ⟨e1, e2⟩ := h n (by omega)
    rw [← e1]
    by_cases hp : P n = true
    · rw [if_pos hp, if_pos hp, e2 hp]
    · rw [if_neg hp, if_neg hp]
theorem ps_no {f : Nat → Int32} {P : Nat → Bool} (m : Nat) : ∀ n, m ≤ n → (∀ i, m ≤ i → i < n → P i = false) → ps f P n = ps f P m := by
  intro n
  induction n with
  | zero => intro h _; rw [show m = 0 by omega]
  | succ n ih =>
    intro h hp
    by_cases e : m = n + 1
    · rw [e]
    · show ps f P n + (if P n then f n else 0) = _
      rw [hp n (by omega) (by omega), ih (by omega) (fun i h1 h2 => hp i h1 (by omega))]
      exact Int32.add_zero _
theorem c_people {N : Nat} (hN : 200 < N) (lo hi : Int32) (g : Sg) : x_X5_peopleOf N lo hi g = some (ps (g 11) (fun i => decide (lo.toInt ≤ i ∧ (i : Int) ≤ hi.toInt)) 100, g) := by
  obtain ⟨P, hP⟩ : ∃ P : Nat → Bool, P = fun i : Nat => decide (lo.toInt ≤ i ∧ (i : Int) ≤ hi.toInt) := ⟨_, rfl⟩
  rw [← hP]
  have t1 : ∀ i : Nat, (i : Int) < lo.toInt → P i = false := fun i h => by rw [hP]; exact decide_eq_false (by omega)
  have t2 : ∀ i : Nat, hi.toInt < (i : Int) → P i = false := fun i h => by rw [hP]; exact decide_eq_false (by omega)
  have t3 : ∀ i : Nat, lo.toInt ≤ (i : Int) → (i : Int) ≤ hi.toInt → P i = true := fun i h h' => by rw [hP]; exact decide_eq_true ⟨h, h'⟩
  unfold x_X5_peopleOf
  have hm : (mxI 0 lo).toInt = max 0 lo.toInt := by
    unfold mxI
    simp only [i_lt, Int32.reduceToInt]
    by_cases h : 0 < lo.toInt
    · rw [if_pos h]; omega
    · rw [if_neg h]; simp only [Int32.reduceToInt]; omega
  simp only [lt]
  obtain ⟨r, e, e2⟩ := lp_tot (F := x_X5_peopleOf_B9 N) (fun x => 101 - x.2.2.1.toInt.toNat) (fun x => x.1 = hi ∧ max 0 lo.toInt ≤ x.2.2.1.toInt ∧ x.2.1 = ps (g 11) P (min x.2.2.1.toInt.toNat 100) ∧ x.2.2.2 = g) (fun _ r => r = (ps (g 11) P 100, g)) (by
    intro h ⟨x1, s, i, G⟩ ⟨i1, i2, i3, i4⟩ ih
    have i1 : x1 = hi := i1
    have i2 : max 0 lo.toInt ≤ i.toInt := i2
    have i3 : s = ps (g 11) P (min i.toInt.toNat 100) := i3
    have i4 : G = g := i4
    subst i1; subst i4
    unfold x_X5_peopleOf_B9
    simp only [i_lt, i_le, Int32.reduceToInt]
    by_cases h1 : x1.toInt < i.toInt
    · rw [if_pos h1]
      refine ⟨_, rfl, ?_⟩
      rw [i3, ps_no (f := G 11) (P := P) (min i.toInt.toNat 100) 100 (by omega) (fun j h2 h3 => t2 j (by omega))]
    · rw [if_neg h1]
      by_cases h2 : 100 ≤ i.toInt
      · rw [if_pos h2]
        refine ⟨_, rfl, ?_⟩
        rw [i3, show min i.toInt.toNat 100 = 100 by omega]
      · have e1 := inc1 (x := i) (by omega)
        rw [if_neg h2, if_pos (show inb i 100 = true from i_inb.mpr ⟨by omega, by omega⟩)]
        simp only [lt]
        refine ih (x1, _, i + 1, G) ⟨rfl, by show _ ≤ (i + 1).toInt; omega, ?_, rfl⟩ (by show 101 - (i + 1).toInt.toNat < 101 - i.toInt.toNat; omega)
        show s + G 11 i.toNatClampNeg = ps (G 11) P (min (i + 1).toInt.toNat 100)
        rw [show min (i + 1).toInt.toNat 100 = i.toInt.toNat + 1 by omega, i3, show min i.toInt.toNat 100 = i.toInt.toNat by omega]
        show _ = ps (G 11) P i.toInt.toNat + (if P i.toInt.toNat then G 11 i.toInt.toNat else 0)
        rw [if_pos (t3 _ (by omega) (by omega))]
        rfl) N (hi, 0, mxI 0 lo, g) ⟨rfl, by show _ ≤ (mxI 0 lo).toInt; omega, by
          show 0 = ps (g 11) P (min (mxI 0 lo).toInt.toNat 100)
          rw [ps_no (f := g 11) (P := P) 0 (min (mxI 0 lo).toInt.toNat 100) (by omega) (fun j _ h3 => t1 j (by omega))]
          rfl, rfl⟩ (by show 101 - _ < N; omega)
  rw [e, e2]
theorem m_townAll {N : Nat} (hN : 200 < N) (S : SM) : x_X8_townAll N S = some (ps (S.1 4) (fun _ => true) 100, S) := by
  unfold x_X8_townAll
  obtain ⟨r, e, e2⟩ := lp_tot (F := x_X8_townAll_B4 N) (fun x => 100 - x.2.1.toInt.toNat) (fun x => 0 ≤ x.2.1.toInt ∧ x.2.1.toInt ≤ 100 ∧ x.1 = ps (S.1 4) (fun _ => true) x.2.1.toInt.toNat ∧ x.2.2 = S) (fun _ r => r = (ps (S.1 4) (fun _ => true) 100, S)) (by
    intro h ⟨s, i, T⟩ ⟨i1, i2, i3, i4⟩ ih
    have i1 : 0 ≤ i.toInt := i1
    have i2 : i.toInt ≤ 100 := i2
    have i3 : s = ps (S.1 4) (fun _ => true) i.toInt.toNat := i3
    have i4 : T = S := i4
    subst i4
    unfold x_X8_townAll_B4
    simp only [i_le, Int32.reduceToInt]
    by_cases h1 : 100 ≤ i.toInt
    · rw [if_pos h1]
      refine ⟨_, rfl, ?_⟩
      rw [i3, show i.toInt.toNat = 100 by omega]
    · have e1 := inc1 (x := i) (by omega)
      rw [if_neg h1, if_pos (show inb i 100 = true from i_inb.mpr ⟨by omega, by omega⟩)]
      simp only [lt]
      refine ih (_, i + 1, T) ⟨by show 0 ≤ (i + 1).toInt; omega, by show (i + 1).toInt ≤ 100; omega, ?_, rfl⟩ (by show 100 - (i + 1).toInt.toNat < 100 - i.toInt.toNat; omega)
      show s + T.1 4 i.toNatClampNeg = ps (T.1 4) (fun _ => true) (i + 1).toInt.toNat
      rw [show (i + 1).toInt.toNat = i.toInt.toNat + 1 by omega, i3]
      rfl) N (0, 0, S) ⟨Int.le_refl 0, by show (0 : Int32).toInt ≤ 100; decide, rfl, rfl⟩ (by show 100 - _ < N; omega)
  rw [e, e2]
theorem people_all {N : Nat} (hN : 200 < N) {g : Sg} {S : SM} (h : IvT (g 11) (S.1 4)) : ∃ r, x_X5_peopleOf N 0 99 g = some (r, g) ∧ x_X8_townAll N S = some (r, S) := by
  refine ⟨_, c_people hN 0 99 g, ?_⟩
  rw [m_townAll hN]
  refine congrArg (fun z => some (z, S)) (ps_congr 100 (fun i hi => ⟨?_, fun _ => (h i hi).1.symm⟩))
  exact (decide_eq_true ⟨by simp only [Int32.reduceToInt]; omega, by simp only [Int32.reduceToInt]; omega⟩).symm
