/-! which shoes are in stock, and how many -/
def Sb (sk : Nat → Int32) (x : Nat) : Bool := (sk (x / 20)).toInt.toNat.testBit (x % 20)
def Kg (sk : Nat → Int32) : Prop := ∀ m : Nat, m < 5 → 0 ≤ (sk m).toInt ∧ (sk m).toInt ≤ 1048575
theorem stk_Sb {sk : Nat → Int32} (h : Kg sk) {a : Int32} (ha : 0 ≤ a.toInt ∧ a.toInt < 100) : stk sk a ↔ Sb sk a.toInt.toNat = true := by
  have er := r20 ha.1
  unfold stk Sb
  rw [n20 ha.1, bit_i (h _ (by omega)).1 (by omega), er, show (a.toInt % 20).toNat = a.toInt.toNat % 20 by omega]
theorem c_stk {N : Nat} {a : Int32} {g : Sg} (h : 0 ≤ (g 1 4).toInt ∧ (g 1 4).toInt ≤ 5) (hk : Kg (g 15)) (ha : 0 ≤ a.toInt ∧ a.toInt < 20 * (g 1 4).toInt) : x_X5_stocks N a g = some (b2 (Sb (g 15) a.toInt.toNat = true), g) := by
  rw [c_stocks N a g h]
  refine congrArg (fun z => some (z, g)) (b2_c ?_)
  rw [stk_Sb hk (by omega)]
  exact ⟨fun z => z.2, fun z => ⟨ha, z⟩⟩
theorem m_stk {N : Nat} {a : Int32} {S : SM} (hk : Kg (S.1 8)) (ha : 0 ≤ a.toInt ∧ a.toInt < 100) : x_X8_isStock N a S = some (b2 (Sb (S.1 8) a.toInt.toNat = true), S) := by
  rw [m_isStock N a S ha]
  exact congrArg (fun z => some (z, S)) (b2_c (stk_Sb hk ha))
theorem Kg_c {TX : TXt} {g : Sg} {S : SM} (h : Inv TX g S) : Kg (g 15) := fun m hm => (h.2.2.1 m hm).2.2.2
theorem Kg_m {TX : TXt} {g : Sg} {S : SM} (h : Inv TX g S) : Kg (S.1 8) := fun m hm => by
  have q := (h.2.2.1 m hm).2.2
  rw [← q.1]; exact q.2
theorem Sb_cm {TX : TXt} {g : Sg} {S : SM} (h : Inv TX g S) {x : Nat} (hx : x < 100) : Sb (S.1 8) x = Sb (g 15) x := by
  unfold Sb
  rw [(h.2.2.1 (x / 20) (by omega)).2.2.1]
/-- how many below n -/
def cn (P : Nat → Bool) : Nat → Nat
  | 0 => 0
  | n + 1 => cn P n + (if P n then 1 else 0)
theorem cn_le (P : Nat → Bool) : ∀ n, cn P n ≤ n := by
  intro n
  induction n with
  | zero => exact Nat.le_refl 0
  | succ n ih =>
    unfold cn
    split <;> omega
theorem cn_c {P Q : Nat → Bool} : ∀ n, (∀ i, i < n → P i = Q i) → cn P n = cn Q n := by
  intro n
  induction n with
  | zero => intro _; rfl
  | succ n ih =>
    intro h
    unfold cn
    rw [ih (fun i hi => h i (by omega)), h n (by omega)]
theorem cn_a (P : Nat → Bool) (m : Nat) : ∀ n, cn P (m + n) = cn P m + cn (fun z => P (m + z)) n := by
  intro n
  induction n with
  | zero => rfl
  | succ n ih =>
    show cn P (m + n) + (if P (m + n) then 1 else 0) = cn P m + (cn (fun z => P (m + z)) n + (if P (m + n) then 1 else 0))
    rw [ih]; omega
theorem bN_cn : ∀ (n x : Nat), bN n x = cn (fun i => x.testBit i) n := by
  intro n
  induction n with
  | zero => intro x; rfl
  | succ n ih =>
    intro x
    rw [Nat.add_comm n 1, cn_a _ 1 n]
    rw [Nat.add_comm 1 n]
    show x % 2 + bN n (x / 2) = (0 + (if x.testBit 0 then 1 else 0)) + _
    rw [ih]
    have e1 : (if x.testBit 0 = true then 1 else 0) = x % 2 := by
      rw [Nat.testBit_zero]
      by_cases h : x % 2 = 1
      · rw [if_pos (by simp [h])]; omega
      · rw [if_neg (by simp [h])]; omega
    rw [e1, Nat.zero_add]
    refine congrArg _ (cn_c n (fun i _ => ?_))
    rw [Nat.add_comm 1 i, Nat.testBit_succ]
theorem c_stocked {N : Nat} (hN : 200 < N) {g : Sg} (h : 0 ≤ (g 1 4).toInt ∧ (g 1 4).toInt ≤ 5) (hk : Kg (g 15)) : x_X5_stocked N g = some (Int32.ofInt (cn (Sb (g 15)) (20 * (g 1 4).toInt.toNat)), g) := by
  unfold x_X5_stocked
  obtain ⟨r, e, e2⟩ := lp_tot (F := x_X5_stocked_B4 N) (fun x => 6 - x.2.1.toInt.toNat) (fun x => 0 ≤ x.2.1.toInt ∧ x.2.1.toInt ≤ (g 1 4).toInt ∧ x.1.toInt = cn (Sb (g 15)) (20 * x.2.1.toInt.toNat) ∧ x.2.2 = g) (fun _ r => r = (Int32.ofInt (cn (Sb (g 15)) (20 * (g 1 4).toInt.toNat)), g)) (by
    intro h4 ⟨s, i, G⟩ ⟨i1, i2, i3, i4⟩ ih
    have i1 : 0 ≤ i.toInt := i1
    have i2 : i.toInt ≤ (g 1 4).toInt := i2
    have i3 : s.toInt = cn (Sb (g 15)) (20 * i.toInt.toNat) := i3
    have i4 : G = g := i4
    subst i4
    unfold x_X5_stocked_B4
    simp only [i_le]
    by_cases c1 : (G 1 4).toInt ≤ i.toInt
    · rw [if_pos c1]
      refine ⟨_, rfl, ?_⟩
      rw [show i.toInt = (G 1 4).toInt by omega] at i3
      rw [eq_of i3]
    · have e1 := inc1 (x := i) (by omega)
      obtain ⟨v, e3, e4⟩ := c_bits (N := N) (g := G) (hk i.toInt.toNat (by omega))
      rw [if_neg c1, if_pos (show inb i 5 = true from i_inb.mpr ⟨by omega, by omega⟩), i_nat, e3]
      simp only [Option.bind_some, lt]
      have hb := cn_le (Sb (G 15)) (20 * i.toInt.toNat)
      have e5 : bN 20 (G 15 i.toInt.toNat).toInt.toNat = cn (fun z => Sb (G 15) (20 * i.toInt.toNat + z)) 20 := by
        rw [bN_cn]
        refine cn_c 20 (fun z hz => ?_)
        unfold Sb
        rw [show (20 * i.toInt.toNat + z) / 20 = i.toInt.toNat by omega, show (20 * i.toInt.toNat + z) % 20 = z by omega]
      have hb2 := cn_le (fun z => Sb (G 15) (20 * i.toInt.toNat + z)) 20
      refine ih (s + v, i + 1, G) ⟨by show 0 ≤ (i + 1).toInt; omega, by show (i + 1).toInt ≤ _; omega, ?_, rfl⟩ (by show 6 - (i + 1).toInt.toNat < 6 - i.toInt.toNat; omega)
      show (s + v).toInt = cn (Sb (G 15)) (20 * (i + 1).toInt.toNat)
      rw [show 20 * (i + 1).toInt.toNat = 20 * i.toInt.toNat + 20 by omega, cn_a, ← e5]
      rw [i_add, i3, e4] <;> omega) N (0, 0, g) ⟨Int.le_refl 0, h.1, rfl, rfl⟩ (by show 6 - _ < N; omega)
  rw [e, e2]
theorem m_stockMany {N : Nat} (hN : 200 < N) {S : SM} (h : 0 ≤ (S.1 0 15).toInt ∧ (S.1 0 15).toInt ≤ 5) (hk : Kg (S.1 8)) : x_X8_stockMany N S = some (Int32.ofInt (cn (Sb (S.1 8)) (20 * (S.1 0 15).toInt.toNat)), S) := by
  have em : (20 * S.1 0 15).toInt = 20 * (S.1 0 15).toInt := mul_l (by decide) rfl (by omega)
  unfold x_X8_stockMany
  obtain ⟨r, e, e2⟩ := lp_tot (F := x_X8_stockMany_B4 N) (fun x => 101 - x.2.1.toInt.toNat) (fun x => 0 ≤ x.2.1.toInt ∧ x.2.1.toInt ≤ 20 * (S.1 0 15).toInt ∧ x.1.toInt = cn (Sb (S.1 8)) x.2.1.toInt.toNat ∧ x.2.2 = S) (fun _ r => r = (Int32.ofInt (cn (Sb (S.1 8)) (20 * (S.1 0 15).toInt.toNat)), S)) (by
    intro h4 ⟨s, i, T⟩ ⟨i1, i2, i3, i4⟩ ih
    have i1 : 0 ≤ i.toInt := i1
    have i2 : i.toInt ≤ 20 * (S.1 0 15).toInt := i2
    have i3 : s.toInt = cn (Sb (S.1 8)) i.toInt.toNat := i3
    have i4 : T = S := i4
    subst i4
    unfold x_X8_stockMany_B4
    simp only [i_le, em]
    by_cases c1 : 20 * (T.1 0 15).toInt ≤ i.toInt
    · rw [if_pos c1]
      refine ⟨_, rfl, ?_⟩
      rw [show i.toInt.toNat = 20 * (T.1 0 15).toInt.toNat by omega] at i3
      rw [eq_of i3]
    · have e1 := inc1 (x := i) (by omega)
      rw [if_neg c1, m_stk hk (by omega)]
      simp only [Option.bind_some, b2_0]
      have hb := cn_le (Sb (T.1 8)) i.toInt.toNat
      unfold x_X8_stockMany_b29
      simp only [lt]
      by_cases c2 : Sb (T.1 8) i.toInt.toNat = true
      · rw [if_neg (fun z => z c2)]
        refine ih (s + 1, i + 1, T) ⟨by show 0 ≤ (i + 1).toInt; omega, by show (i + 1).toInt ≤ _; omega, ?_, rfl⟩ (by show 101 - (i + 1).toInt.toNat < 101 - i.toInt.toNat; omega)
        show (s + 1).toInt = cn (Sb (T.1 8)) (i + 1).toInt.toNat
        rw [show (i + 1).toInt.toNat = i.toInt.toNat + 1 by omega]
        show _ = ((cn (Sb (T.1 8)) i.toInt.toNat + (if Sb (T.1 8) i.toInt.toNat then 1 else 0) : Nat) : Int)
        rw [if_pos c2, add_l i3 (k := 1) (by decide) (by omega)]
        omega
      · rw [if_pos c2]
        refine ih (s + 0, i + 1, T) ⟨by show 0 ≤ (i + 1).toInt; omega, by show (i + 1).toInt ≤ _; omega, ?_, rfl⟩ (by show 101 - (i + 1).toInt.toNat < 101 - i.toInt.toNat; omega)
        show (s + 0).toInt = cn (Sb (T.1 8)) (i + 1).toInt.toNat
        rw [show (i + 1).toInt.toNat = i.toInt.toNat + 1 by omega, Int32.add_zero, i3]
        show _ = ((cn (Sb (T.1 8)) i.toInt.toNat + (if Sb (T.1 8) i.toInt.toNat then 1 else 0) : Nat) : Int)
        rw [if_neg c2]
        omega) N (0, 0, S) ⟨Int.le_refl 0, by show (0 : Int32).toInt ≤ _; simp only [Int32.reduceToInt]; omega, rfl, rfl⟩ (by show 101 - _ < N; omega)
  rw [e, e2]
theorem stocked_both {TX : TXt} {N : Nat} (hN : 200 < N) {g : Sg} {S : SM} (h : Inv TX g S) : ∃ r : Int32, x_X5_stocked N g = some (r, g) ∧ x_X8_stockMany N S = some (r, S) ∧ 0 ≤ r.toInt ∧ r.toInt = cn (Sb (g 15)) (20 * (g 1 4).toInt.toNat) := by
  obtain ⟨k1, k2, k3⟩ := mk5 h
  have hb := cn_le (Sb (g 15)) (20 * (g 1 4).toInt.toNat)
  refine ⟨_, c_stocked hN ⟨k2, k3⟩ (Kg_c h), ?_, by rw [of_i] <;> omega, by rw [of_i] <;> omega⟩
  rw [m_stockMany hN (by rw [← k1]; exact ⟨k2, k3⟩) (Kg_m h), ← k1]
  rw [cn_c (P := Sb (S.1 8)) (Q := Sb (g 15)) (20 * (g 1 4).toInt.toNat) (fun i hi => Sb_cm h (by omega))]
theorem o_count {TX : TXt} {g : Sg} {S : SM} (h : Inv TX g S) {N : Nat} (hN : 200 < N) (a : Int32) : Sim TX (x_X7_count N a g) (x_X8_count N a S) := by
  have hI := h
  obtain ⟨hS, hT, hM, hK, hB, hP, hH, hX⟩ := h
  unfold x_X8_count
  simp only [m_in, Option.bind_some, i_l64, b2_0, Int64.reduceToInt]
  by_cases h1 : 0 ≤ a.toInt ∧ a.toInt ≤ 5
  · rw [if_neg (fun z => z h1)]
    rcases six_i h1 with rfl | rfl | rfl | rfl | rfl | rfl
    · have e : g 1 4 = S.1 0 15 := (mk5 hI).1
      show Sim TX (some (g 1 4, g)) (some (S.1 0 15, S))
      rw [← e]; exact Sim.mk hI
    · obtain ⟨r, e1, e2, _⟩ := stocked_both hN hI
      show Sim TX ((x_X5_stocked N g).bind fun q4 => some (q4.1, q4.2)) ((x_X8_stockMany N S).bind fun q9 => some (q9.1, q9.2))
      rw [e1, e2]; exact Sim.mk hI
    · obtain ⟨r, e1, e2⟩ := people_all hN hT
      show Sim TX ((x_X5_peopleOf N 0 99 g).bind fun q4 => some (q4.1, q4.2)) ((x_X8_townAll N S).bind fun q9 => some (q9.1, q9.2))
      rw [e1, e2]; exact Sim.mk hI
    · show Sim TX (some (g 4 0, g)) (some (S.1 0 3, S))
      rw [← hX.1]; exact Sim.mk hI
    · show Sim TX (some (g 3 1, g)) (some (S.1 0 6, S))
      rw [← hP.1]; exact Sim.mk hI
    · show Sim TX (some (g 1 3, g)) (some (S.1 0 4, S))
      rw [← hS.2.2.2.1.1]; exact Sim.mk hI
  · rw [if_pos h1]
    unfold x_X7_count
    rw [if_pos (show a.toInt < 0 ∨ 5 < a.toInt by omega)]
    exact Sim.mk hI
