/-! two loops, step by step -/
theorem lp_two {α β γ δ : Type} {F : (α → Option γ) → α → Option γ} {G : (β → Option δ) → β → Option δ} (μ : α → Nat) (R : α → β → Prop) (P : γ → δ → Prop) (step : ∀ (h : α → Option γ) (k : β → Option δ) (x : α) (y : β), R x y → (∀ x' y', R x' y' → μ x' < μ x → ∃ r s, h x' = some r ∧ k y' = some s ∧ P r s) → ∃ r s, F h x = some r ∧ G k y = some s ∧ P r s) : ∀ (n : Nat) (x : α) (y : β), R x y → μ x < n → ∃ r s, lp F n x = some r ∧ lp G n y = some s ∧ P r s := by
  intro n
  induction n with
  | zero => intro x y _ h; exact absurd h (Nat.not_lt_zero _)
  | succ n ih =>
    intro x y hR hn
    exact step (lp F n) (lp G n) x y hR (fun x' y' hR' hlt => ih x' y' hR' (by omega))
def SimP (TX : TXt) (r : Int32 × Sg) (s : Int32 × SM) : Prop := r.1 = s.1 ∧ Inv TX r.2 s.2
theorem Sim.ofP {TX : TXt} {p : Option (Int32 × Sg)} {q : Option (Int32 × SM)} (h : ∃ r s, p = some r ∧ q = some s ∧ SimP TX r s) : Sim TX p q := by
  obtain ⟨⟨r, g⟩, ⟨s, S⟩, e1, e2, e3, hI⟩ := h
  have e3 : r = s := e3
  subst e3
  exact ⟨r, g, S, e1, e2, hI⟩
/-! town -/
theorem m_put (N : Nat) (f d : Int32) (S : SM) : x_X8_set N 3 f d S = if 0 ≤ f.toInt ∧ f.toInt ≤ 99 ∧ 0 ≤ d.toInt ∧ d.toInt ≤ 9 then some (S.1 4 f.toNatClampNeg, (up S.1 4 (upd (S.1 4) f.toNatClampNeg d), S.2)) else some (-100, S) := by
  rw [m_set3]
  simp only [m_told3, m_in, m_isFoot, Option.bind_some, i_l64, b2_0, Int64.reduceToInt]
  by_cases h3 : 0 ≤ f.toInt ∧ f.toInt ≤ 99
  · have n3 : ¬ ¬ (0 ≤ f.toInt ∧ f.toInt ≤ 99) := fun z => z h3
    have b5 : inb f 100 = true := i_inb.mpr ⟨h3.1, by omega⟩
    simp only [if_neg n3, if_pos b5, Option.bind_some]
    by_cases h2 : 0 ≤ d.toInt ∧ d.toInt ≤ 9
    · rw [if_neg (fun z => z h2), if_pos ⟨h3.1, h3.2, h2.1, h2.2⟩]
    · rw [if_pos h2, if_neg (fun z => h2 ⟨z.2.2.1, z.2.2.2⟩)]
  · rw [if_pos h3, if_neg (fun z => h3 ⟨z.1, z.2.1⟩)]
theorem dbl {i : Int32} (h : 0 ≤ i.toInt ∧ i.toInt ≤ 100) : (2 * i).toInt = 2 * i.toInt := by
  rw [i_mul] <;> simp only [Int32.reduceToInt] <;> omega
theorem o_town {TX : TXt} {g : Sg} {S : SM} (h : Inv TX g S) {N : Nat} (hN : 1000 < N) (a1 a2 a3 a4 : Int32) : Sim TX (x_X7_town N a1 a2 a3 a4 g) (x_X8_town N a1 a2 a3 a4 S) := by
  have hH := h.2.2.2.2.2.2.1
  unfold x_X7_town x_X8_town
  simp only [c_isOne, m_isSheet, m_in, Option.bind_some, b2_0, i_l64, i_lt, i_le, Int32.reduceToInt, Int64.reduceToInt]
  by_cases h1 : 0 ≤ a1.toInt ∧ a1.toInt ≤ 3
  · have n1 : ¬ ¬ (0 ≤ a1.toInt ∧ a1.toInt ≤ 3) := fun z => z h1
    rw [if_neg n1, if_neg n1]
    by_cases c1 : a2.toInt < 0
    · rw [if_pos c1, if_pos (show ¬ (0 ≤ a2.toInt ∧ a2.toInt ≤ 2) by omega)]; exact Sim.mk h
    rw [if_neg c1]
    by_cases c2 : 2 < a2.toInt
    · rw [if_pos c2, if_pos (show ¬ (0 ≤ a2.toInt ∧ a2.toInt ≤ 2) by omega)]; exact Sim.mk h
    rw [if_neg c2, if_neg (show ¬ ¬ (0 ≤ a2.toInt ∧ a2.toInt ≤ 2) by omega)]
    by_cases c3 : a4.toInt < 0
    · rw [if_pos c3, if_pos (show ¬ (0 ≤ a4.toInt ∧ a4.toInt ≤ 20) by omega)]; exact Sim.mk h
    rw [if_neg c3]
    by_cases c4 : a4.toInt ≤ 20
    · rw [if_pos c4, if_neg (show ¬ ¬ (0 ≤ a4.toInt ∧ a4.toInt ≤ 20) by omega)]
      have b1 : inb a1 4 = true := i_inb.mpr ⟨h1.1, by omega⟩
      simp only [c_isMissing N g h1, b1, if_true, Option.bind_some, b2_0]
      obtain ⟨k, hk⟩ : ∃ k, k = a1.toNatClampNeg := ⟨_, rfl⟩
      have ek : (k : Int) = a1.toInt := by rw [hk, i_nat]; omega
      rw [← hk]
      rcases hH k (by omega) with ⟨m1, m2⟩ | ⟨p1, p2, p3, p4, p5, p6⟩
      · rw [if_neg (fun z => z m1), if_pos m2]
        unfold x_X8_town_b57
        rw [if_pos b1, ← hk, if_pos m2]; exact Sim.mk h
      have u1 : ¬ g 30 k = -1 := by rw [i_eq]; simp only [Int32.reduceToInt]; omega
      have u2 : ¬ S.1 18 k = 0 := by rw [p2]; decide
      rw [if_pos u1, if_neg u2, p3]
      by_cases hs : g 30 k = a2
      · rw [if_pos hs, if_pos hs]
        unfold x_X8_town_b57
        rw [if_pos b1, ← hk, if_neg u2]
        refine Sim.ofP (lp_two (F := x_X7_town_B67 N) (G := x_X8_town_B75 N) (fun x => 20 - x.2.2.2.2.1.toInt.toNat) (fun x y => x.1 = a1 ∧ x.2.1 = a3 ∧ x.2.2.1 = a4 ∧ 0 ≤ x.2.2.2.2.1.toInt ∧ x.2.2.2.2.1.toInt ≤ a4.toInt ∧ ¬ x.2.2.2.2.2 30 k = -1 ∧ y.1 = a1 ∧ y.2.1 = a3 ∧ y.2.2.1 = a4 ∧ y.2.2.2.1 = x.2.2.2.1 ∧ y.2.2.2.2.1 = x.2.2.2.2.1 ∧ Inv TX x.2.2.2.2.2 y.2.2.2.2.2) (SimP TX) ?_ N _ _ ⟨rfl, rfl, rfl, Int.le_refl 0, by show (0 : Int32).toInt ≤ _; simp only [Int32.reduceToInt]; omega, u1, rfl, rfl, rfl, rfl, rfl, h⟩ (by show 20 - _ < N; omega))
        intro hh kk ⟨x1, x2, x3, x4, i, G⟩ ⟨y1, y2, y3, y4, y5, T⟩ ⟨i1, i2, i3, i4, i5, i6, j1, j2, j3, j4, j5, hI⟩ ih
        have i1 : x1 = a1 := i1
        have i2 : x2 = a3 := i2
        have i3 : x3 = a4 := i3
        have j1 : y1 = a1 := j1
        have j2 : y2 = a3 := j2
        have j3 : y3 = a4 := j3
        have j4 : y4 = x4 := j4
        have j5 : y5 = i := j5
        subst i1; subst i2; subst i3; subst j1; subst j2; subst j3; subst j4; subst j5
        have i4 : 0 ≤ y5.toInt := i4
        have i5 : y5.toInt ≤ y3.toInt := i5
        have i6 : ¬ G 30 k = -1 := i6
        have hI : Inv TX G T := hI
        unfold x_X7_town_B67 x_X8_town_B75
        simp only [i_lt, i_le, Int32.reduceToInt, b1, if_true]
        rw [← hk]
        by_cases d1 : y3.toInt ≤ y5.toInt
        · rw [if_pos d1, if_pos d1]
          exact ⟨_, _, rfl, rfl, rfl, hI⟩
        rw [if_neg d1, if_neg d1]
        by_cases d2 : y2.toInt < 0
        · rw [if_pos d2, if_pos d2]
          exact ⟨_, _, rfl, rfl, rfl, hI⟩
        rw [if_neg d2, if_neg d2]
        rcases hI.2.2.2.2.2.2.1 k (by omega) with ⟨m1, _⟩ | ⟨q1, q2, q3, q4, q5, q6⟩
        · exact absurd m1 i6
        have e1 := dbl (i := y5) (by omega)
        have e2 : (G 31 k - 2 * y5).toInt = (G 31 k).toInt - 2 * y5.toInt := by rw [i_sub] <;> omega
        have e3 : (G 31 k - 2 * y5 - 1).toInt = (G 31 k).toInt - 2 * y5.toInt - 1 := sub_l e2 (by decide) (by omega)
        have e4 : (G 31 k - 2 * y5 - 2).toInt = (G 31 k).toInt - 2 * y5.toInt - 2 := sub_l e2 (by decide) (by omega)
        rw [q4, e3, e4]
        by_cases d3 : y2.toInt < (G 31 k).toInt - 2 * y5.toInt - 1
        · rw [if_pos d3, if_pos (show y2.toInt ≤ (G 31 k).toInt - 2 * y5.toInt - 2 by omega)]
          have f1 : (y2 + 2 * y5).toInt = y2.toInt + 2 * y5.toInt := by rw [i_add, e1] <;> omega
          have f2 : (y2 + 2 * y5 + 1).toInt = y2.toInt + 2 * y5.toInt + 1 := add_l f1 (by decide) (by omega)
          have f3 := s40 h1 (b := y2) (by omega)
          have f4 : (40 * y1 + y2 + 2 * y5).toInt = 40 * y1.toInt + y2.toInt + 2 * y5.toInt := by rw [i_add, f3, e1] <;> omega
          have f5 : (40 * y1 + y2 + 2 * y5 + 1).toInt = 40 * y1.toInt + y2.toInt + 2 * y5.toInt + 1 := add_l f4 (by decide) (by omega)
          have n4 : (40 * y1 + y2 + 2 * y5).toNatClampNeg = 40 * k + (y2 + 2 * y5).toNatClampNeg := by rw [i_nat, i_nat, f4, f1]; omega
          have n5 : (40 * y1 + y2 + 2 * y5 + 1).toNatClampNeg = 40 * k + (y2 + 2 * y5 + 1).toNatClampNeg := by rw [i_nat, i_nat, f5, f2]; omega
          simp only [lt]
          rw [if_pos (show inb (y2 + 2 * y5) 40 = true from i_inb.mpr ⟨by omega, by omega⟩), if_pos (show inb (y2 + 2 * y5 + 1) 40 = true from i_inb.mpr ⟨by omega, by omega⟩)]
          rw [if_pos (show inb (40 * y1 + y2 + 2 * y5) 160 = true from i_inb.mpr ⟨by omega, by omega⟩), if_pos (show inb (40 * y1 + y2 + 2 * y5 + 1) 160 = true from i_inb.mpr ⟨by omega, by omega⟩), n4, n5]
          rw [← q6 (y2 + 2 * y5).toNatClampNeg (by rw [i_nat]; omega), ← q6 (y2 + 2 * y5 + 1).toNatClampNeg (by rw [i_nat]; omega)]
          generalize G (33 + k) (y2 + 2 * y5).toNatClampNeg = f
          generalize G (33 + k) (y2 + 2 * y5 + 1).toNatClampNeg = d
          have e9 := inc1 (x := y5) (by omega)
          simp only [c_isFoot, m_put, Option.bind_some, b2_0]
          have hnx : ∀ (c : Int32) (G' : Sg) (T' : SM), ¬ G' 30 k = -1 → Inv TX G' T' → ∃ r s, hh (y1, y2, y3, c, y5 + 1, G') = some r ∧ kk (y1, y2, y3, c, y5 + 1, T') = some s ∧ SimP TX r s := fun c G' T' hk2 hI2 => ih (y1, y2, y3, c, y5 + 1, G') (y1, y2, y3, c, y5 + 1, T') ⟨rfl, rfl, rfl, by show 0 ≤ (y5 + 1).toInt; omega, by show (y5 + 1).toInt ≤ y3.toInt; omega, hk2, rfl, rfl, rfl, rfl, rfl, hI2⟩ (by show 20 - (y5 + 1).toInt.toNat < 20 - y5.toInt.toNat; omega)
          have no : ¬ (0 ≤ f.toInt ∧ f.toInt ≤ 99 ∧ 0 ≤ d.toInt ∧ d.toInt ≤ 9) → ∃ r s, x_X7_town_b174 N hh y1 y2 y3 y4 y5 G = some r ∧ ((if 0 ≤ f.toInt ∧ f.toInt ≤ 99 ∧ 0 ≤ d.toInt ∧ d.toInt ≤ 9 then some (T.1 4 f.toNatClampNeg, (up T.1 4 (upd (T.1 4) f.toNatClampNeg d), T.2)) else some (-100, T)).bind fun q18 => if q18.1.toInt < 0 then x_X8_town_b150 N kk y1 y2 y3 y5 0 y4 q18.2 else x_X8_town_b150 N kk y1 y2 y3 y5 1 y4 q18.2) = some s ∧ SimP TX r s := by
            intro hno
            rw [if_neg hno]
            simp only [Option.bind_some]
            rw [if_pos (by decide)]
            unfold x_X7_town_b174 x_X8_town_b150
            simp only [lt]
            rw [show y4 + 0 = y4 from Int32.add_zero y4]
            exact hnx y4 G T i6 hI
          by_cases t1 : 0 ≤ f.toInt ∧ f.toInt ≤ 99
          · rw [if_neg (fun z => z t1)]
            by_cases t2 : d.toInt < 0
            · rw [if_pos t2]; exact no (by omega)
            rw [if_neg t2]
            by_cases t3 : 9 < d.toInt
            · rw [if_pos t3]; exact no (by omega)
            rw [if_neg t3, if_pos (show inb f 100 = true from i_inb.mpr ⟨t1.1, by omega⟩), if_pos (show 0 ≤ f.toInt ∧ f.toInt ≤ 99 ∧ 0 ≤ d.toInt ∧ d.toInt ≤ 9 by omega)]
            have hp := o_set3 hI N f d
            have hf4 := hI.2.1 f.toNatClampNeg (by rw [i_nat]; omega)
            simp only [Option.bind_some]
            rw [if_neg (show ¬ (T.1 4 f.toNatClampNeg).toInt < 0 by rw [← hf4.1]; omega)]
            unfold x_X7_town_b174 x_X8_town_b150
            simp only [lt]
            refine hnx (y4 + 1) _ _ i6 ?_
            have hs2 : x_X7_set N 3 f d G = some (G 11 f.toNatClampNeg, up G 11 (upd (G 11) f.toNatClampNeg d)) := by
              rw [c_set3, c_told3]
              simp only [c_isFoot, Option.bind_some, b2_0, i_lt, i_le, Int32.reduceToInt]
              rw [if_neg t2, if_pos (show d.toInt ≤ 9 by omega), if_neg (fun z => z t1)]
              rw [if_pos (show inb f 100 = true from i_inb.mpr ⟨t1.1, by omega⟩)]
              simp only [Option.bind_some]
              rw [if_neg (by rw [i_eq]; simp only [Int32.reduceToInt]; omega), if_pos (show inb f 100 = true from i_inb.mpr ⟨t1.1, by omega⟩)]
            obtain ⟨r, G', T', z1, z2, z3⟩ := hp
            rw [hs2] at z1
            rw [m_put, if_pos (show 0 ≤ f.toInt ∧ f.toInt ≤ 99 ∧ 0 ≤ d.toInt ∧ d.toInt ≤ 9 by omega)] at z2
            have z4 := congrArg Prod.snd (Option.some.inj z1)
            have z5 := congrArg Prod.snd (Option.some.inj z2)
            have z4 : up G 11 (upd (G 11) f.toNatClampNeg d) = G' := z4
            have z5 : (up T.1 4 (upd (T.1 4) f.toNatClampNeg d), T.2) = T' := z5
            rw [z4, z5]
            exact z3
          · rw [if_pos t1]; exact no (fun z => t1 ⟨z.1, z.2.1⟩)
        · rw [if_neg d3, if_neg (show ¬ y2.toInt ≤ (G 31 k).toInt - 2 * y5.toInt - 2 by omega)]
          exact ⟨_, _, rfl, rfl, rfl, hI⟩
      · rw [if_neg hs, if_neg hs]; exact Sim.mk h
    · rw [if_neg c4, if_pos (show ¬ (0 ≤ a4.toInt ∧ a4.toInt ≤ 20) by omega)]; exact Sim.mk h
  · rw [if_pos h1, if_pos h1]; exact Sim.mk h
