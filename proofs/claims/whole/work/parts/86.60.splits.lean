/-- what a call of splits does -/
def SpOK (N : Nat) (kd nb rn sk : Nat → Int32) (n d e : Nat) : Prop := ∀ (w gone : Int32) (S : SM) (P : Nat → Bool), Bs kd nb rn sk n S → gone.toInt = 20 - d → (∀ f : Nat, f < 100 → (S.1 13 f = w ↔ P f = true)) → 0 ≤ w.toInt → w.toInt < (S.1 0 37).toInt → (∀ f : Nat, f < 100 → (S.1 13 f).toInt < (S.1 0 37).toInt) → (S.1 0 37).toInt + 5 * ((d * cn P 100 : Nat) : Int) ≤ 20000 → (∀ f : Nat, f < 100 → P f = true → S.1 12 f = -1) → ∃ T, gr_S N e 0 w gone 0 S = some T ∧ Fr S T ∧ (∀ f : Nat, f < 100 → P f = true → T.1 12 f = Int32.ofInt (GO kd nb rn sk n d P f) ∧ ((T.1 13 f).toInt < 0 ∨ T.1 13 f = w ∨ (S.1 0 37).toInt ≤ (T.1 13 f).toInt)) ∧ (∀ f : Nat, f < 100 → P f = false → T.1 12 f = S.1 12 f ∧ T.1 13 f = S.1 13 f) ∧ (∀ f : Nat, f < 100 → (T.1 13 f).toInt < (T.1 0 37).toInt) ∧ (S.1 0 37).toInt ≤ (T.1 0 37).toInt ∧ (T.1 0 37).toInt ≤ (S.1 0 37).toInt + 5 * ((d * cn P 100 : Nat) : Int)
def Pv (kd nb rn : Nat → Int32) (P : Nat → Bool) (x : Nat) (v : Int) : Nat → Bool := fun q => P q && decide (Sy kd nb rn x q = v)
def Pk (kd nb rn : Nat → Int32) (P : Nat → Bool) (x : Nat) (k : Nat) : Nat → Bool := fun q => P q && decide (Sy kd nb rn x q + 2 < k)
/-- the feet of a splits, k groups gone through -/
def Ph (kd nb rn sk : Nat → Int32) (n d : Nat) (P : Nat → Bool) (x : Nat) (first : Int) (g1 : Int32) (S : SM) (k : Nat) (V : SM) : Prop := Fr S V ∧ (∀ f : Nat, f < 100 → P f = false → V.1 12 f = S.1 12 f ∧ V.1 13 f = S.1 13 f) ∧ (∀ f : Nat, f < 100 → P f = true → (Sy kd nb rn x f = 0 → V.1 12 f = g1 ∧ (V.1 13 f).toInt = -1) ∧ (¬ Sy kd nb rn x f = 0 → Sy kd nb rn x f + 2 < k → V.1 12 f = Int32.ofInt (GO kd nb rn sk n d (Pv kd nb rn P x (Sy kd nb rn x f)) f) ∧ ((V.1 13 f).toInt < 0 ∨ (V.1 13 f).toInt = first + Sy kd nb rn x f + 2 ∨ first + 5 ≤ (V.1 13 f).toInt)) ∧ (¬ Sy kd nb rn x f = 0 → (k : Int) ≤ Sy kd nb rn x f + 2 → V.1 12 f = -1 ∧ (V.1 13 f).toInt = first + Sy kd nb rn x f + 2)) ∧ (∀ f : Nat, f < 100 → (V.1 13 f).toInt < (V.1 0 37).toInt) ∧ first + 5 ≤ (V.1 0 37).toInt ∧ (V.1 0 37).toInt ≤ first + 5 + 5 * ((d * cn (Pk kd nb rn P x k) 100 : Nat) : Int)
theorem cn_or {P Q R : Nat → Bool} : ∀ n, (∀ i, i < n → (R i = true ↔ P i = true ∨ Q i = true) ∧ ¬ (P i = true ∧ Q i = true)) → cn R n = cn P n + cn Q n := by
  intro n
  induction n with
  | zero => intro _; rfl
  | succ n ih =>
    intro h
    have e := ih (fun i hi => h i (by omega))
    obtain ⟨h1, h2⟩ := h n (by omega)
    show cn R n + (if R n then 1 else 0) = (cn P n + (if P n then 1 else 0)) + (cn Q n + (if Q n then 1 else 0))
    rw [e]
    by_cases hp : P n = true
    · have hq : ¬ Q n = true := fun z => h2 ⟨hp, z⟩
      rw [if_pos (h1.mpr (Or.inl hp)), if_pos hp, if_neg hq]; omega
    · by_cases hq : Q n = true
      · rw [if_pos (h1.mpr (Or.inr hq)), if_neg hp, if_pos hq]; omega
      · rw [if_neg (fun z => (h1.mp z).elim hp hq), if_neg hp, if_neg hq]; rfl
theorem cn_Pk (kd nb rn : Nat → Int32) (P : Nat → Bool) (x k : Nat) : cn (Pk kd nb rn P x (k + 1)) 100 = cn (Pk kd nb rn P x k) 100 + cn (Pv kd nb rn P x ((k : Int) - 2)) 100 := by
  refine cn_or 100 (fun i hi => ?_)
  unfold Pk Pv
  rw [Bool.and_eq_true, Bool.and_eq_true, Bool.and_eq_true, decide_eq_true_eq, decide_eq_true_eq, decide_eq_true_eq]
  constructor
  · constructor
    · rintro ⟨h1, h2⟩
      by_cases c : Sy kd nb rn x i + 2 < k
      · exact Or.inl ⟨h1, c⟩
      · exact Or.inr ⟨h1, by omega⟩
    · rintro (⟨h1, h2⟩ | ⟨h1, h2⟩)
      · exact ⟨h1, by omega⟩
      · exact ⟨h1, by omega⟩
  · rintro ⟨⟨_, h1⟩, ⟨_, h2⟩⟩
    omega
theorem Ph_skip {kd nb rn sk : Nat → Int32} {n d x k : Nat} {P : Nat → Bool} {first : Int} {g1 : Int32} {S V : SM} (h : Ph kd nb rn sk n d P x first g1 S k V) (hno : ∀ f : Nat, f < 100 → P f = true → ¬ Sy kd nb rn x f = 0 → ¬ Sy kd nb rn x f + 2 = k) : Ph kd nb rn sk n d P x first g1 S (k + 1) V := by
  obtain ⟨h1, h2, h3, h4, h5, h6⟩ := h
  refine ⟨h1, h2, fun f hf hp => ?_, h4, h5, ?_⟩
  · obtain ⟨a1, a2, a3⟩ := h3 f hf hp
    have hn := hno f hf hp
    exact ⟨a1, fun z c => a2 z (by have := hn z; omega), fun z c => a3 z (by omega)⟩
  · rw [cn_Pk, Nat.mul_add]
    omega
theorem m_three {N : Nat} (hN : 200 < N) {kd nb rn sk : Nat → Int32} {n d e x : Nat} {P : Nat → Bool} {first g1 gone : Int32} {S : SM} (ok : SpOK N kd nb rn sk n d e) (hB : Bs kd nb rn sk n S) (hg : gone.toInt = 20 - ((d + 1 : Nat) : Int)) (hg1 : g1 = gone + 1) (h0 : 0 ≤ first.toInt) (hS : ∀ f : Nat, f < 100 → (S.1 13 f).toInt < first.toInt) (hb : first.toInt + 5 + 5 * ((d * cn P 100 : Nat) : Int) ≤ 20000) {V : SM} (hV : Ph kd nb rn sk n d P x first.toInt g1 S 0 V) : ∃ T, lp (x_X8_splits_B155 N (gr_S N e)) N (gone, first, 0, V) = some T ∧ Ph kd nb rn sk n d P x first.toInt g1 S 5 T := by
  refine lp_tot (F := x_X8_splits_B155 N (gr_S N e)) (fun y => 6 - y.2.2.1.toInt.toNat) (fun y => y.1 = gone ∧ y.2.1 = first ∧ 0 ≤ y.2.2.1.toInt ∧ y.2.2.1.toInt ≤ 5 ∧ Ph kd nb rn sk n d P x first.toInt g1 S y.2.2.1.toInt.toNat y.2.2.2) (fun _ T => Ph kd nb rn sk n d P x first.toInt g1 S 5 T) ?_ N (gone, first, 0, V) ⟨rfl, rfl, Int.le_refl 0, by show (0 : Int32).toInt ≤ 5; decide, hV⟩ (by show 6 - _ < N; omega)
  intro hh ⟨y1, y2, k, U⟩ ⟨j1, j2, j3, j4, j5⟩ ih
  have i1 : y1 = gone := j1
  have i2 : y2 = first := j2
  have i3 : 0 ≤ k.toInt := j3
  have i4 : k.toInt ≤ 5 := j4
  have i5 : Ph kd nb rn sk n d P x first.toInt g1 S k.toInt.toNat U := j5
  clear j1 j2 j3 j4 j5
  subst i1; subst i2
  unfold x_X8_splits_B155
  simp only [i_le, Int32.reduceToInt]
  by_cases c1 : 5 ≤ k.toInt
  · rw [if_pos c1]
    refine ⟨_, rfl, ?_⟩
    rw [show k.toInt.toNat = 5 by omega] at i5
    exact i5
  · have e1 := inc1 (x := k) (by omega)
    rw [if_neg c1]
    have go : ∀ U' : SM, Ph kd nb rn sk n d P x y2.toInt g1 S (k.toInt.toNat + 1) U' → ∃ r, x_X8_splits_b191 N (gr_S N e) hh y1 y2 k U' = some r ∧ Ph kd nb rn sk n d P x y2.toInt g1 S 5 r := by
      intro U' hU
      unfold x_X8_splits_b191
      simp only [lt]
      refine ih (y1, y2, k + 1, U') ⟨rfl, rfl, by show 0 ≤ (k + 1).toInt; omega, by show (k + 1).toInt ≤ 5; omega, ?_⟩ (by show 6 - (k + 1).toInt.toNat < 6 - k.toInt.toNat; omega)
      show Ph kd nb rn sk n d P x y2.toInt g1 S (k + 1).toInt.toNat U'
      rw [show (k + 1).toInt.toNat = k.toInt.toNat + 1 by omega]; exact hU
    by_cases c2 : k = 2
    · rw [if_pos c2]
      have c2 : k.toInt = 2 := by rw [c2]; decide
      exact go U (Ph_skip i5 (fun f hf hp hz => by omega))
    · rw [if_neg c2, m_hasAny hN]
      simp only [Option.bind_some, b2_0]
      have c2 : ¬ k.toInt = 2 := fun z => c2 (i_eq.mpr z)
      obtain ⟨a1, a2, a3, a4, a5, a6⟩ := id i5
      have ec := cn_Pk kd nb rn P x k.toInt.toNat
      have el := (cn_sub (P := P) (Q := Pk kd nb rn P x (k.toInt.toNat + 1)) 100 (fun i hi hq => by unfold Pk at hq; rw [Bool.and_eq_true] at hq; exact hq.1)).1
      have em := Nat.mul_le_mul_left d el
      rw [ec, Nat.mul_add] at em
      have ew : (y2 + k).toInt = y2.toInt + k.toInt := by rw [i_add] <;> omega
      have kk : ((k.toInt.toNat : Nat) : Int) = k.toInt := by omega
      -- who is of this group
      have who : ∀ f : Nat, f < 100 → (U.1 13 f = y2 + k ↔ Pv kd nb rn P x ((k.toInt.toNat : Int) - 2) f = true) := by
        intro f hf
        unfold Pv
        rw [i_eq, ew, Bool.and_eq_true, decide_eq_true_eq]
        have sb : -2 ≤ Sy kd nb rn x f ∧ Sy kd nb rn x f ≤ 2 := sy_b _ _ _
        by_cases hp : P f = true
        · obtain ⟨p1, p2, p3⟩ := a3 f hf hp
          by_cases z : Sy kd nb rn x f = 0
          · have := (p1 z).2
            exact ⟨fun q => by omega, fun q => by omega⟩
          · by_cases c : Sy kd nb rn x f + 2 < k.toInt.toNat
            · have := (p2 z c).2
              exact ⟨fun q => by omega, fun q => by omega⟩
            · have := (p3 z (by omega)).2
              exact ⟨fun q => ⟨hp, by omega⟩, fun q => by omega⟩
        · have hp' : P f = false := Bool.eq_false_iff.mpr hp
          rw [(a2 f hf hp').2]
          have := hS f hf
          exact ⟨fun q => by omega, fun q => absurd q.1 hp⟩
      by_cases c3 : an (fun f => decide (U.1 13 f = y2 + k)) 100 = true
      · rw [if_neg (fun z => z c3)]
        have eg : (y1 + 1).toInt = 20 - (d : Int) := by rw [inc1 (by omega), hg]; omega
        obtain ⟨T, t1, t2, t3, t4, t5, t6, t7⟩ := ok (y2 + k) (y1 + 1) U (Pv kd nb rn P x ((k.toInt.toNat : Int) - 2)) (Bs_f hB a1) eg who (by omega) (by omega) a4 (by omega) (fun f hf hq => by
          have sb : -2 ≤ Sy kd nb rn x f ∧ Sy kd nb rn x f ≤ 2 := sy_b _ _ _
          unfold Pv at hq
          rw [Bool.and_eq_true, decide_eq_true_eq] at hq
          exact ((a3 f hf hq.1).2.2 (by omega) (by omega)).1)
        rw [t1]
        simp only [Option.bind_some]
        refine go T ⟨Fr_t a1 t2, fun f hf hp => ?_, fun f hf hp => ?_, t5, by omega, ?_⟩
        · have hq : Pv kd nb rn P x ((k.toInt.toNat : Int) - 2) f = false := by unfold Pv; rw [hp, Bool.false_and]
          obtain ⟨u1, u2⟩ := t4 f hf hq
          obtain ⟨u3, u4⟩ := a2 f hf hp
          exact ⟨u1.trans u3, u2.trans u4⟩
        · have sb : -2 ≤ Sy kd nb rn x f ∧ Sy kd nb rn x f ≤ 2 := sy_b _ _ _
          obtain ⟨p1, p2, p3⟩ := a3 f hf hp
          by_cases cv : Sy kd nb rn x f = (k.toInt.toNat : Int) - 2
          · have hq : Pv kd nb rn P x ((k.toInt.toNat : Int) - 2) f = true := by unfold Pv; rw [hp, Bool.true_and]; exact decide_eq_true cv
            obtain ⟨u1, u2⟩ := t3 f hf hq
            refine ⟨fun z => by omega, fun z c => ⟨by rw [cv]; exact u1, ?_⟩, fun z c => by omega⟩
            rcases u2 with u2 | u2 | u2
            · exact Or.inl u2
            · exact Or.inr (Or.inl (by rw [u2, ew]; omega))
            · exact Or.inr (Or.inr (by omega))
          · have hq : Pv kd nb rn P x ((k.toInt.toNat : Int) - 2) f = false := by unfold Pv; rw [decide_eq_false cv, Bool.and_false]
            obtain ⟨u1, u2⟩ := t4 f hf hq
            rw [u1, u2]
            exact ⟨p1, fun z c => p2 z (by omega), fun z c => p3 z (by omega)⟩
        · rw [ec, Nat.mul_add]
          omega
      · rw [if_pos c3]
        refine go U (Ph_skip i5 (fun f hf hp hz he => c3 ((an_iff 100).mpr ⟨f, hf, decide_eq_true ((who f hf).mpr ?_)⟩)))
        unfold Pv
        rw [hp, Bool.true_and]
        exact decide_eq_true (by omega)
