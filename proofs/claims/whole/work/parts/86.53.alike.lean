/-! of how many feet a shoe says the same at most -/
def cv (kd nb rn : Nat → Int32) (P : Nat → Bool) (x : Nat) (v : Int) (n : Nat) : Nat := cn (fun f => P f && decide (Sy kd nb rn x f = v)) n
def mxq (h : Nat → Nat) : Nat → Nat
  | 0 => 0
  | n + 1 => max (mxq h n) (h n)
def AL (kd nb rn : Nat → Int32) (P : Nat → Bool) (x : Nat) : Nat := mxq (fun q => cv kd nb rn P x ((q : Int) - 2) 100) 5
theorem mxq_le {h : Nat → Nat} {b : Nat} (hb : ∀ q, h q ≤ b) : ∀ n, mxq h n ≤ b := by
  intro n
  induction n with
  | zero => exact Nat.zero_le _
  | succ n ih => exact Nat.max_le.mpr ⟨ih, hb n⟩
theorem AL_le (kd nb rn : Nat → Int32) (P : Nat → Bool) (x : Nat) : AL kd nb rn P x ≤ 100 := mxq_le (fun q => cn_le _ 100) 5
theorem AL_c {kd nb rn kd2 nb2 rn2 : Nat → Int32} {P Q : Nat → Bool} {x : Nat} (h : ∀ f : Nat, f < 100 → P f = Q f ∧ Sy kd nb rn x f = Sy kd2 nb2 rn2 x f) : AL kd nb rn P x = AL kd2 nb2 rn2 Q x := by
  unfold AL
  refine congrArg (fun z => mxq z 5) (funext (fun q => cn_c 100 (fun f hf => ?_)))
  rw [(h f hf).1, (h f hf).2]
theorem m_al3 {N : Nat} (hN : 200 < N) {T : SM} {h : Nat → Nat} (hb : ∀ q, h q ≤ 100) (ht : ∀ q : Nat, q < 5 → (T.1 11 q).toInt = h q) : lp (x_X8_alikeOf_B73 N) N (0, 0, T) = some (Int32.ofInt (mxq h 5), T) := by
  obtain ⟨r, e, e2⟩ := lp_tot (F := x_X8_alikeOf_B73 N) (fun x => 6 - x.2.1.toInt.toNat) (fun x => 0 ≤ x.2.1.toInt ∧ x.2.1.toInt ≤ 5 ∧ x.1.toInt = mxq h x.2.1.toInt.toNat ∧ x.2.2 = T) (fun _ r => r = (Int32.ofInt (mxq h 5), T)) (by
    intro hh ⟨m, i, U⟩ ⟨j1, j2, j3, j4⟩ ih
    have i1 : 0 ≤ i.toInt := j1
    have i2 : i.toInt ≤ 5 := j2
    have i3 : m.toInt = mxq h i.toInt.toNat := j3
    have i4 : U = T := j4
    clear j1 j2 j3 j4
    subst i4
    unfold x_X8_alikeOf_B73
    simp only [i_le, Int32.reduceToInt]
    by_cases c1 : 5 ≤ i.toInt
    · rw [if_pos c1]
      refine ⟨_, rfl, ?_⟩
      rw [show i.toInt.toNat = 5 by omega] at i3
      rw [eq_of i3]
    · have e1 := inc1 (x := i) (by omega)
      have b5 : inb i 5 = true := i_inb.mpr ⟨by omega, by omega⟩
      rw [if_neg c1, if_pos b5, if_pos b5, i_nat]
      have hq := ht i.toInt.toNat (by omega)
      have go : ∀ t : Int32, t.toInt = max (mxq h i.toInt.toNat) (h i.toInt.toNat) → ∃ r, x_X8_alikeOf_b98 N hh i t U = some r ∧ r = (Int32.ofInt (mxq h 5), U) := by
        intro t et
        unfold x_X8_alikeOf_b98
        simp only [lt]
        refine ih (t, i + 1, U) ⟨by show 0 ≤ (i + 1).toInt; omega, by show (i + 1).toInt ≤ 5; omega, ?_, rfl⟩ (by show 6 - (i + 1).toInt.toNat < 6 - i.toInt.toNat; omega)
        show t.toInt = mxq h (i + 1).toInt.toNat
        rw [show (i + 1).toInt.toNat = i.toInt.toNat + 1 by omega, et]
        show _ = ((max (mxq h i.toInt.toNat) (h i.toInt.toNat) : Nat) : Int)
        omega
      by_cases c2 : (U.1 11 i.toInt.toNat).toInt ≤ m.toInt
      · rw [if_pos c2]; exact go m (by omega)
      · rw [if_neg c2]; exact go _ (by omega)) N (0, 0, T) ⟨Int.le_refl 0, by show (0 : Int32).toInt ≤ 5; decide, rfl, rfl⟩ (by show 6 - _ < N; omega)
  rw [e, e2]
theorem m_al2 {N : Nat} (hN : 200 < N) {kd nb rn : Nat → Int32} {P : Nat → Bool} {T : SM} {a : Int32} (ha : 0 ≤ a.toInt ∧ a.toInt < 100) (h10 : ∀ f : Nat, f < 100 → T.1 10 f = b2 (P f = true)) (h9 : ∀ f : Nat, f < 100 → T.1 9 (100 * a.toInt.toNat + f) = Int32.ofInt (Sy kd nb rn a.toInt.toNat f)) (h11 : ∀ q : Nat, q < 5 → T.1 11 q = 0) : ∃ U, lp (x_X8_alikeOf_B22 N) N (a, 0, T) = some (Int32.ofInt (AL kd nb rn P a.toInt.toNat), U) ∧ ∀ j, j ≠ 11 → U.1 j = T.1 j := by
  obtain ⟨r, e, e2, e3⟩ := lp_tot (F := x_X8_alikeOf_B22 N) (fun x => 101 - x.2.1.toInt.toNat) (fun x => x.1 = a ∧ 0 ≤ x.2.1.toInt ∧ x.2.1.toInt ≤ 100 ∧ (∀ j, j ≠ 11 → x.2.2.1 j = T.1 j) ∧ ∀ q : Nat, q < 5 → (x.2.2.1 11 q).toInt = cv kd nb rn P a.toInt.toNat ((q : Int) - 2) x.2.1.toInt.toNat) (fun _ r => r.1 = Int32.ofInt (AL kd nb rn P a.toInt.toNat) ∧ ∀ j, j ≠ 11 → r.2.1 j = T.1 j) (by
    intro hh ⟨y1, f, U⟩ ⟨j1, j2, j3, j4, j5⟩ ih
    have i1 : y1 = a := j1
    have i2 : 0 ≤ f.toInt := j2
    have i3 : f.toInt ≤ 100 := j3
    have i4 : ∀ j, j ≠ 11 → U.1 j = T.1 j := j4
    have i5 : ∀ q : Nat, q < 5 → (U.1 11 q).toInt = cv kd nb rn P a.toInt.toNat ((q : Int) - 2) f.toInt.toNat := j5
    clear j1 j2 j3 j4 j5
    subst i1
    unfold x_X8_alikeOf_B22
    simp only [i_le, Int32.reduceToInt]
    by_cases c1 : 100 ≤ f.toInt
    · rw [if_pos c1]
      rw [show f.toInt.toNat = 100 by omega] at i5
      rw [m_al3 hN (h := fun q => cv kd nb rn P y1.toInt.toNat ((q : Int) - 2) 100) (fun q => cn_le _ 100) i5]
      exact ⟨_, rfl, rfl, i4⟩
    · have e1 := inc1 (x := f) (by omega)
      have f1 : (100 * y1).toInt = 100 * y1.toInt := mul_l (by decide) rfl (by omega)
      have f2 : (100 * y1 + f).toInt = 100 * y1.toInt + f.toInt := by rw [i_add, f1] <;> omega
      have n2 : (100 * y1 + f).toNatClampNeg = 100 * y1.toInt.toNat + f.toInt.toNat := by rw [i_nat, f2]; omega
      rw [if_neg c1, if_pos (show inb (100 * y1 + f) 10000 = true from i_inb.mpr ⟨by omega, by omega⟩), n2, i4 9 (by omega), h9 _ (by omega), i_nat, i4 10 (by omega), h10 _ (by omega)]
      have sb := sy_b (kd (y1.toInt.toNat / 20)).toInt (nb (y1.toInt.toNat / 20)).toInt (Ln kd nb rn y1.toInt.toNat - (f.toInt.toNat : Nat))
      have sb : -2 ≤ Sy kd nb rn y1.toInt.toNat (f.toInt.toNat : Nat) ∧ Sy kd nb rn y1.toInt.toNat (f.toInt.toNat : Nat) ≤ 2 := sb
      have hS : ∀ (q : Nat), cv kd nb rn P y1.toInt.toNat ((q : Int) - 2) (f.toInt.toNat + 1) = cv kd nb rn P y1.toInt.toNat ((q : Int) - 2) f.toInt.toNat + (if (P f.toInt.toNat && decide (Sy kd nb rn y1.toInt.toNat (f.toInt.toNat : Nat) = (q : Int) - 2)) = true then 1 else 0) := fun q => rfl
      generalize Sy kd nb rn y1.toInt.toNat (f.toInt.toNat : Nat) = s at sb hS ⊢
      have es : (Int32.ofInt s).toInt = s := of_i (by omega) (by omega)
      have es2 : (Int32.ofInt s + 2).toInt = s + 2 := add_l es (by decide) (by omega)
      have n3 : (Int32.ofInt s + 2).toNatClampNeg = (s + 2).toNat := by rw [i_nat, es2]
      have b5 : inb (Int32.ofInt s + 2) 5 = true := i_inb.mpr ⟨by omega, by omega⟩
      rw [if_pos b5, if_pos (show inb f 100 = true from i_inb.mpr ⟨by omega, by omega⟩), n3]
      simp only [b2_0]
      have go : ∀ t : Int32, t.toInt = (if P f.toInt.toNat then 1 else 0) → ∃ r, x_X8_alikeOf_b61 N hh y1 f t (U.1 11 (s + 2).toNat) (Int32.ofInt s + 2) U = some r ∧ r.1 = Int32.ofInt (AL kd nb rn P y1.toInt.toNat) ∧ ∀ j, j ≠ 11 → r.2.1 j = T.1 j := by
        intro t et
        unfold x_X8_alikeOf_b61
        rw [if_pos b5, n3]
        simp only [lt]
        refine ih (y1, f + 1, _) ⟨rfl, by show 0 ≤ (f + 1).toInt; omega, by show (f + 1).toInt ≤ 100; omega, fun j hj => ?_, fun q hq => ?_⟩ (by show 101 - (f + 1).toInt.toNat < 101 - f.toInt.toNat; omega)
        · show up U.1 11 _ j = _
          rw [up_n _ _ hj]; exact i4 j hj
        · show (upd (U.1 11) (s + 2).toNat (U.1 11 (s + 2).toNat + t) q).toInt = cv kd nb rn P y1.toInt.toNat ((q : Int) - 2) (f + 1).toInt.toNat
          rw [show (f + 1).toInt.toNat = f.toInt.toNat + 1 by omega, hS]
          have h5 := i5 q hq
          have hl : cv kd nb rn P y1.toInt.toNat ((q : Int) - 2) f.toInt.toNat ≤ f.toInt.toNat := cn_le _ _
          by_cases c2 : q = (s + 2).toNat
          · rw [← c2, upd_s]
            have hd : decide (s = (q : Int) - 2) = true := decide_eq_true (by omega)
            rw [hd, Bool.and_true, i_add, h5, et]
            · by_cases c3 : P f.toInt.toNat = true
              · rw [if_pos c3, if_pos c3]; omega
              · rw [if_neg c3, if_neg c3]; omega
            · rw [et, h5]; split <;> omega
            · rw [et, h5]; split <;> omega
          · rw [upd_n _ _ c2, h5]
            have hd : decide (s = (q : Int) - 2) = false := decide_eq_false (by omega)
            rw [hd, Bool.and_false, if_neg (by decide)]
            rfl
      by_cases c3 : P f.toInt.toNat = true
      · rw [if_neg (fun z => z c3)]; exact go 1 (by rw [if_pos c3]; rfl)
      · rw [if_pos c3]; exact go 0 (by rw [if_neg c3]; rfl)) N (a, 0, T) ⟨rfl, Int.le_refl 0, by show (0 : Int32).toInt ≤ 100; decide, fun _ _ => rfl, fun q hq => by show (T.1 11 q).toInt = _; rw [h11 q hq]; rfl⟩ (by show 101 - _ < N; omega)
  obtain ⟨v, U⟩ := r
  have e2 : v = Int32.ofInt (AL kd nb rn P a.toInt.toNat) := e2
  subst e2
  exact ⟨U, e, e3⟩
theorem m_alikeOf {N : Nat} (hN : 200 < N) {kd nb rn : Nat → Int32} {P : Nat → Bool} {S : SM} {a : Int32} (ha : 0 ≤ a.toInt ∧ a.toInt < 100) (h10 : ∀ f : Nat, f < 100 → S.1 10 f = b2 (P f = true)) (h9 : ∀ f : Nat, f < 100 → S.1 9 (100 * a.toInt.toNat + f) = Int32.ofInt (Sy kd nb rn a.toInt.toNat f)) : ∃ U, x_X8_alikeOf N a S = some (Int32.ofInt (AL kd nb rn P a.toInt.toNat), U) ∧ ∀ j, j ≠ 11 → U.1 j = S.1 j := by
  unfold x_X8_alikeOf
  obtain ⟨r, e, e2, e3⟩ := lp_tot (F := x_X8_alikeOf_B2 N) (fun x => 6 - x.2.1.toInt.toNat) (fun x => x.1 = a ∧ 0 ≤ x.2.1.toInt ∧ x.2.1.toInt ≤ 5 ∧ (∀ j, j ≠ 11 → x.2.2.1 j = S.1 j) ∧ ∀ q : Nat, q < x.2.1.toInt.toNat → x.2.2.1 11 q = 0) (fun _ r => r.1 = Int32.ofInt (AL kd nb rn P a.toInt.toNat) ∧ ∀ j, j ≠ 11 → r.2.1 j = S.1 j) (by
    intro hh ⟨y1, i, U⟩ ⟨j1, j2, j3, j4, j5⟩ ih
    have i1 : y1 = a := j1
    have i2 : 0 ≤ i.toInt := j2
    have i3 : i.toInt ≤ 5 := j3
    have i4 : ∀ j, j ≠ 11 → U.1 j = S.1 j := j4
    have i5 : ∀ q : Nat, q < i.toInt.toNat → U.1 11 q = 0 := j5
    clear j1 j2 j3 j4 j5
    subst i1
    unfold x_X8_alikeOf_B2
    simp only [i_le, Int32.reduceToInt]
    by_cases c1 : 5 ≤ i.toInt
    · rw [if_pos c1]
      obtain ⟨V, v1, v2⟩ := m_al2 hN (P := P) (kd := kd) (nb := nb) (rn := rn) (T := U) ha (by rw [i4 10 (by omega)]; exact h10) (by rw [i4 9 (by omega)]; exact h9) (fun q hq => i5 q (by omega))
      exact ⟨_, v1, rfl, fun j hj => (v2 j hj).trans (i4 j hj)⟩
    · have e1 := inc1 (x := i) (by omega)
      rw [if_neg c1, if_pos (show inb i 5 = true from i_inb.mpr ⟨by omega, by omega⟩)]
      simp only [lt]
      refine ih (y1, i + 1, _) ⟨rfl, by show 0 ≤ (i + 1).toInt; omega, by show (i + 1).toInt ≤ 5; omega, fun j hj => ?_, fun q hq => ?_⟩ (by show 6 - (i + 1).toInt.toNat < 6 - i.toInt.toNat; omega)
      · show up U.1 11 _ j = _
        rw [up_n _ _ hj]; exact i4 j hj
      · have hq : q < (i + 1).toInt.toNat := hq
        show upd (U.1 11) i.toNatClampNeg 0 q = 0
        by_cases c2 : q = i.toNatClampNeg
        · rw [c2, upd_s]
        · rw [upd_n _ _ c2]
          rw [i_nat] at c2
          exact i5 q (by omega)) N (a, 0, S) ⟨rfl, Int.le_refl 0, by show (0 : Int32).toInt ≤ 5; decide, fun _ _ => rfl, fun q hq => absurd hq (Nat.not_lt_zero q)⟩ (by show 6 - _ < N; omega)
  obtain ⟨v, U⟩ := r
  have e2 : v = Int32.ofInt (AL kd nb rn P a.toInt.toNat) := e2
  subst e2
  exact ⟨U, e, e3⟩
