/-- all below -/
def al (P : Nat → Bool) : Nat → Bool
  | 0 => true
  | n + 1 => al P n && P n
theorem al_iff {P : Nat → Bool} : ∀ n, al P n = true ↔ ∀ i, i < n → P i = true := by
  intro n
  induction n with
  | zero => exact ⟨fun _ i h => absurd h (Nat.not_lt_zero i), fun _ => rfl⟩
  | succ n ih =>
    unfold al
    rw [Bool.and_eq_true, ih]
    constructor
    · rintro ⟨h1, h2⟩ i hi
      by_cases e : i = n
      · subst e; exact h2
      · exact h1 i (by omega)
    · intro h
      exact ⟨fun i hi => h i (by omega), h n (by omega)⟩
theorem al_c {P Q : Nat → Bool} (n : Nat) (h : ∀ i, i < n → P i = Q i) : al P n = al Q n := by
  refine Bool.eq_iff_iff.mpr ?_
  rw [al_iff, al_iff]
  exact ⟨fun w i hi => by rw [← h i hi]; exact w i hi, fun w i hi => by rw [h i hi]; exact w i hi⟩
theorem al_no {P : Nat → Bool} {p n : Nat} (hp : p < n) (h : P p = false) : al P n = false := by
  rw [Bool.eq_false_iff, ne_eq, al_iff]
  exact fun w => by have := w p hp; rw [h] at this; cases this
theorem Sy_i {kd nb rn : Nat → Int32} {x : Nat} {f : Int} (v : Int32) : Int32.ofInt (Sy kd nb rn x f) = v ↔ Sy kd nb rn x f = v.toInt := by
  have sb := sy_b (kd (x / 20)).toInt (nb (x / 20)).toInt (Ln kd nb rn x - f)
  have es : (Int32.ofInt (Sy kd nb rn x f)).toInt = Sy kd nb rn x f := of_i (by show _ ≤ sy _ _ _; omega) (by show sy _ _ _ ≤ _; omega)
  rw [i_eq, es]
/-- a row holds -/
def rwo (kd nb rn C D : Nat → Int32) (M f : Int32) (p : Nat) : Bool := !decide (M = -1 ∨ C p / 20 = M) || decide (Sy kd nb rn (C p).toInt.toNat f.toInt = (D p).toInt)
theorem m_isSo {N : Nat} (hN : 200 < N) {a f M : Int32} {S : SM} {mk : Int} {m k : Nat} {C D : Nat → Int32} (h : Rg (S.1 5) (S.1 6) (S.1 7) mk) (hmk : mk ≤ 5) (ha : 0 ≤ a.toInt ∧ a.toInt ≤ 3) (hk : k = a.toInt.toNat) (hs : (S.1 20 k).toInt = 2 * m) (hm : m ≤ 20) (hC : ∀ p, p < m → S.1 21 (40 * k + 2 * p) = C p ∧ S.1 21 (40 * k + (2 * p + 1)) = D p ∧ 0 ≤ (C p).toInt ∧ (C p).toInt < 20 * mk) (hf : 0 ≤ f.toInt ∧ f.toInt ≤ 99) : x_X8_isSo N a f M S = some (b2 (al (rwo (S.1 5) (S.1 6) (S.1 7) C D M f) m = true), S) := by
  obtain ⟨P, hP⟩ : ∃ P, P = rwo (S.1 5) (S.1 6) (S.1 7) C D M f := ⟨_, rfl⟩
  rw [← hP]
  have b4 : inb a 4 = true := i_inb.mpr ⟨ha.1, by omega⟩
  have hk' : a.toNatClampNeg = k := by rw [i_nat, hk]
  unfold x_X8_isSo
  obtain ⟨r, e, e2⟩ := lp_tot (F := x_X8_isSo_B3 N) (fun x => 50 - x.2.2.2.1.toInt.toNat) (fun x => x.1 = a ∧ x.2.1 = f ∧ x.2.2.1 = M ∧ x.2.2.2.2 = S ∧ ∃ p : Nat, x.2.2.2.1.toInt = 2 * p ∧ p ≤ m ∧ al P p = true) (fun _ r => r = (b2 (al P m = true), S)) (by
    intro h3 ⟨y1, y2, y3, i, T⟩ ⟨j1, j2, j3, j4, p, j5, j6, j7⟩ ih
    have i1 : y1 = a := j1
    have i2 : y2 = f := j2
    have i3 : y3 = M := j3
    have i4 : T = S := j4
    have i5 : i.toInt = 2 * p := j5
    clear j1 j2 j3 j4 j5
    subst i1; subst i2; subst i3; subst i4
    unfold x_X8_isSo_B3
    simp only [i_le, b4, if_true, hk']
    by_cases c2 : p = m
    · rw [if_pos (by omega)]
      subst c2
      refine ⟨_, rfl, ?_⟩
      rw [j7]; rfl
    · rw [if_neg (show ¬ (T.1 20 k).toInt ≤ i.toInt by omega)]
      obtain ⟨q1, q2, q3, q4⟩ := hC p (by omega)
      have e2 := s40 ha (b := i) (by omega)
      have e3 : (40 * y1 + i + 1).toInt = 40 * y1.toInt + i.toInt + 1 := add_l e2 (by decide) (by omega)
      have n2 : (40 * y1 + i).toNatClampNeg = 40 * k + 2 * p := by rw [i_nat, e2]; omega
      have n3 : (40 * y1 + i + 1).toNatClampNeg = 40 * k + (2 * p + 1) := by rw [i_nat, e3]; omega
      rw [if_pos (show inb (40 * y1 + i) 160 = true from i_inb.mpr ⟨by omega, by omega⟩)]
      simp only [lt, n2, q1]
      have go : P p = true → ∃ r, x_X8_isSo_b68 N h3 y1 y2 y3 i T = some r ∧ r = (b2 (al P m = true), T) := by
        intro hp
        unfold x_X8_isSo_b68
        simp only [lt]
        have e5 : (i + 2).toInt = i.toInt + 2 := add_l rfl (by decide) (by omega)
        refine ih (y1, y2, y3, i + 2, T) ⟨rfl, rfl, rfl, rfl, p + 1, by show (i + 2).toInt = _; omega, by omega, ?_⟩ (by show 50 - (i + 2).toInt.toNat < 50 - i.toInt.toNat; omega)
        show (al P p && P p) = true
        rw [j7, hp]; rfl
      have look : (y3 = -1 ∨ C p / 20 = y3) → ∃ r, x_X8_isSo_b42 N h3 y1 y2 y3 i (C p) T = some r ∧ r = (b2 (al P m = true), T) := by
        intro hM
        have eP : P p = decide (Sy (T.1 5) (T.1 6) (T.1 7) (C p).toInt.toNat y2.toInt = (D p).toInt) := by
          rw [hP]
          unfold rwo
          rw [decide_eq_true hM]; rfl
        unfold x_X8_isSo_b42
        rw [m_saysOf h hmk ⟨q3, q4⟩ hf]
        simp only [Option.bind_some]
        rw [if_pos (show inb (40 * y1 + i + 1) 160 = true from i_inb.mpr ⟨by omega, by omega⟩), n3, q2]
        by_cases c3 : Sy (T.1 5) (T.1 6) (T.1 7) (C p).toInt.toNat y2.toInt = (D p).toInt
        · rw [if_pos ((Sy_i _).mpr c3)]
          exact go (by rw [eP]; exact decide_eq_true c3)
        · rw [if_neg (fun z => c3 ((Sy_i _).mp z))]
          refine ⟨_, rfl, ?_⟩
          rw [al_no (show p < m by omega) (show P p = false by rw [eP]; exact decide_eq_false c3)]; rfl
      by_cases c4 : y3 = -1
      · rw [if_pos c4]; exact look (Or.inl c4)
      · rw [if_neg c4]
        by_cases c5 : C p / 20 = y3
        · rw [if_pos c5]; exact look (Or.inr c5)
        · rw [if_neg c5]
          refine go ?_
          rw [hP]
          unfold rwo
          rw [decide_eq_false (fun z => z.elim c4 c5)]; rfl) N (a, f, M, 0, S) ⟨rfl, rfl, rfl, rfl, 0, rfl, Nat.zero_le _, rfl⟩ (by show 50 - _ < N; omega)
  rw [e, e2]
theorem c_rowsHold {N : Nat} (hN : 200 < N) {a f M kd rn : Int32} {g : Sg} {mk : Int} {m k : Nat} {C D : Nat → Int32} {kd2 nb2 rn2 : Nat → Int32} (hmk : mk ≤ 5) (hM : 0 ≤ M.toInt ∧ M.toInt < mk) (ha : 0 ≤ a.toInt ∧ a.toInt ≤ 3) (hk : k = a.toInt.toNat) (hs : (g 31 k).toInt = 2 * m) (hm : m ≤ 20) (hC : ∀ p, p < m → g (33 + k) (2 * p) = C p ∧ g (33 + k) (2 * p + 1) = D p ∧ 0 ≤ (C p).toInt ∧ (C p).toInt < 20 * mk) (hf : 0 ≤ f.toInt ∧ f.toInt ≤ 99) (h1 : 0 ≤ kd.toInt ∧ kd.toInt ≤ 5) (h2 : 0 ≤ (g 13 M.toInt.toNat).toInt ∧ (g 13 M.toInt.toNat).toInt ≤ 9) (h3 : -9 ≤ rn.toInt ∧ rn.toInt ≤ 9) (e1 : kd2 M.toInt.toNat = kd) (e2 : nb2 M.toInt.toNat = g 13 M.toInt.toNat) (e3 : rn2 M.toInt.toNat = rn) : x_X7_rowsHold N a M f kd rn g = some (b2 (al (rwo kd2 nb2 rn2 C D M f) m = true), g) := by
  obtain ⟨P, hP⟩ : ∃ P, P = rwo kd2 nb2 rn2 C D M f := ⟨_, rfl⟩
  rw [← hP]
  have b4 : inb a 4 = true := i_inb.mpr ⟨ha.1, by omega⟩
  have hk' : a.toNatClampNeg = k := by rw [i_nat, hk]
  unfold x_X7_rowsHold
  rw [if_pos (show inb M 5 = true from i_inb.mpr ⟨hM.1, by omega⟩), i_nat]
  simp only [lt]
  generalize hnn : g 13 M.toInt.toNat = nn at h2 e2
  obtain ⟨r, er, er2⟩ := lp_tot (F := x_X7_rowsHold_B14 N) (fun x => 50 - x.2.2.2.2.2.2.1.toInt.toNat) (fun x => x.1 = a ∧ x.2.1 = M ∧ x.2.2.1 = f ∧ x.2.2.2.1 = kd ∧ x.2.2.2.2.1 = rn ∧ x.2.2.2.2.2.1 = nn ∧ x.2.2.2.2.2.2.2 = g ∧ ∃ p : Nat, x.2.2.2.2.2.2.1.toInt = 2 * p ∧ p ≤ m ∧ al P p = true) (fun _ r => r = (b2 (al P m = true), g)) (by
    intro hh ⟨y1, y2, y3, y4, y5, y6, i, T⟩ ⟨j1, j2, j3, j4, j5, j6, j7, p, j8, j9, j10⟩ ih
    have i1 : y1 = a := j1
    have i2 : y2 = M := j2
    have i3 : y3 = f := j3
    have i4 : y4 = kd := j4
    have i5 : y5 = rn := j5
    have i6 : y6 = nn := j6
    have i7 : T = g := j7
    have i8 : i.toInt = 2 * p := j8
    clear j1 j2 j3 j4 j5 j6 j7 j8
    subst i1; subst i2; subst i3; subst i4; subst i5; subst i6; subst i7
    unfold x_X7_rowsHold_B14
    have ei := inc1 (x := i) (by omega)
    simp only [i_le, b4, if_true, hk']
    rw [ei]
    by_cases c2 : p = m
    · rw [if_pos (by omega)]
      subst c2
      refine ⟨_, rfl, ?_⟩
      rw [j10]; rfl
    · rw [if_neg (show ¬ (T (31) k).toInt ≤ i.toInt + 1 by omega)]
      obtain ⟨q1, q2, q3, q4⟩ := hC p (by omega)
      have n4 : (i + 1).toNatClampNeg = 2 * p + 1 := by rw [i_nat, ei]; omega
      have n5 : i.toNatClampNeg = 2 * p := by rw [i_nat]; omega
      rw [if_pos (show inb i 40 = true from i_inb.mpr ⟨by omega, by omega⟩)]
      simp only [lt, n5, q1]
      have go : P p = true → ∃ r, x_X7_rowsHold_b99 N hh y1 y2 y3 y4 y5 y6 i T = some r ∧ r = (b2 (al P m = true), T) := by
        intro hp
        unfold x_X7_rowsHold_b99
        simp only [lt]
        have e5 : (i + 2).toInt = i.toInt + 2 := add_l rfl (by decide) (by omega)
        refine ih (y1, y2, y3, y4, y5, y6, i + 2, T) ⟨rfl, rfl, rfl, rfl, rfl, rfl, rfl, p + 1, by show (i + 2).toInt = _; omega, by omega, ?_⟩ (by show 50 - (i + 2).toInt.toNat < 50 - i.toInt.toNat; omega)
        show (al P p && P p) = true
        rw [j10, hp]; rfl
      by_cases c5 : C p / 20 = y2
      · rw [if_pos c5]
        have e := d20 q3
        have er := r20 q3
        have en : (C p).toInt.toNat / 20 = y2.toInt.toNat := by
          have : (C p / 20).toInt = y2.toInt := by rw [c5]
          omega
        obtain ⟨L, l1, l2⟩ := c_len0 N y4 y6 y5 (rmI (C p) 20) T h1 h2 h3 (by omega)
        rw [l1]
        have lb := ln_b (k := y4.toInt) (n := y6.toInt) (r := y5.toInt) (z := (rmI (C p) 20).toInt) h2 h3 (by omega)
        simp only [Option.bind_some]
        have eo : (L - y3).toInt = L.toInt - y3.toInt := by rw [i_sub] <;> omega
        rw [c_says (by omega) _ _ _ _ h1 h2 (by rw [eo]; omega), eo, l2]
        simp only [Option.bind_some]
        rw [if_pos (show inb (i + 1) 40 = true from i_inb.mpr ⟨by omega, by omega⟩), n4, q2]
        have eS : sy y4.toInt y6.toInt (ln y4.toInt y6.toInt y5.toInt (rmI (C p) 20).toInt - y3.toInt) = Sy kd2 nb2 rn2 (C p).toInt.toNat y3.toInt := by
          unfold Sy Ln
          rw [en, e1, e2, e3, er, show (((C p).toInt.toNat % 20 : Nat) : Int) = (C p).toInt % 20 by omega]
        rw [eS]
        have eP : P p = decide (Sy kd2 nb2 rn2 (C p).toInt.toNat y3.toInt = (D p).toInt) := by
          rw [hP]
          unfold rwo
          rw [decide_eq_true (Or.inr c5)]; rfl
        by_cases c3 : Sy kd2 nb2 rn2 (C p).toInt.toNat y3.toInt = (D p).toInt
        · rw [if_pos ((Sy_i _).mpr c3)]
          exact go (by rw [eP]; exact decide_eq_true c3)
        · rw [if_neg (fun z => c3 ((Sy_i _).mp z))]
          refine ⟨_, rfl, ?_⟩
          rw [al_no (show p < m by omega) (show P p = false by rw [eP]; exact decide_eq_false c3)]; rfl
      · rw [if_neg c5]
        refine go ?_
        rw [hP]
        unfold rwo
        rw [decide_eq_false (fun z => z.elim (fun z => by rw [z] at hM; exact absurd hM.1 (by decide)) c5)]; rfl) N (a, M, f, kd, rn, nn, 0, g) ⟨rfl, rfl, rfl, rfl, rfl, rfl, rfl, 0, rfl, Nat.zero_le _, rfl⟩ (by show 50 - _ < N; omega)
  rw [er, er2]
