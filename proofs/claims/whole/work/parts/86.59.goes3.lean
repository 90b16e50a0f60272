def Bs (kd nb rn sk : Nat → Int32) (n : Nat) (S : SM) : Prop := S.1 5 = kd ∧ S.1 6 = nb ∧ S.1 7 = rn ∧ S.1 8 = sk ∧ (0 ≤ (S.1 0 15).toInt ∧ (S.1 0 15).toInt ≤ 5) ∧ n = 20 * (S.1 0 15).toInt.toNat ∧ Rg kd nb rn (S.1 0 15).toInt ∧ Kg sk ∧ Tb S n
def Fr (S T : SM) : Prop := (∀ j : Nat, ¬ (j = 0 ∨ (10 ≤ j ∧ j ≤ 13)) → T.1 j = S.1 j) ∧ ∀ k : Nat, ¬ (k = 34 ∨ k = 37) → T.1 0 k = S.1 0 k
theorem Fr_r (S : SM) : Fr S S := ⟨fun _ _ => rfl, fun _ _ => rfl⟩
theorem Fr_t {S T U : SM} (h1 : Fr S T) (h2 : Fr T U) : Fr S U := ⟨fun j hj => (h2.1 j hj).trans (h1.1 j hj), fun k hk => (h2.2 k hk).trans (h1.2 k hk)⟩
theorem Bs_f {kd nb rn sk : Nat → Int32} {n : Nat} {S T : SM} (h : Bs kd nb rn sk n S) (f : Fr S T) : Bs kd nb rn sk n T := by
  obtain ⟨h1, h2, h3, h4, h5, h6, h7, h8, h9⟩ := h
  have q15 := f.2 15 (by omega)
  refine ⟨(f.1 5 (by omega)).trans h1, (f.1 6 (by omega)).trans h2, (f.1 7 (by omega)).trans h3, (f.1 8 (by omega)).trans h4, by rw [q15]; exact h5, by rw [q15]; exact h6, by rw [q15]; exact h7, h8, ?_⟩
  intro x hx hb q hq
  rw [f.1 8 (by omega)] at hb
  rw [f.1 9 (by omega), f.1 5 (by omega), f.1 6 (by omega), f.1 7 (by omega)]
  exact h9 x hx hb q hq
theorem m_afRow {N : Nat} (hN : 200 < N) {h2 : Int32 × SM → Option (Int32 × SM)} {Q : Int32 × SM → Prop} {s : Int32} {kd nb rn sk : Nat → Int32} {n : Nat} {P : Nat → Bool} {S : SM} (hB : Bs kd nb rn sk n S) (h10 : ∀ f : Nat, f < 100 → S.1 10 f = b2 (P f = true)) (hs : 0 ≤ s.toInt ∧ s.toInt < n) (q1 : (Sb sk s.toInt.toNat && an (fun f => P f && fz kd nb rn s.toInt.toNat f) 100) = true → Q (1, S)) (q0 : (Sb sk s.toInt.toNat && an (fun f => P f && fz kd nb rn s.toInt.toNat f) 100) = false → ∃ r, x_X8_isAnyFit_b60 N h2 s S = some r ∧ Q r) : ∃ r, lp (x_X8_isAnyFit_B15 N h2) N (s, 0, S) = some r ∧ Q r := by
  obtain ⟨b1, b2', b3, b4, b5, b6, b7, b8, b9⟩ := hB
  obtain ⟨W, hW⟩ : ∃ W : Nat → Bool, W = fun f => P f && fz kd nb rn s.toInt.toNat f := ⟨_, rfl⟩
  rw [← hW] at q1 q0
  refine lp_tot (F := x_X8_isAnyFit_B15 N h2) (fun x => 101 - x.2.1.toInt.toNat) (fun x => x.1 = s ∧ 0 ≤ x.2.1.toInt ∧ x.2.1.toInt ≤ 100 ∧ x.2.2 = S ∧ an W x.2.1.toInt.toNat = false) (fun _ r => Q r) ?_ N (s, 0, S) ⟨rfl, Int.le_refl 0, by show (0 : Int32).toInt ≤ 100; decide, rfl, rfl⟩ (by show 101 - _ < N; omega)
  intro hh ⟨y1, f, T⟩ ⟨j1, j2, j3, j4, j5⟩ ih
  have i1 : y1 = s := j1
  have i2 : 0 ≤ f.toInt := j2
  have i3 : f.toInt ≤ 100 := j3
  have i4 : T = S := j4
  have i5 : an W f.toInt.toNat = false := j5
  clear j1 j2 j3 j4 j5
  subst i1; subst i4
  unfold x_X8_isAnyFit_B15
  simp only [i_le, Int32.reduceToInt]
  by_cases c1 : 100 ≤ f.toInt
  · rw [if_pos c1]
    refine q0 ?_
    rw [show f.toInt.toNat = 100 by omega] at i5
    rw [i5, Bool.and_false]
  · have e1 := inc1 (x := f) (by omega)
    rw [if_neg c1, m_stk (by rw [b4]; exact b8) (by omega), b4]
    simp only [Option.bind_some, b2_0]
    by_cases c2 : Sb sk y1.toInt.toNat = true
    · have f1 : (100 * y1).toInt = 100 * y1.toInt := mul_l (by decide) rfl (by omega)
      have f2 : (100 * y1 + f).toInt = 100 * y1.toInt + f.toInt := by rw [i_add, f1] <;> omega
      have n2 : (100 * y1 + f).toNatClampNeg = 100 * y1.toInt.toNat + f.toInt.toNat := by rw [i_nat, f2]; omega
      rw [if_neg (fun z => z c2), if_pos (show inb f 100 = true from i_inb.mpr ⟨by omega, by omega⟩), i_nat, h10 _ (by omega)]
      simp only [b2_0]
      rw [if_pos (show inb (100 * y1 + f) 10000 = true from i_inb.mpr ⟨by omega, by omega⟩), n2, b9 _ (by omega) (by rw [b4]; exact c2) _ (by omega), b1, b2', b3]
      have sb : -2 ≤ Sy kd nb rn y1.toInt.toNat (f.toInt.toNat : Nat) ∧ Sy kd nb rn y1.toInt.toNat (f.toInt.toNat : Nat) ≤ 2 := sy_b _ _ _
      have es : (Int32.ofInt (Sy kd nb rn y1.toInt.toNat (f.toInt.toNat : Nat))).toInt = Sy kd nb rn y1.toInt.toNat (f.toInt.toNat : Nat) := of_i (by omega) (by omega)
      have go : W f.toInt.toNat = false → ∃ r, x_X8_isAnyFit_b54 N h2 hh y1 f T = some r ∧ Q r := by
        intro hw
        unfold x_X8_isAnyFit_b54
        simp only [lt]
        refine ih (y1, f + 1, T) ⟨rfl, by show 0 ≤ (f + 1).toInt; omega, by show (f + 1).toInt ≤ 100; omega, rfl, ?_⟩ (by show 101 - (f + 1).toInt.toNat < 101 - f.toInt.toNat; omega)
        show an W (f + 1).toInt.toNat = false
        rw [show (f + 1).toInt.toNat = f.toInt.toNat + 1 by omega]
        show (an W f.toInt.toNat || W f.toInt.toNat) = false
        rw [i5, hw]; rfl
      have eW : W f.toInt.toNat = (P f.toInt.toNat && decide (Sy kd nb rn y1.toInt.toNat (f.toInt.toNat : Nat) = 0)) := by rw [hW]; rfl
      by_cases c3 : P f.toInt.toNat = true
      · rw [if_neg (fun z => z c3)]
        by_cases c4 : Sy kd nb rn y1.toInt.toNat (f.toInt.toNat : Nat) = 0
        · rw [if_pos (i_eq.mpr (by rw [es, c4]; rfl))]
          refine ⟨_, rfl, q1 ?_⟩
          rw [c2, Bool.true_and]
          exact (an_iff 100).mpr ⟨f.toInt.toNat, by omega, by rw [eW, c3, decide_eq_true c4]; rfl⟩
        · rw [if_neg (fun z => c4 (by rw [← es, i_eq.mp z]; rfl))]
          exact go (by rw [eW, decide_eq_false c4, Bool.and_false])
      · rw [if_pos c3]
        exact go (by rw [eW, Bool.eq_false_iff.mpr c3, Bool.false_and])
    · rw [if_pos c2]
      exact q0 (by rw [Bool.eq_false_iff.mpr c2, Bool.false_and])
theorem m_isAnyFit {N : Nat} (hN : 200 < N) {kd nb rn sk : Nat → Int32} {n : Nat} {P : Nat → Bool} {S : SM} (hB : Bs kd nb rn sk n S) (h10 : ∀ f : Nat, f < 100 → S.1 10 f = b2 (P f = true)) : x_X8_isAnyFit N S = some (b2 (AF kd nb rn sk n P = true), S) := by
  have b5 := hB.2.2.2.2.1
  have b6 := hB.2.2.2.2.2.1
  have em : (20 * S.1 0 15).toInt = 20 * (S.1 0 15).toInt := mul_l (by decide) rfl (by omega)
  obtain ⟨W, hW⟩ : ∃ W : Nat → Bool, W = fun x => Sb sk x && an (fun f => P f && fz kd nb rn x f) 100 := ⟨_, rfl⟩
  unfold AF
  rw [← hW]
  unfold x_X8_isAnyFit
  obtain ⟨r, e, e2⟩ := lp_tot (F := x_X8_isAnyFit_B2 N) (fun x => 101 - x.1.toInt.toNat) (fun x => 0 ≤ x.1.toInt ∧ x.1.toInt ≤ n ∧ x.2 = S ∧ an W x.1.toInt.toNat = false) (fun _ r => r = (b2 (an W n = true), S)) (by
    intro hh ⟨s, T⟩ ⟨j1, j2, j3, j4⟩ ih
    have i1 : 0 ≤ s.toInt := j1
    have i2 : s.toInt ≤ n := j2
    have i3 : T = S := j3
    have i4 : an W s.toInt.toNat = false := j4
    clear j1 j2 j3 j4
    subst i3
    unfold x_X8_isAnyFit_B2
    simp only [i_le]
    rw [em]
    by_cases c1 : 20 * (T.1 0 15).toInt ≤ s.toInt
    · rw [if_pos c1]
      refine ⟨_, rfl, ?_⟩
      rw [show n = s.toInt.toNat by omega, i4]; rfl
    · have e1 := inc1 (x := s) (by omega)
      rw [if_neg c1]
      refine m_afRow hN hB h10 (by omega) (fun w => ?_) (fun w => ?_)
      · have : an W n = true := (an_iff n).mpr ⟨s.toInt.toNat, by omega, by rw [hW]; exact w⟩
        rw [this]; rfl
      · unfold x_X8_isAnyFit_b60
        simp only [lt]
        refine ih (s + 1, T) ⟨by show 0 ≤ (s + 1).toInt; omega, by show (s + 1).toInt ≤ _; omega, rfl, ?_⟩ (by show 101 - (s + 1).toInt.toNat < 101 - s.toInt.toNat; omega)
        show an W (s + 1).toInt.toNat = false
        rw [show (s + 1).toInt.toNat = s.toInt.toNat + 1 by omega]
        show (an W s.toInt.toNat || W s.toInt.toNat) = false
        rw [i4, show W s.toInt.toNat = false by rw [hW]; exact w]; rfl) N (0, S) ⟨Int.le_refl 0, by show (0 : Int32).toInt ≤ _; simp only [Int32.reduceToInt]; omega, rfl, rfl⟩ (by show 101 - _ < N; omega)
  rw [e, e2]
theorem m_hasAny {N : Nat} (hN : 200 < N) (w : Int32) (S : SM) : x_X8_hasAny N w S = some (b2 (an (fun f => decide (S.1 13 f = w)) 100 = true), S) := by
  unfold x_X8_hasAny
  obtain ⟨r, e, e2⟩ := lp_tot (F := x_X8_hasAny_B2 N) (fun x => 101 - x.2.1.toInt.toNat) (fun x => x.1 = w ∧ 0 ≤ x.2.1.toInt ∧ x.2.1.toInt ≤ 100 ∧ x.2.2 = S ∧ an (fun f => decide (S.1 13 f = w)) x.2.1.toInt.toNat = false) (fun _ r => r = (b2 (an (fun f => decide (S.1 13 f = w)) 100 = true), S)) (by
    intro hh ⟨y1, f, T⟩ ⟨j1, j2, j3, j4, j5⟩ ih
    have i1 : y1 = w := j1
    have i2 : 0 ≤ f.toInt := j2
    have i3 : f.toInt ≤ 100 := j3
    have i4 : T = S := j4
    have i5 : an (fun f => decide (S.1 13 f = w)) f.toInt.toNat = false := j5
    clear j1 j2 j3 j4 j5
    subst i1; subst i4
    unfold x_X8_hasAny_B2
    simp only [i_le, Int32.reduceToInt]
    by_cases c1 : 100 ≤ f.toInt
    · rw [if_pos c1]
      refine ⟨_, rfl, ?_⟩
      rw [show f.toInt.toNat = 100 by omega] at i5
      rw [i5]; rfl
    · have e1 := inc1 (x := f) (by omega)
      rw [if_neg c1, if_pos (show inb f 100 = true from i_inb.mpr ⟨by omega, by omega⟩), i_nat]
      by_cases c2 : T.1 13 f.toInt.toNat = y1
      · rw [if_pos c2]
        refine ⟨_, rfl, ?_⟩
        have : an (fun f => decide (T.1 13 f = y1)) 100 = true := (an_iff 100).mpr ⟨f.toInt.toNat, by omega, decide_eq_true c2⟩
        rw [this]; rfl
      · rw [if_neg c2]
        simp only [lt]
        refine ih (y1, f + 1, T) ⟨rfl, by show 0 ≤ (f + 1).toInt; omega, by show (f + 1).toInt ≤ 100; omega, rfl, ?_⟩ (by show 101 - (f + 1).toInt.toNat < 101 - f.toInt.toNat; omega)
        show an _ (f + 1).toInt.toNat = false
        rw [show (f + 1).toInt.toNat = f.toInt.toNat + 1 by omega]
        show (an (fun f => decide (T.1 13 f = y1)) f.toInt.toNat || decide (T.1 13 f.toInt.toNat = y1)) = false
        rw [i5, decide_eq_false c2]; rfl) N (w, 0, S) ⟨rfl, Int.le_refl 0, by show (0 : Int32).toInt ≤ 100; decide, rfl, rfl⟩ (by show 101 - _ < N; omega)
  rw [e, e2]
/-- fetches, where some foot is left -/
theorem m_fetches2 {N : Nat} (hN : 200 < N) {kd nb rn sk : Nat → Int32} {n : Nat} {P : Nat → Bool} {S : SM} (hB : Bs kd nb rn sk n S) (h10 : ∀ f : Nat, f < 100 → S.1 10 f = b2 (P f = true)) {f0 : Nat} (hf : f0 < 100) (hp : P f0 = true) {x : Nat} (hx : FT kd nb rn sk n P = some x) : ∃ r T, x_X8_fetches N S = some (r, T) ∧ r.toInt = x ∧ (∀ j, j ≠ 0 → j ≠ 11 → T.1 j = S.1 j) ∧ ∀ k, k ≠ 34 → T.1 0 k = S.1 0 k := by
  obtain ⟨b1, b2', b3, b4, b5, b6, b7, b8, b9⟩ := hB
  obtain ⟨r, T, e1, e2, e3, e4⟩ := m_fetches (N := N) hN (P := P) (S := S) b5 (by rw [b4]; exact b8) (by rw [← b6]; exact b9) h10
  rw [b1, b2', b3, b4, ← b6] at e2
  have eF := (ft_c (B := fun x => Sb sk x && decide (0 < AL kd nb rn P x)) (h := AL kd nb rn P) (B2 := Sb sk) (h2 := AL kd nb rn P) n (fun i hi => ⟨by
    show (Sb sk i && _) = _
    rw [decide_eq_true (AL_pos hf hp), Bool.and_true], fun _ => rfl⟩)).1
  rw [eF] at e2
  exact ⟨r, T, e1, (e2.2 x hx).1, e3, e4⟩
