/-! what is scratch doesn't matter -/
theorem inv_k {TX : TXt} {g G : Sg} {S T : SM} (h : Inv TX g S) (e : ∀ i : Nat, ¬ (i = 3 ∨ (6 ≤ i ∧ i ≤ 10) ∨ (22 ≤ i ∧ i ≤ 25) ∨ i = 28 ∨ i = 29) → G i = g i) (e3 : G 3 1 = g 3 1) (t : ∀ i : Nat, ¬ (i = 0 ∨ (9 ≤ i ∧ i ≤ 15)) → T.1 i = S.1 i) (t0 : ∀ k : Nat, (k = 3 ∨ k = 4 ∨ (6 ≤ k ∧ k ≤ 9) ∨ k = 15 ∨ (46 ≤ k ∧ k ≤ 50)) → T.1 0 k = S.1 0 k) : Inv TX G T := by
  obtain ⟨hS, hT, hM, hK, hB, hP, hH, hX⟩ := h
  have q0 := e 0 (by omega)
  have q1 := e 1 (by omega)
  have q2 := e 2 (by omega)
  have q4 := e 4 (by omega)
  have q11 := e 11 (by omega)
  have q12 := e 12 (by omega)
  have q13 := e 13 (by omega)
  have q14 := e 14 (by omega)
  have q15 := e 15 (by omega)
  have q16 := e 16 (by omega)
  have q17 := e 17 (by omega)
  have q18 := e 18 (by omega)
  have q19 := e 19 (by omega)
  have q20 := e 20 (by omega)
  have q21 := e 21 (by omega)
  have q26 := e 26 (by omega)
  have q27 := e 27 (by omega)
  have q30 := e 30 (by omega)
  have q31 := e 31 (by omega)
  have u3 := t0 3 (by omega)
  have u4 := t0 4 (by omega)
  have u6 := t0 6 (by omega)
  have u7 := t0 7 (by omega)
  have u8 := t0 8 (by omega)
  have u9 := t0 9 (by omega)
  have u15 := t0 15 (by omega)
  have u46 := t0 46 (by omega)
  have u47 := t0 47 (by omega)
  have u48 := t0 48 (by omega)
  have u49 := t0 49 (by omega)
  have u50 := t0 50 (by omega)
  have v1 := t 1 (by omega)
  have v2 := t 2 (by omega)
  have v3 := t 3 (by omega)
  have v4 := t 4 (by omega)
  have v5 := t 5 (by omega)
  have v6 := t 6 (by omega)
  have v7 := t 7 (by omega)
  have v8 := t 8 (by omega)
  have v16 := t 16 (by omega)
  have v17 := t 17 (by omega)
  refine ⟨?_, ?_, ?_, ?_, ?_, ?_, ?_, ?_⟩
  · rw [q1, q4, u7, u8, u9, u4, u15]; exact hS
  · rw [q11, v4]; exact hT
  · rw [q13, q14, q15, v6, v7, v8]; exact hM
  · rw [q1, q12, v5]; exact hK
  · unfold IvB at hB ⊢
    rw [q0, q1, q2, q4, q12, q16, q17, q18, q19, q20, u46, u47, u48, u49, u50, v16, v17]; exact hB
  · unfold IvP at hP ⊢
    rw [e3, q21, u6, v3]; exact hP
  · exact IvH_c hH q30 q31 (fun k hk => e (33 + k) (by omega)) (t 18 (by omega)) (t 19 (by omega)) (t 20 (by omega)) (t 21 (by omega))
  · unfold IvX at hX ⊢
    rw [q4, q26, q27, u3, v1, v2]; exact hX
theorem inv_g {TX : TXt} {g G : Sg} {S : SM} (h : Inv TX g S) (e : ∀ i : Nat, ¬ (6 ≤ i ∧ i ≤ 10) → G i = g i) : Inv TX G S :=
  inv_k h (fun i hi => e i (by omega)) (by rw [e 3 (by omega)]) (fun _ _ => rfl) (fun _ _ => rfl)
/-! any below -/
def an (P : Nat → Bool) : Nat → Bool
  | 0 => false
  | n + 1 => an P n || P n
theorem an_iff {P : Nat → Bool} : ∀ n, an P n = true ↔ ∃ i, i < n ∧ P i = true := by
  intro n
  induction n with
  | zero => exact ⟨fun h => Bool.noConfusion h, fun ⟨i, h, _⟩ => absurd h (Nat.not_lt_zero i)⟩
  | succ n ih =>
    unfold an
    rw [Bool.or_eq_true, ih]
    constructor
    · rintro (⟨i, h1, h2⟩ | h)
      · exact ⟨i, by omega, h2⟩
      · exact ⟨n, by omega, h⟩
    · rintro ⟨i, h1, h2⟩
      by_cases e : i = n
      · subst e; exact Or.inr h2
      · exact Or.inl ⟨i, by omega, h2⟩
theorem an_e {P Q : Nat → Bool} {m n : Nat} (h : (∃ i, i < m ∧ P i = true) ↔ ∃ i, i < n ∧ Q i = true) : an P m = an Q n := by
  rw [← an_iff (P := P) m, ← an_iff (P := Q) n] at h
  exact Bool.eq_iff_iff.mpr h
theorem an_c {P Q : Nat → Bool} (n : Nat) (h : ∀ i, i < n → P i = Q i) : an P n = an Q n := an_e ⟨fun ⟨i, h1, h2⟩ => ⟨i, h1, by rw [← h i h1]; exact h2⟩, fun ⟨i, h1, h2⟩ => ⟨i, h1, by rw [h i h1]; exact h2⟩⟩
/-- whether a shoe fits a foot -/
def fz (kd nb rn : Nat → Int32) (x : Nat) (f : Nat) : Bool := decide (Sy kd nb rn x f = 0)
theorem fz_rc {kd nb rn : Nat → Int32} {x f : Nat} (hk : 0 ≤ (kd (x / 20)).toInt ∧ (kd (x / 20)).toInt ≤ 5) (hf : f < 100) : fz kd nb rn x f = decide (rc kd nb rn x 1 + 1 ≤ f ∧ (f : Int) ≤ rc kd nb rn x 0) := by
  have h1 := rc_ge (nb := nb) (rn := rn) (a := 1) (f := f) hk (by omega)
  have h0 := rc_ge (nb := nb) (rn := rn) (a := 0) (f := f) hk (by omega)
  unfold fz
  exact decide_eq_decide.mpr (by omega)
theorem fz_cm {TX : TXt} {g : Sg} {S : SM} (h : Inv TX g S) {x : Nat} (hx : (x : Int) < 20 * (g 1 4).toInt) (f : Nat) : fz (S.1 5) (S.1 6) (S.1 7) x f = fz (g 12) (g 13) (g 14) x f := by
  unfold fz
  rw [Sy_cm h hx]
theorem m_doesFit {N : Nat} (hN : 200 < N) {m s f : Int32} {S : SM} {mk : Int} (h : Rg (S.1 5) (S.1 6) (S.1 7) mk) (hmk : mk ≤ 5) (hm : 0 ≤ m.toInt ∧ m.toInt < mk) (hs : 0 ≤ s.toInt) (hf : 0 ≤ f.toInt ∧ f.toInt ≤ 99) : x_X8_doesFit N m s f S = some (b2 (an (fun z => s.toInt.toNat.testBit z && fz (S.1 5) (S.1 6) (S.1 7) (20 * m.toInt.toNat + z) f.toInt.toNat) 20 = true), S) := by
  obtain ⟨P, hP⟩ : ∃ P, P = fun z => s.toInt.toNat.testBit z && fz (S.1 5) (S.1 6) (S.1 7) (20 * m.toInt.toNat + z) f.toInt.toNat := ⟨_, rfl⟩
  rw [← hP]
  unfold x_X8_doesFit
  obtain ⟨r, e, e2⟩ := lp_tot (F := x_X8_doesFit_B3 N) (fun x => 21 - x.2.2.2.1.toInt.toNat) (fun x => x.1 = m ∧ x.2.1 = s ∧ x.2.2.1 = f ∧ 0 ≤ x.2.2.2.1.toInt ∧ x.2.2.2.1.toInt ≤ 20 ∧ an P x.2.2.2.1.toInt.toNat = false ∧ x.2.2.2.2 = S) (fun _ r => r = (b2 (an P 20 = true), S)) (by
    intro h3 ⟨y1, y2, y3, z, T⟩ ⟨i1, i2, i3, i4, i5, i6, i7⟩ ih
    have i1 : y1 = m := i1
    have i2 : y2 = s := i2
    have i3 : y3 = f := i3
    have i4 : 0 ≤ z.toInt := i4
    have i5 : z.toInt ≤ 20 := i5
    have i6 : an P z.toInt.toNat = false := i6
    have i7 : T = S := i7
    subst i1; subst i2; subst i3; subst i7
    unfold x_X8_doesFit_B3
    simp only [i_le, Int32.reduceToInt]
    by_cases c1 : 20 ≤ z.toInt
    · rw [if_pos c1]
      refine ⟨_, rfl, ?_⟩
      rw [show z.toInt.toNat = 20 by omega] at i6
      rw [i6]; rfl
    · rw [if_neg c1]
      have e1 := inc1 (x := z) (by omega)
      have go : P z.toInt.toNat = false → ∃ r, x_X8_doesFit_b37 N h3 y1 y2 y3 z T = some r ∧ r = (b2 (an P 20 = true), T) := by
        intro hp
        unfold x_X8_doesFit_b37
        simp only [lt]
        refine ih (y1, y2, y3, z + 1, T) ⟨rfl, rfl, rfl, by show 0 ≤ (z + 1).toInt; omega, by show (z + 1).toInt ≤ 20; omega, ?_, rfl⟩ (by show 21 - (z + 1).toInt.toNat < 21 - z.toInt.toNat; omega)
        show an P (z + 1).toInt.toNat = false
        rw [show (z + 1).toInt.toNat = z.toInt.toNat + 1 by omega]
        show (an P z.toInt.toNat || P z.toInt.toNat) = false
        rw [i6, hp]; rfl
      by_cases c2 : ((y2 >>> (z &&& 31)) &&& 1) = 1
      · rw [if_pos c2]
        rw [bit_i hs (by omega)] at c2
        have f1 : (20 * y1).toInt = 20 * y1.toInt := mul_l (by decide) rfl (by omega)
        have f2 : (20 * y1 + z).toInt = 20 * y1.toInt + z.toInt := by rw [i_add, f1] <;> omega
        rw [m_saysOf h hmk (by omega) hf, f2]
        simp only [Option.bind_some]
        have sb := sy_b (T.1 5 ((20 * y1.toInt + z.toInt).toNat / 20)).toInt (T.1 6 ((20 * y1.toInt + z.toInt).toNat / 20)).toInt (Ln (T.1 5) (T.1 6) (T.1 7) (20 * y1.toInt + z.toInt).toNat - y3.toInt)
        have eS := of_i (z := Sy (T.1 5) (T.1 6) (T.1 7) (20 * y1.toInt + z.toInt).toNat y3.toInt) (by show _ ≤ sy _ _ _; omega) (by show sy _ _ _ ≤ _; omega)
        have eP : P z.toInt.toNat = decide (Sy (T.1 5) (T.1 6) (T.1 7) (20 * y1.toInt + z.toInt).toNat y3.toInt = 0) := by
          rw [hP]
          show (y2.toInt.toNat.testBit z.toInt.toNat && fz _ _ _ _ _) = _
          rw [c2, Bool.true_and]
          unfold fz
          rw [show (20 * y1.toInt + z.toInt).toNat = 20 * y1.toInt.toNat + z.toInt.toNat by omega, show ((y3.toInt.toNat : Nat) : Int) = y3.toInt by omega]
        by_cases c3 : Sy (T.1 5) (T.1 6) (T.1 7) (20 * y1.toInt + z.toInt).toNat y3.toInt = 0
        · rw [if_pos (i_eq.mpr (show _ = (0 : Int) from eS.trans c3))]
          refine ⟨_, rfl, ?_⟩
          have : an P 20 = true := (an_iff 20).mpr ⟨z.toInt.toNat, by omega, by rw [eP]; exact decide_eq_true c3⟩
          rw [this]; rfl
        · rw [if_neg (fun q => c3 (eS.symm.trans (show _ = (0 : Int) from i_eq.mp q)))]
          exact go (by rw [eP]; exact decide_eq_false c3)
      · rw [if_neg c2]
        rw [bit_i hs (by omega)] at c2
        refine go ?_
        rw [hP]
        show (y2.toInt.toNat.testBit z.toInt.toNat && fz _ _ _ _ _) = _
        rw [Bool.eq_false_iff.mpr c2]; rfl) N (m, s, f, 0, S) ⟨rfl, rfl, rfl, Int.le_refl 0, by show (0 : Int32).toInt ≤ 20; decide, rfl, rfl⟩ (by show 21 - _ < N; omega)
  rw [e, e2]
/-- whether a town's foot is served by what is in stock -/
def sv (kd nb rn sk : Nat → Int32) (x f : Nat) : Bool := Sb sk x && fz kd nb rn x f
theorem sv_row {kd nb rn sk : Nat → Int32} {m f : Nat} : an (fun z => (sk m).toInt.toNat.testBit z && fz kd nb rn (20 * m + z) f) 20 = an (fun z => sv kd nb rn sk (20 * m + z) f) 20 := by
  refine an_c 20 (fun z hz => ?_)
  unfold sv Sb
  rw [show (20 * m + z) / 20 = m by omega, show (20 * m + z) % 20 = z by omega]
theorem m_isServed {N : Nat} (hN : 200 < N) {f : Int32} {S : SM} (h : Rg (S.1 5) (S.1 6) (S.1 7) (S.1 0 15).toInt) (hmk : 0 ≤ (S.1 0 15).toInt ∧ (S.1 0 15).toInt ≤ 5) (hk : Kg (S.1 8)) (hf : 0 ≤ f.toInt ∧ f.toInt ≤ 99) : x_X8_isServed N f S = some (b2 (an (fun x => sv (S.1 5) (S.1 6) (S.1 7) (S.1 8) x f.toInt.toNat) (20 * (S.1 0 15).toInt.toNat) = true), S) := by
  obtain ⟨P, hP⟩ : ∃ P, P = fun x => sv (S.1 5) (S.1 6) (S.1 7) (S.1 8) x f.toInt.toNat := ⟨_, rfl⟩
  rw [← hP]
  unfold x_X8_isServed
  obtain ⟨r, e, e2⟩ := lp_tot (F := x_X8_isServed_B2 N) (fun x => 6 - x.2.1.toInt.toNat) (fun x => x.1 = f ∧ 0 ≤ x.2.1.toInt ∧ x.2.1.toInt ≤ (S.1 0 15).toInt ∧ an P (20 * x.2.1.toInt.toNat) = false ∧ x.2.2 = S) (fun _ r => r = (b2 (an P (20 * (S.1 0 15).toInt.toNat) = true), S)) (by
    intro h2 ⟨y1, m, T⟩ ⟨i1, i4, i5, i6, i7⟩ ih
    have i1 : y1 = f := i1
    have i4 : 0 ≤ m.toInt := i4
    have i5 : m.toInt ≤ (S.1 0 15).toInt := i5
    have i6 : an P (20 * m.toInt.toNat) = false := i6
    have i7 : T = S := i7
    subst i1; subst i7
    unfold x_X8_isServed_B2
    simp only [i_le]
    by_cases c1 : (T.1 0 15).toInt ≤ m.toInt
    · rw [if_pos c1]
      refine ⟨_, rfl, ?_⟩
      rw [show m.toInt.toNat = (T.1 0 15).toInt.toNat by omega] at i6
      rw [i6]; rfl
    · have e1 := inc1 (x := m) (by omega)
      rw [if_neg c1, if_pos (show inb m 5 = true from i_inb.mpr ⟨by omega, by omega⟩), m_doesFit hN h hmk.2 (by omega) (hk _ (by rw [i_nat]; omega)).1 hf, i_nat, sv_row]
      simp only [Option.bind_some, b2_0, lt]
      by_cases c2 : an (fun z => sv (T.1 5) (T.1 6) (T.1 7) (T.1 8) (20 * m.toInt.toNat + z) y1.toInt.toNat) 20 = true
      · rw [if_neg (fun z => z c2)]
        refine ⟨_, rfl, ?_⟩
        have t : an P (20 * (T.1 0 15).toInt.toNat) = true := by
          obtain ⟨z, hz, pz⟩ := (an_iff 20).mp c2
          exact (an_iff _).mpr ⟨20 * m.toInt.toNat + z, by omega, by rw [hP]; exact pz⟩
        rw [t]
        rfl
      · rw [if_pos c2]
        refine ih (y1, m + 1, T) ⟨rfl, by show 0 ≤ (m + 1).toInt; omega, by show (m + 1).toInt ≤ _; omega, ?_, rfl⟩ (by show 6 - (m + 1).toInt.toNat < 6 - m.toInt.toNat; omega)
        show an P (20 * (m + 1).toInt.toNat) = false
        rw [Bool.eq_false_iff, ne_eq, an_iff]
        rintro ⟨x, hx, px⟩
        by_cases c3 : x < 20 * m.toInt.toNat
        · exact absurd ((an_iff _).mpr ⟨x, c3, px⟩) (by rw [i6]; decide)
        · refine c2 ((an_iff 20).mpr ⟨x - 20 * m.toInt.toNat, by omega, ?_⟩)
          rw [hP] at px
          rw [show 20 * m.toInt.toNat + (x - 20 * m.toInt.toNat) = x by omega]
          exact px) N (f, 0, S) ⟨rfl, Int.le_refl 0, hmk.1, rfl, rfl⟩ (by show 6 - _ < N; omega)
  rw [e, e2]
