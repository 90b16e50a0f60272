theorem m_two {N : Nat} (hN : 200 < N) {kd nb rn sk : Nat → Int32} {n d e x : Nat} {P : Nat → Bool} {first g1 gone a : Int32} {S S3 : SM} (ok : SpOK N kd nb rn sk n d e) (hB : Bs kd nb rn sk n S) (hg : gone.toInt = 20 - ((d + 1 : Nat) : Int)) (hg1 : g1 = gone + 1) (h0 : 0 ≤ first.toInt) (hS : ∀ f : Nat, f < 100 → (S.1 13 f).toInt < first.toInt) (hb : first.toInt + 5 + 5 * ((d * cn P 100 : Nat) : Int) ≤ 20000) (hf3 : Fr S S3) (h10 : ∀ f : Nat, f < 100 → S3.1 10 f = b2 (P f = true)) (e12 : S3.1 12 = S.1 12) (e13 : S3.1 13 = S.1 13) (e37 : (S3.1 0 37).toInt = first.toInt + 5) (hax : a.toInt = x) (hx : x < n) (hxb : Sb sk x = true) : ∃ T, lp (x_X8_splits_B73 N (gr_S N e)) N (gone, a, first, 0, S3) = some T ∧ Ph kd nb rn sk n d P x first.toInt g1 S 5 T := by
  have hB3 := Bs_f hB hf3
  refine lp_tot (F := x_X8_splits_B73 N (gr_S N e)) (fun y => 101 - y.2.2.2.1.toInt.toNat) (fun y => y.1 = gone ∧ y.2.1 = a ∧ y.2.2.1 = first ∧ 0 ≤ y.2.2.2.1.toInt ∧ y.2.2.2.1.toInt ≤ 100 ∧ (∀ j, j ≠ 12 → j ≠ 13 → y.2.2.2.2.1 j = S3.1 j) ∧ (∀ f : Nat, f < y.2.2.2.1.toInt.toNat → P f = true → (Sy kd nb rn x f = 0 → y.2.2.2.2.1 12 f = g1 ∧ (y.2.2.2.2.1 13 f).toInt = -1) ∧ (¬ Sy kd nb rn x f = 0 → y.2.2.2.2.1 12 f = -1 ∧ (y.2.2.2.2.1 13 f).toInt = first.toInt + Sy kd nb rn x f + 2)) ∧ ∀ f : Nat, f < 100 → (y.2.2.2.1.toInt.toNat ≤ f ∨ P f = false) → y.2.2.2.2.1 12 f = S.1 12 f ∧ y.2.2.2.2.1 13 f = S.1 13 f) (fun _ T => Ph kd nb rn sk n d P x first.toInt g1 S 5 T) ?_ N (gone, a, first, 0, S3) ⟨rfl, rfl, rfl, Int.le_refl 0, by show (0 : Int32).toInt ≤ 100; decide, fun _ _ _ => rfl, fun f hf => absurd hf (Nat.not_lt_zero f), fun f _ _ => ⟨by rw [e12], by rw [e13]⟩⟩ (by show 101 - _ < N; omega)
  intro hh ⟨y1, y2, y3, f, U⟩ ⟨j1, j2, j3, j4, j5, j6, j7, j8⟩ ih
  have i1 : y1 = gone := j1
  have i2 : y2 = a := j2
  have i3 : y3 = first := j3
  have i4 : 0 ≤ f.toInt := j4
  have i5 : f.toInt ≤ 100 := j5
  have i6 : ∀ j, j ≠ 12 → j ≠ 13 → U.1 j = S3.1 j := j6
  have i7 : ∀ q : Nat, q < f.toInt.toNat → P q = true → (Sy kd nb rn x q = 0 → U.1 12 q = g1 ∧ (U.1 13 q).toInt = -1) ∧ (¬ Sy kd nb rn x q = 0 → U.1 12 q = -1 ∧ (U.1 13 q).toInt = first.toInt + Sy kd nb rn x q + 2) := j7
  have i8 : ∀ q : Nat, q < 100 → (f.toInt.toNat ≤ q ∨ P q = false) → U.1 12 q = S.1 12 q ∧ U.1 13 q = S.1 13 q := j8
  clear j1 j2 j3 j4 j5 j6 j7 j8
  subst i1; subst i2; subst i3
  unfold x_X8_splits_B73
  simp only [i_le, Int32.reduceToInt]
  by_cases c1 : 100 ≤ f.toInt
  · rw [if_pos c1]
    have hm1 : (-1 : Int) < 0 := by decide
    refine m_three hN ok hB hg hg1 h0 hS hb ⟨Fr_t hf3 ⟨fun j hj => i6 j (by omega) (by omega), fun k _ => by rw [i6 0 (by omega) (by omega)]⟩, fun q hq hp => i8 q hq (Or.inr hp), fun q hq hp => ?_, fun q hq => ?_, ?_, ?_⟩
    · have sb : -2 ≤ Sy kd nb rn x q ∧ Sy kd nb rn x q ≤ 2 := sy_b _ _ _
      obtain ⟨p1, p2⟩ := i7 q (by omega) hp
      exact ⟨p1, fun z c => by omega, fun z _ => p2 z⟩
    · rw [i6 0 (by omega) (by omega), e37]
      by_cases hp : P q = true
      · have sb : -2 ≤ Sy kd nb rn x q ∧ Sy kd nb rn x q ≤ 2 := sy_b _ _ _
        obtain ⟨p1, p2⟩ := i7 q (by omega) hp
        by_cases z : Sy kd nb rn x q = 0
        · have := (p1 z).2; omega
        · have := (p2 z).2; omega
      · rw [(i8 q hq (Or.inr (Bool.eq_false_iff.mpr hp))).2]
        have := hS q hq
        omega
    · rw [i6 0 (by omega) (by omega), e37]; omega
    · rw [i6 0 (by omega) (by omega), e37]; omega
  · have e1 := inc1 (x := f) (by omega)
    have b100 : inb f 100 = true := i_inb.mpr ⟨by omega, by omega⟩
    rw [if_neg c1, if_pos b100, i_nat, i6 10 (by omega) (by omega), h10 _ (by omega)]
    simp only [b2_0]
    -- on to the next foot
    have go : ∀ U' : SM, (∀ j, j ≠ 12 → j ≠ 13 → U'.1 j = S3.1 j) → (∀ q : Nat, q ≠ f.toInt.toNat → U'.1 12 q = U.1 12 q ∧ U'.1 13 q = U.1 13 q) → (P f.toInt.toNat = true → (Sy kd nb rn x f.toInt.toNat = 0 → U'.1 12 f.toInt.toNat = g1 ∧ (U'.1 13 f.toInt.toNat).toInt = -1) ∧ (¬ Sy kd nb rn x f.toInt.toNat = 0 → U'.1 12 f.toInt.toNat = -1 ∧ (U'.1 13 f.toInt.toNat).toInt = y3.toInt + Sy kd nb rn x f.toInt.toNat + 2)) → (P f.toInt.toNat = false → U'.1 12 f.toInt.toNat = U.1 12 f.toInt.toNat ∧ U'.1 13 f.toInt.toNat = U.1 13 f.toInt.toNat) → ∃ r, x_X8_splits_b146 N (gr_S N e) hh y1 y2 y3 f U' = some r ∧ Ph kd nb rn sk n d P x y3.toInt g1 S 5 r := by
      intro U' t1 t2 t3 t4
      unfold x_X8_splits_b146
      simp only [lt]
      refine ih (y1, y2, y3, f + 1, U') ⟨rfl, rfl, rfl, by show 0 ≤ (f + 1).toInt; omega, by show (f + 1).toInt ≤ 100; omega, t1, fun q hq hp => ?_, fun q hq hc => ?_⟩ (by show 101 - (f + 1).toInt.toNat < 101 - f.toInt.toNat; omega)
      · have hq : q < (f + 1).toInt.toNat := hq
        show (Sy kd nb rn x q = 0 → U'.1 12 q = g1 ∧ (U'.1 13 q).toInt = -1) ∧ (¬ Sy kd nb rn x q = 0 → U'.1 12 q = -1 ∧ (U'.1 13 q).toInt = y3.toInt + Sy kd nb rn x q + 2)
        by_cases c : q = f.toInt.toNat
        · subst c; exact t3 hp
        · rw [(t2 q c).1, (t2 q c).2]; exact i7 q (by omega) hp
      · have hc : (f + 1).toInt.toNat ≤ q ∨ P q = false := hc
        show U'.1 12 q = S.1 12 q ∧ U'.1 13 q = S.1 13 q
        by_cases c : q = f.toInt.toNat
        · have hp : P f.toInt.toNat = false := by
            rcases hc with hc | hc
            · omega
            · rw [← c]; exact hc
          rw [c, (t4 hp).1, (t4 hp).2]
          exact i8 _ (by omega) (Or.inr hp)
        · rw [(t2 q c).1, (t2 q c).2]
          exact i8 q hq (hc.elim (fun z => Or.inl (by omega)) Or.inr)
    by_cases c2 : P f.toInt.toNat = true
    · have hl : n ≤ 100 := by have := hB.2.2.2.2.1; have := hB.2.2.2.2.2.1; omega
      have f1 : (100 * y2).toInt = 100 * y2.toInt := mul_l (by decide) rfl (by omega)
      have f2 : (100 * y2 + f).toInt = 100 * y2.toInt + f.toInt := by rw [i_add, f1] <;> omega
      have n2 : (100 * y2 + f).toNatClampNeg = 100 * x + f.toInt.toNat := by rw [i_nat, f2]; omega
      have tb := hB3.2.2.2.2.2.2.2.2 x hx (by rw [hB3.2.2.2.1]; exact hxb) f.toInt.toNat (by omega)
      rw [hB3.1, hB3.2.1, hB3.2.2.1] at tb
      rw [if_neg (fun z => z c2), if_pos (show inb (100 * y2 + f) 10000 = true from i_inb.mpr ⟨by omega, by omega⟩), n2, i6 9 (by omega) (by omega), tb]
      have sb : -2 ≤ Sy kd nb rn x f.toInt.toNat ∧ Sy kd nb rn x f.toInt.toNat ≤ 2 := sy_b _ _ _
      have es : (Int32.ofInt (Sy kd nb rn x f.toInt.toNat)).toInt = Sy kd nb rn x f.toInt.toNat := of_i (by omega) (by omega)
      generalize Int32.ofInt (Sy kd nb rn x f.toInt.toNat) = v at es ⊢
      simp only [lt]
      have nat : f.toNatClampNeg = f.toInt.toNat := rfl
      unfold x_X8_splits_b122 x_X8_splits_b145
      simp only [if_pos b100, lt, nat]
      by_cases c3 : v = 0
      · rw [if_pos c3, if_pos c3]
        have c3 : Sy kd nb rn x f.toInt.toNat = 0 := by rw [← es, c3]; decide
        refine go _ (fun j h12 h13 => ?_) (fun q hq => ⟨?_, ?_⟩) (fun _ => ⟨fun _ => ⟨?_, ?_⟩, fun z => absurd c3 z⟩) (fun z => by rw [z] at c2; cases c2)
        · show up (up U.1 12 _) 13 _ j = _
          rw [up_n _ _ h13, up_n _ _ h12]; exact i6 j h12 h13
        · show upd (U.1 12) f.toInt.toNat (y1 + 1) q = _
          exact upd_n _ _ hq
        · show upd (U.1 13) f.toInt.toNat (-1) q = _
          exact upd_n _ _ hq
        · show upd (U.1 12) f.toInt.toNat (y1 + 1) f.toInt.toNat = _
          rw [upd_s, hg1]
        · show (upd (U.1 13) f.toInt.toNat (-1) f.toInt.toNat).toInt = _
          rw [upd_s]; rfl
      · rw [if_neg c3, if_neg c3]
        have c3 : ¬ Sy kd nb rn x f.toInt.toNat = 0 := fun z => c3 (i_eq.mpr (by rw [es, z]; rfl))
        have ea : (y3 + v).toInt = y3.toInt + Sy kd nb rn x f.toInt.toNat := by rw [i_add, es] <;> omega
        have eb : (y3 + v + 2).toInt = y3.toInt + Sy kd nb rn x f.toInt.toNat + 2 := add_l ea (by decide) (by omega)
        refine go _ (fun j h12 h13 => ?_) (fun q hq => ⟨?_, ?_⟩) (fun _ => ⟨fun z => absurd z c3, fun _ => ⟨?_, ?_⟩⟩) (fun z => by rw [z] at c2; cases c2)
        · show up (up U.1 12 _) 13 _ j = _
          rw [up_n _ _ h13, up_n _ _ h12]; exact i6 j h12 h13
        · show upd (U.1 12) f.toInt.toNat (-1) q = _
          exact upd_n _ _ hq
        · show upd (U.1 13) f.toInt.toNat (y3 + v + 2) q = _
          exact upd_n _ _ hq
        · show upd (U.1 12) f.toInt.toNat (-1) f.toInt.toNat = _
          rw [upd_s]
        · show (upd (U.1 13) f.toInt.toNat (y3 + v + 2) f.toInt.toNat).toInt = _
          rw [upd_s]; exact eb
    · rw [if_pos c2]
      exact go U i6 (fun _ _ => ⟨rfl, rfl⟩) (fun z => absurd z c2) (fun _ => ⟨rfl, rfl⟩)
/-- the feet that can be, then what follows -/
theorem m_one {N : Nat} (hN : 200 < N) {rec : Nat → Int32 → Int32 → Int32 → SM → Option SM} {R : SM → Prop} {w gone : Int32} {P : Nat → Bool} {S : SM} (hP : ∀ f : Nat, f < 100 → (S.1 13 f = w ↔ P f = true)) (nx : ∀ T : SM, (∀ j, j ≠ 10 → T.1 j = S.1 j) → (∀ f : Nat, f < 100 → T.1 10 f = b2 (P f = true)) → ∀ h2 f, f = (100 : Int32) → ∃ r, x_X8_splits_B2 N rec h2 (w, gone, f, T) = some r ∧ R r) : ∃ r, x_X8_splits N rec w gone S = some r ∧ R r := by
  unfold x_X8_splits
  refine lp_tot (F := x_X8_splits_B2 N rec) (fun y => 101 - y.2.2.1.toInt.toNat) (fun y => y.1 = w ∧ y.2.1 = gone ∧ 0 ≤ y.2.2.1.toInt ∧ y.2.2.1.toInt ≤ 100 ∧ (∀ j, j ≠ 10 → y.2.2.2.1 j = S.1 j) ∧ ∀ f : Nat, f < y.2.2.1.toInt.toNat → y.2.2.2.1 10 f = b2 (P f = true)) (fun _ r => R r) ?_ N (w, gone, 0, S) ⟨rfl, rfl, Int.le_refl 0, by show (0 : Int32).toInt ≤ 100; decide, fun _ _ => rfl, fun f hf => absurd hf (Nat.not_lt_zero f)⟩ (by show 101 - _ < N; omega)
  intro hh ⟨y1, y2, f, U⟩ ⟨j1, j2, j3, j4, j5, j6⟩ ih
  have i1 : y1 = w := j1
  have i2 : y2 = gone := j2
  have i3 : 0 ≤ f.toInt := j3
  have i4 : f.toInt ≤ 100 := j4
  have i5 : ∀ j, j ≠ 10 → U.1 j = S.1 j := j5
  have i6 : ∀ q : Nat, q < f.toInt.toNat → U.1 10 q = b2 (P q = true) := j6
  clear j1 j2 j3 j4 j5 j6
  subst i1; subst i2
  by_cases c1 : 100 ≤ f.toInt
  · exact nx U i5 (fun q hq => i6 q (by omega)) hh f (i_eq.mpr (by show f.toInt = 100; omega))
  · have e1 := inc1 (x := f) (by omega)
    unfold x_X8_splits_B2
    simp only [i_le, Int32.reduceToInt]
    have b100 : inb f 100 = true := i_inb.mpr ⟨by omega, by omega⟩
    rw [if_neg c1, if_pos b100, i_nat, i5 13 (by omega)]
    unfold x_X8_splits_b28
    simp only [if_pos b100, lt, nb0, nb1]
    have go : ∀ t : Int32, t = b2 (P f.toInt.toNat = true) → ∃ r, hh (y1, y2, f + 1, (up U.1 10 (upd (U.1 10) f.toNatClampNeg t), U.2)) = some r ∧ R r := by
      intro t et
      refine ih (y1, y2, f + 1, _) ⟨rfl, rfl, by show 0 ≤ (f + 1).toInt; omega, by show (f + 1).toInt ≤ 100; omega, fun j hj => ?_, fun q hq => ?_⟩ (by show 101 - (f + 1).toInt.toNat < 101 - f.toInt.toNat; omega)
      · show up U.1 10 _ j = _
        rw [up_n _ _ hj]; exact i5 j hj
      · have hq : q < (f + 1).toInt.toNat := hq
        show upd (U.1 10) f.toNatClampNeg t q = _
        by_cases c : q = f.toNatClampNeg
        · rw [c, upd_s, et]; rfl
        · rw [upd_n _ _ c]
          rw [i_nat] at c
          exact i6 q (by omega)
    by_cases c2 : S.1 13 f.toInt.toNat = y1
    · rw [if_pos c2]
      exact go 1 (by unfold b2; rw [if_pos ((hP _ (by omega)).mp c2)])
    · rw [if_neg c2]
      exact go 0 (by unfold b2; rw [if_neg (fun z => c2 ((hP _ (by omega)).mpr z))])
