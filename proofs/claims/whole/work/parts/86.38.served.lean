theorem fn {f : Int32} (h : 0 ≤ f.toInt) : f.toNatClampNeg = f.toInt.toNat := rfl
theorem ps_1 (f : Nat → Int32) (P : Nat → Bool) (n : Nat) : ps f P (n + 1) = ps f P n + (if P n then f n else 0) := rfl
theorem m_servedBy {N : Nat} (hN : 200 < N) {m s : Int32} {S : SM} {mk : Int} (h : Rg (S.1 5) (S.1 6) (S.1 7) mk) (hmk : mk ≤ 5) (hm : 0 ≤ m.toInt ∧ m.toInt < mk) (hs : 0 ≤ s.toInt) (ht : ∀ f : Nat, f < 100 → 0 ≤ (S.1 4 f).toInt) : x_X8_servedBy N m s S = some (ps (S.1 4) (fun f => an (fun z => s.toInt.toNat.testBit z && fz (S.1 5) (S.1 6) (S.1 7) (20 * m.toInt.toNat + z) f) 20) 100, S) := by
  obtain ⟨P, hP⟩ : ∃ P : Nat → Bool, P = fun f => an (fun z => s.toInt.toNat.testBit z && fz (S.1 5) (S.1 6) (S.1 7) (20 * m.toInt.toNat + z) f) 20 := ⟨_, rfl⟩
  rw [← hP]
  unfold x_X8_servedBy
  obtain ⟨r, e, e2⟩ := lp_tot (F := x_X8_servedBy_B5 N) (fun x => 101 - x.2.2.2.1.toInt.toNat) (fun x => x.1 = m ∧ x.2.1 = s ∧ 0 ≤ x.2.2.2.1.toInt ∧ x.2.2.2.1.toInt ≤ 100 ∧ x.2.2.1 = ps (S.1 4) P x.2.2.2.1.toInt.toNat ∧ x.2.2.2.2 = S) (fun _ r => r = (ps (S.1 4) P 100, S)) (by
    intro h5 ⟨y1, y2, a, f, T⟩ ⟨i1, i2, i4, i5, i6, i7⟩ ih
    have i1 : y1 = m := i1
    have i2 : y2 = s := i2
    have i4 : 0 ≤ f.toInt := i4
    have i5 : f.toInt ≤ 100 := i5
    have i6 : a = ps (S.1 4) P f.toInt.toNat := i6
    have i7 : T = S := i7
    subst i1; subst i2; subst i7
    unfold x_X8_servedBy_B5
    simp only [i_le, Int32.reduceToInt]
    by_cases c1 : 100 ≤ f.toInt
    · rw [if_pos c1]
      refine ⟨_, rfl, ?_⟩
      rw [i6, show f.toInt.toNat = 100 by omega]
    · have e1 := inc1 (x := f) (by omega)
      rw [if_neg c1, if_pos (show inb f 100 = true from i_inb.mpr ⟨by omega, by omega⟩)]
      have go : ∀ t : Int32, t = (if P f.toInt.toNat then T.1 4 f.toInt.toNat else 0) → ∃ r, x_X8_servedBy_b45 N h5 y1 y2 f t a T = some r ∧ r = (ps (T.1 4) P 100, T) := by
        intro t et
        unfold x_X8_servedBy_b45
        simp only [lt]
        refine ih (y1, y2, a + t, f + 1, T) ⟨rfl, rfl, by show 0 ≤ (f + 1).toInt; omega, by show (f + 1).toInt ≤ 100; omega, ?_, rfl⟩ (by show 101 - (f + 1).toInt.toNat < 101 - f.toInt.toNat; omega)
        show a + t = ps (T.1 4) P (f + 1).toInt.toNat
        rw [show (f + 1).toInt.toNat = f.toInt.toNat + 1 by omega, ps_1, i6, et]
      have tf := ht f.toInt.toNat (by omega)
      rw [i_nat]
      unfold x_X8_servedBy_b44
      by_cases c2 : (T.1 4 f.toInt.toNat).toInt ≤ 0
      · rw [if_pos c2]
        have z0 : T.1 4 f.toInt.toNat = 0 := i_eq.mpr (by simp only [Int32.reduceToInt]; omega)
        refine go 0 ?_
        rw [z0]
        split <;> rfl
      · rw [if_neg c2, m_doesFit hN h hmk hm hs (by omega)]
        simp only [Option.bind_some, b2_0]
        have eP : an (fun z => y2.toInt.toNat.testBit z && fz (T.1 5) (T.1 6) (T.1 7) (20 * y1.toInt.toNat + z) f.toInt.toNat) 20 = P f.toInt.toNat := by rw [hP]
        rw [eP]
        by_cases c3 : P f.toInt.toNat = true
        · rw [if_neg (fun z => z c3), if_pos (show inb f 100 = true from i_inb.mpr ⟨by omega, by omega⟩)]
          exact go _ (by rw [if_pos c3])
        · rw [if_pos c3]
          exact go _ (by rw [if_neg c3])) N (m, s, 0, 0, S) ⟨rfl, rfl, Int.le_refl 0, by show (0 : Int32).toInt ≤ 100; decide, rfl, rfl⟩ (by show 101 - _ < N; omega)
  rw [e, e2]
theorem m_servedAll {N : Nat} (hN : 200 < N) {S : SM} (h : Rg (S.1 5) (S.1 6) (S.1 7) (S.1 0 15).toInt) (hmk : 0 ≤ (S.1 0 15).toInt ∧ (S.1 0 15).toInt ≤ 5) (hk : Kg (S.1 8)) : x_X8_servedAll N S = some (ps (S.1 4) (fun f => an (fun x => sv (S.1 5) (S.1 6) (S.1 7) (S.1 8) x f) (20 * (S.1 0 15).toInt.toNat)) 100, S) := by
  obtain ⟨P, hP⟩ : ∃ P : Nat → Bool, P = fun f => an (fun x => sv (S.1 5) (S.1 6) (S.1 7) (S.1 8) x f) (20 * (S.1 0 15).toInt.toNat) := ⟨_, rfl⟩
  rw [← hP]
  unfold x_X8_servedAll
  obtain ⟨r, e, e2⟩ := lp_tot (F := x_X8_servedAll_B4 N) (fun x => 101 - x.2.1.toInt.toNat) (fun x => 0 ≤ x.2.1.toInt ∧ x.2.1.toInt ≤ 100 ∧ x.1 = ps (S.1 4) P x.2.1.toInt.toNat ∧ x.2.2 = S) (fun _ r => r = (ps (S.1 4) P 100, S)) (by
    intro h4 ⟨a, f, T⟩ ⟨i4, i5, i6, i7⟩ ih
    have i4 : 0 ≤ f.toInt := i4
    have i5 : f.toInt ≤ 100 := i5
    have i6 : a = ps (S.1 4) P f.toInt.toNat := i6
    have i7 : T = S := i7
    subst i7
    unfold x_X8_servedAll_B4
    simp only [i_le, Int32.reduceToInt]
    by_cases c1 : 100 ≤ f.toInt
    · rw [if_pos c1]
      refine ⟨_, rfl, ?_⟩
      rw [i6, show f.toInt.toNat = 100 by omega]
    · have e1 := inc1 (x := f) (by omega)
      rw [if_neg c1, m_isServed hN h hmk hk (by omega)]
      simp only [Option.bind_some, b2_0]
      have go : ∀ t : Int32, t = (if P f.toInt.toNat then T.1 4 f.toInt.toNat else 0) → ∃ r, x_X8_servedAll_b29 N h4 f t a T = some r ∧ r = (ps (T.1 4) P 100, T) := by
        intro t et
        unfold x_X8_servedAll_b29
        simp only [lt]
        refine ih (a + t, f + 1, T) ⟨by show 0 ≤ (f + 1).toInt; omega, by show (f + 1).toInt ≤ 100; omega, ?_, rfl⟩ (by show 101 - (f + 1).toInt.toNat < 101 - f.toInt.toNat; omega)
        show a + t = ps (T.1 4) P (f + 1).toInt.toNat
        rw [show (f + 1).toInt.toNat = f.toInt.toNat + 1 by omega, ps_1, i6, et]
      have eP : an (fun x => sv (T.1 5) (T.1 6) (T.1 7) (T.1 8) x f.toInt.toNat) (20 * (T.1 0 15).toInt.toNat) = P f.toInt.toNat := by rw [hP]
      rw [eP]
      by_cases c3 : P f.toInt.toNat = true
      · rw [if_neg (fun z => z c3), if_pos (show inb f 100 = true from i_inb.mpr ⟨by omega, by omega⟩)]
        exact go _ (by rw [if_pos c3]; rfl)
      · rw [if_pos c3]
        exact go _ (by rw [if_neg c3])) N (0, 0, S) ⟨Int.le_refl 0, by show (0 : Int32).toInt ≤ 100; decide, rfl, rfl⟩ (by show 101 - _ < N; omega)
  rw [e, e2]
/-! the class marks the feet that are fitted -/
theorem c_markRow {N : Nat} (hN : 200 < N) {h10 : Int32 × Int32 × Sg → Option Sg} {R : Sg → Prop} {a s lo hi : Int32} {g : Sg} (hl : 0 ≤ lo.toInt ∧ lo.toInt ≤ 100) (hh : -1 ≤ hi.toInt ∧ hi.toInt ≤ 99) (hg : ∀ f : Nat, f < 100 → g 10 f = 0 ∨ g 10 f = 1) (nx : ∀ G : Sg, (∀ i, i ≠ 10 → G i = g i) → (∀ f : Nat, f < 100 → G 10 f = if lo.toInt ≤ f ∧ (f : Int) ≤ hi.toInt then 1 else g 10 f) → ∃ r, x_X7_markFitted_b67 N h10 a s G = some r ∧ R r) : ∃ r, lp (x_X7_markFitted_B46 N h10) N (a, s, hi, lo, g) = some r ∧ R r := by
  refine lp_tot (F := x_X7_markFitted_B46 N h10) (fun x => 101 - x.2.2.2.1.toInt.toNat) (fun x => x.1 = a ∧ x.2.1 = s ∧ x.2.2.1 = hi ∧ lo.toInt ≤ x.2.2.2.1.toInt ∧ x.2.2.2.1.toInt ≤ 100 ∧ (∀ i, i ≠ 10 → x.2.2.2.2 i = g i) ∧ ∀ f : Nat, f < 100 → x.2.2.2.2 10 f = if lo.toInt ≤ f ∧ (f : Int) < x.2.2.2.1.toInt ∧ (f : Int) ≤ hi.toInt then 1 else g 10 f) (fun _ r => R r) ?_ N (a, s, hi, lo, g) ⟨rfl, rfl, rfl, Int.le_refl _, hl.2, fun _ _ => rfl, fun f _ => ?_⟩ (by show 101 - _ < N; omega)
  · intro h46 ⟨y1, y2, y3, f, G⟩ ⟨i1, i2, i3, i4, i5, i6, i7⟩ ih
    have i1 : y1 = a := i1
    have i2 : y2 = s := i2
    have i3 : y3 = hi := i3
    have i4 : lo.toInt ≤ f.toInt := i4
    have i5 : f.toInt ≤ 100 := i5
    have i6 : ∀ i, i ≠ 10 → G i = g i := i6
    have i7 : ∀ q : Nat, q < 100 → G 10 q = if lo.toInt ≤ q ∧ (q : Int) < f.toInt ∧ (q : Int) ≤ hi.toInt then 1 else g 10 q := i7
    subst i1; subst i2; subst i3
    unfold x_X7_markFitted_B46
    simp only [i_lt]
    by_cases c1 : y3.toInt < f.toInt
    · rw [if_pos c1]
      refine nx G i6 (fun q hq => ?_)
      rw [i7 q hq]
      by_cases c2 : lo.toInt ≤ q ∧ (q : Int) ≤ y3.toInt
      · rw [if_pos c2, if_pos (by omega)]
      · rw [if_neg c2, if_neg (by omega)]
    · have e1 := inc1 (x := f) (by omega)
      rw [if_neg c1, if_pos (show inb f 100 = true from i_inb.mpr ⟨by omega, by omega⟩)]
      simp only [lt]
      refine ih (y1, y2, y3, f + 1, _) ⟨rfl, rfl, rfl, by show _ ≤ (f + 1).toInt; omega, by show (f + 1).toInt ≤ 100; omega, fun i hi => ?_, fun q hq => ?_⟩ (by show 101 - (f + 1).toInt.toNat < 101 - f.toInt.toNat; omega)
      · show up G 10 _ i = g i
        rw [up_n _ _ hi]; exact i6 i hi
      · show upd (G 10) f.toNatClampNeg 1 q = if lo.toInt ≤ q ∧ (q : Int) < (f + 1).toInt ∧ (q : Int) ≤ y3.toInt then 1 else g 10 q
        by_cases c2 : q = f.toNatClampNeg
        · subst c2
          rw [upd_s, i_nat, if_pos (by omega)]
        · rw [upd_n _ _ c2, i7 q hq]
          rw [i_nat] at c2
          by_cases c3 : lo.toInt ≤ q ∧ (q : Int) < f.toInt ∧ (q : Int) ≤ y3.toInt
          · rw [if_pos c3, if_pos (by omega)]
          · rw [if_neg c3, if_neg (by omega)]
  · show g 10 f = if lo.toInt ≤ f ∧ (f : Int) < lo.toInt ∧ (f : Int) ≤ hi.toInt then 1 else g 10 f
    rw [if_neg (by omega)]
theorem c_mark {N : Nat} (hN : 1000 < N) {a b : Int32} {g : Sg} (hr : Rg (g 12) (g 13) (g 14) (g 1 4).toInt) (hm : 0 ≤ (g 1 4).toInt ∧ (g 1 4).toInt ≤ 5) (hk : Kg (g 15)) (ha : 0 ≤ a.toInt ∧ a.toInt ≤ b.toInt) (hb : b.toInt ≤ 20 * (g 1 4).toInt) : ∃ G, x_X7_markFitted N a b g = some G ∧ (∀ i, i ≠ 10 → G i = g i) ∧ ∀ f : Nat, f < 100 → G 10 f = b2 (an (fun j => sv (g 12) (g 13) (g 14) (g 15) (a.toInt.toNat + j) f) (b.toInt.toNat - a.toInt.toNat) = true) := by
  obtain ⟨Q, hQ⟩ : ∃ Q : Nat → Nat → Bool, Q = fun f j => sv (g 12) (g 13) (g 14) (g 15) (a.toInt.toNat + j) f := ⟨_, rfl⟩
  have hQ2 : ∀ f n, an (fun j => sv (g 12) (g 13) (g 14) (g 15) (a.toInt.toNat + j) f) n = an (Q f) n := fun f n => by rw [hQ]
  simp only [hQ2]
  unfold x_X7_markFitted
  obtain ⟨g1, e1, o1, z1⟩ := c_fill (N := N) (qc := 10) (nc := 100) (by omega) hN 0 g
  rw [e1]
  simp only [Option.bind_some]
  refine lp_tot (F := x_X7_markFitted_B10 N) (fun x => 101 - x.2.1.toInt.toNat) (fun x => x.1 = b ∧ a.toInt ≤ x.2.1.toInt ∧ x.2.1.toInt ≤ b.toInt ∧ (∀ i, i ≠ 10 → x.2.2 i = g i) ∧ ∀ f : Nat, f < 100 → x.2.2 10 f = b2 (an (Q f) (x.2.1.toInt.toNat - a.toInt.toNat) = true)) (fun _ G => (∀ i, i ≠ 10 → G i = g i) ∧ ∀ f : Nat, f < 100 → G 10 f = b2 (an (Q f) (b.toInt.toNat - a.toInt.toNat) = true)) ?_ N (b, a, g1) ⟨rfl, Int.le_refl _, ha.2, o1, fun f hf => ?_⟩ (by show 101 - _ < N; omega)
  · intro h10 ⟨y1, s, G⟩ ⟨i1, i2, i3, i4, i5⟩ ih
    have i1 : y1 = b := i1
    have i2 : a.toInt ≤ s.toInt := i2
    have i3 : s.toInt ≤ b.toInt := i3
    have i4 : ∀ i, i ≠ 10 → G i = g i := i4
    have i5 : ∀ f : Nat, f < 100 → G 10 f = b2 (an (Q f) (s.toInt.toNat - a.toInt.toNat) = true) := i5
    subst i1
    have q1 := i4 1 (by omega)
    have q12 := i4 12 (by omega)
    have q13 := i4 13 (by omega)
    have q14 := i4 14 (by omega)
    have q15 := i4 15 (by omega)
    unfold x_X7_markFitted_B10
    simp only [i_le]
    by_cases c1 : y1.toInt ≤ s.toInt
    · rw [if_pos c1]
      refine ⟨_, rfl, i4, fun f hf => ?_⟩
      show G 10 f = _
      rw [i5 f hf, show s.toInt = y1.toInt by omega]
    · have e3 := inc1 (x := s) (by omega)
      rw [if_neg c1, c_stk (by rw [q1]; exact hm) (by rw [q15]; exact hk) (by rw [q1]; omega)]
      simp only [Option.bind_some, b2_0]
      have go : ∀ G' : Sg, (∀ i, i ≠ 10 → G' i = G i) → (∀ f : Nat, f < 100 → G' 10 f = b2 (an (Q f) (s.toInt.toNat - a.toInt.toNat + 1) = true)) → ∃ r, x_X7_markFitted_b67 N h10 y1 s G' = some r ∧ (∀ i, i ≠ 10 → r i = g i) ∧ ∀ f : Nat, f < 100 → r 10 f = b2 (an (Q f) (y1.toInt.toNat - a.toInt.toNat) = true) := by
        intro G' o2 z2
        unfold x_X7_markFitted_b67
        simp only [lt]
        refine ih (y1, s + 1, G') ⟨rfl, by show _ ≤ (s + 1).toInt; omega, by show (s + 1).toInt ≤ _; omega, fun i hi => (o2 i hi).trans (i4 i hi), fun f hf => ?_⟩ (by show 101 - (s + 1).toInt.toNat < 101 - s.toInt.toNat; omega)
        show G' 10 f = b2 (an (Q f) ((s + 1).toInt.toNat - a.toInt.toNat) = true)
        rw [z2 f hf, show (s + 1).toInt.toNat - a.toInt.toNat = s.toInt.toNat - a.toInt.toNat + 1 by omega]
      have hq : ∀ f, Q f (s.toInt.toNat - a.toInt.toNat) = (Sb (g 15) s.toInt.toNat && fz (g 12) (g 13) (g 14) s.toInt.toNat f) := by
        intro f
        rw [hQ]
        show sv _ _ _ _ (a.toInt.toNat + (s.toInt.toNat - a.toInt.toNat)) f = _
        rw [show a.toInt.toNat + (s.toInt.toNat - a.toInt.toNat) = s.toInt.toNat by omega]
        rfl
      have hs1 : ∀ f, an (Q f) (s.toInt.toNat - a.toInt.toNat + 1) = (an (Q f) (s.toInt.toNat - a.toInt.toNat) || Q f (s.toInt.toNat - a.toInt.toNat)) := fun f => rfl
      rw [q15]
      by_cases c2 : Sb (g 15) s.toInt.toNat = true
      · have hx : 0 ≤ s.toInt ∧ s.toInt < 20 * (G 1 4).toInt := by rw [q1]; omega
        have hR : Rg (G 12) (G 13) (G 14) (G 1 4).toInt := by rw [q1, q12, q13, q14]; exact hr
        have r0 := rc_b (kd := g 12) (nb := g 13) (rn := g 14) (x := s.toInt.toNat) (a := 0)
        have r1 := rc_b (kd := g 12) (nb := g 13) (rn := g 14) (x := s.toInt.toNat) (a := 1)
        have v0 := of_i (z := rc (g 12) (g 13) (g 14) s.toInt.toNat 0) (by omega) (by omega)
        have v1 := of_i (z := rc (g 12) (g 13) (g 14) s.toInt.toNat 1 + 1) (by omega) (by omega)
        rw [if_neg (fun z => z c2), c_greatest hR (by rw [q1]; omega) hx]
        simp only [Option.bind_some]
        rw [c_least hR (by rw [q1]; omega) hx]
        simp only [Option.bind_some]
        rw [q12, q13, q14]
        refine c_markRow (by omega) (by rw [v1]; omega) (by rw [v0]; omega) (fun f hf => ?_) (fun G' o2 z2 => go G' o2 (fun f hf => ?_))
        · rw [i5 f hf]; exact b2_01 _
        · rw [z2 f hf, v0, v1, i5 f hf, hs1 f, hq f, c2, Bool.true_and, fz_rc (hr _ (by omega)).1 hf]
          by_cases c3 : rc (g 12) (g 13) (g 14) s.toInt.toNat 1 + 1 ≤ f ∧ (f : Int) ≤ rc (g 12) (g 13) (g 14) s.toInt.toNat 0
          · rw [if_pos c3, decide_eq_true c3, Bool.or_true]; rfl
          · rw [if_neg c3, decide_eq_false c3, Bool.or_false]
      · rw [if_pos c2]
        refine go G (fun _ _ => rfl) (fun f hf => ?_)
        rw [i5 f hf, hs1 f, hq f, Bool.eq_false_iff.mpr c2, Bool.false_and, Bool.or_false]
  · show g1 10 f = b2 (an (Q f) (a.toInt.toNat - a.toInt.toNat) = true)
    rw [z1 f hf, Nat.sub_self]
    rfl
