theorem GO_cm {TX : TXt} {g : Sg} {S : SM} (h : Inv TX g S) (d : Nat) (P : Nat → Bool) (f : Nat) : GO (S.1 5) (S.1 6) (S.1 7) (S.1 8) (20 * (S.1 0 15).toInt.toNat) d P f = GO (g 12) (g 13) (g 14) (g 15) (20 * (g 1 4).toInt.toNat) d P f := by
  obtain ⟨k1, k2, k3⟩ := mk5 h
  rw [← k1]
  exact GO_c (fun x hx => ⟨Sb_cm h (by omega), fun q => Sy_cm h (by omega) q⟩) d P P f (fun _ _ => rfl)
theorem finds_both {TX : TXt} {g : Sg} {S : SM} (h : Inv TX g S) {N : Nat} (hN : 200 < N) : ∃ T, x_X8_findsAll N S = some T ∧ Inv TX g T ∧ ∀ f : Nat, f < 100 → T.1 12 f = Int32.ofInt (GO (g 12) (g 13) (g 14) (g 15) (20 * (g 1 4).toInt.toNat) 20 (inS 0 99) f) := by
  obtain ⟨k1, k2, k3⟩ := mk5 h
  obtain ⟨T, t1, t2, t3, t4⟩ := m_findsAll (N := N) hN (S := S) (by rw [← k1]; exact Rg_m h) (by rw [← k1]; exact ⟨k2, k3⟩) (Kg_m h)
  exact ⟨T, t1, inv_k h (fun _ _ => rfl) rfl (fun i hi => t2 i (by omega)) (fun k hk => t3 k (by omega)), fun f hf => by rw [t4 f hf, GO_cm h]⟩
theorem o_goes {TX : TXt} {g : Sg} {S : SM} (h : Inv TX g S) {N : Nat} (hN : 1000 < N) (a : Int32) : Sim TX (x_X7_goes N a g) (x_X8_goes N a S) := by
  obtain ⟨k1, k2, k3⟩ := mk5 h
  unfold x_X7_goes x_X8_goes
  rw [c_isFoot, m_isFoot]
  simp only [Option.bind_some, b2_0]
  by_cases h1 : 0 ≤ a.toInt ∧ a.toInt ≤ 99
  · rw [if_neg (show ¬ ¬ (0 ≤ a.toInt ∧ a.toInt ≤ 99) from fun z => z h1), if_neg (show ¬ ¬ (0 ≤ a.toInt ∧ a.toInt ≤ 99) from fun z => z h1)]
    obtain ⟨r, G, lo, hi, e1, e2, e3, e4, e5, e6, e7, e8⟩ := c_findFor (N := N) (by omega) (Rg_c h) ⟨k2, k3⟩ (Kg_c h) h1
    obtain ⟨T, t1, t2, t3⟩ := finds_both h (N := N) (by omega)
    rw [e1, t1]
    simp only [Option.bind_some]
    rw [if_pos (show inb a 100 = true from i_inb.mpr ⟨by omega, by omega⟩), i_nat, t3 _ (by omega), ← eq_of e7]
    exact Sim.mk (inv_g t2 (fun i hi => e2 i (by omega)))
  · rw [if_pos h1, if_pos h1]; exact Sim.mk h
theorem o_worst {TX : TXt} {g : Sg} {S : SM} (h : Inv TX g S) {N : Nat} (hN : 1000 < N) (a : Int32) : Sim TX (x_X7_worst N a g) (x_X8_worst N a S) := by
  obtain ⟨k1, k2, k3⟩ := mk5 h
  unfold x_X7_worst x_X8_worst
  simp only [m_in, Option.bind_some, i_l64, b2_0, i_lt, i_le, Int32.reduceToInt, Int64.reduceToInt]
  by_cases h1 : 0 ≤ a.toInt ∧ a.toInt ≤ 1
  · rw [if_neg (show ¬ a.toInt < 0 by omega), if_pos h1.2, if_neg (show ¬ ¬ (0 ≤ a.toInt ∧ a.toInt ≤ 1) from fun z => z h1)]
    obtain ⟨T, t1, t2, t3⟩ := finds_both h (N := N) (by omega)
    obtain ⟨A, hA⟩ : ∃ A : Nat → Int, A = GO (g 12) (g 13) (g 14) (g 15) (20 * (g 1 4).toInt.toNat) 20 (inS 0 99) := ⟨_, rfl⟩
    rw [← hA] at t3
    rw [t1]
    simp only [Option.bind_some]
    refine Sim.ofP (lp_two (F := x_X7_worst_B25 N) (G := x_X8_worst_B24 N) (fun x => 101 - x.2.2.2.2.2.1.toInt.toNat) (fun x y => x.1 = a ∧ y.1 = a ∧ x.2.1 = y.2.1 ∧ x.2.2.1 = y.2.2.1 ∧ x.2.2.2.2.2.1 = y.2.2.2.1 ∧ 0 ≤ x.2.2.2.2.2.1.toInt ∧ x.2.2.2.2.2.1.toInt ≤ 100 ∧ (∀ j, ¬ (j = 6 ∨ j = 7) → x.2.2.2.2.2.2 j = g j) ∧ y.2.2.2.2 = T ∧ ∀ q : Nat, q < 100 → x.2.2.2.2.2.1.toInt ≤ q → (q : Int) ≤ x.2.2.2.2.1.toInt → x.2.2.2.1.toInt = A q) (SimP TX) ?_ N (a, -1, 0, -1, -1, 0, g) (a, -1, 0, 0, T) ⟨rfl, rfl, rfl, rfl, rfl, Int.le_refl 0, by show (0 : Int32).toInt ≤ 100; decide, fun _ _ => rfl, rfl, fun q _ h0 h2 => by
      have h0 : (0 : Int32).toInt ≤ (q : Int) := h0
      have h2 : (q : Int) ≤ (-1 : Int32).toInt := h2
      have z0 : (0 : Int32).toInt = 0 := by decide
      have z1 : (-1 : Int32).toInt = -1 := by decide
      omega⟩ (by show 101 - _ < N; omega))
    intro hh kk ⟨x1, p, c, fd, al, f, X⟩ ⟨y1, p', c', f', Y⟩ ⟨j1, j2, j3, j4, j5, j6, j7, j8, j9, j10⟩ ih
    have i1 : x1 = a := j1
    have i2 : y1 = a := j2
    have i3 : p = p' := j3
    have i4 : c = c' := j4
    have i5 : f = f' := j5
    have i6 : 0 ≤ f.toInt := j6
    have i7 : f.toInt ≤ 100 := j7
    have i8 : ∀ j, ¬ (j = 6 ∨ j = 7) → X j = g j := j8
    have i9 : Y = T := j9
    have i10 : ∀ q : Nat, q < 100 → f.toInt ≤ q → (q : Int) ≤ al.toInt → fd.toInt = A q := j10
    clear j1 j2 j3 j4 j5 j6 j7 j8 j9 j10
    subst i1; subst i2; subst i3; subst i4; subst i5; subst i9
    have hX : Inv TX X Y := inv_g t2 (fun i hi => i8 i (by omega))
    unfold x_X7_worst_B25 x_X8_worst_B24
    simp only [i_le, Int32.reduceToInt]
    by_cases c1 : 100 ≤ f.toInt
    · rw [if_pos c1, if_pos c1]
      by_cases c2 : y1 = 0
      · rw [if_pos c2, if_pos c2]; exact ⟨_, _, rfl, rfl, rfl, hX⟩
      · rw [if_neg c2, if_neg c2]; exact ⟨_, _, rfl, rfl, rfl, hX⟩
    · have e1 := inc1 (x := f) (by omega)
      have b100 : inb f 100 = true := i_inb.mpr ⟨by omega, by omega⟩
      rw [if_neg c1, if_neg c1, if_pos b100, if_pos b100]
      unfold x_X8_worst_b53
      rw [if_pos b100, if_pos b100]
      have t3f := t3 f.toInt.toNat (by omega)
      simp only [i_nat, t3f]
      have go : ∀ (fd2 al2 : Int32) (X2 : Sg), (∀ j, ¬ (j = 6 ∨ j = 7) → X2 j = g j) → fd2.toInt = A f.toInt.toNat → (∀ q : Nat, q < 100 → f.toInt ≤ q → (q : Int) ≤ al2.toInt → fd2.toInt = A q) → ∃ r s, x_X7_worst_b56 N hh y1 p c fd2 al2 f X2 = some r ∧ (if (Int32.ofInt (A f.toInt.toNat)).toInt ≤ p.toInt then (if Int32.ofInt (A f.toInt.toNat) = -1 then x_X8_worst_b71 N kk y1 p f 1 c Y else x_X8_worst_b71 N kk y1 p f 0 c Y) else (if Int32.ofInt (A f.toInt.toNat) = -1 then x_X8_worst_b71 N kk y1 (Int32.ofInt (A f.toInt.toNat)) f 1 c Y else x_X8_worst_b71 N kk y1 (Int32.ofInt (A f.toInt.toNat)) f 0 c Y)) = some s ∧ SimP TX r s := by
        intro fd2 al2 X2 o1 o2 o3
        have o2e := eq_of o2
        simp only [← o2e]
        have nx : ∀ (p2 t : Int32), ∃ r s, x_X7_worst_b75 N hh y1 p2 fd2 al2 f t c X2 = some r ∧ x_X8_worst_b71 N kk y1 p2 f t c Y = some s ∧ SimP TX r s := by
          intro p2 t
          unfold x_X7_worst_b75 x_X8_worst_b71
          simp only [lt]
          exact ih (y1, p2, c + t, fd2, al2, f + 1, X2) (y1, p2, c + t, f + 1, Y) ⟨rfl, rfl, rfl, rfl, rfl, by show 0 ≤ (f + 1).toInt; omega, by show (f + 1).toInt ≤ 100; omega, o1, rfl, fun q hq h0 h2 => o3 q hq (by have h0 : (f + 1).toInt ≤ (q : Int) := h0; omega) h2⟩ (by show 101 - (f + 1).toInt.toNat < 101 - f.toInt.toNat; omega)
        unfold x_X7_worst_b56
        simp only [lt]
        unfold mxI
        simp only [i_lt]
        by_cases c2 : fd2.toInt ≤ p.toInt
        · rw [if_pos c2, if_neg (show ¬ p.toInt < fd2.toInt by omega)]
          by_cases c3 : fd2 = -1
          · rw [if_pos c3, if_pos c3]; exact nx _ _
          · rw [if_neg c3, if_neg c3]; exact nx _ _
        · rw [if_neg c2, if_pos (show p.toInt < fd2.toInt by omega)]
          by_cases c3 : fd2 = -1
          · rw [if_pos c3, if_pos c3]; exact nx _ _
          · rw [if_neg c3, if_neg c3]; exact nx _ _
      by_cases c2 : f.toInt ≤ al.toInt
      · rw [if_pos c2]
        exact go fd al X i8 (i10 _ (by omega) (by omega) (by omega)) i10
      · rw [if_neg c2]
        obtain ⟨kk1, kk2, kk3⟩ := mk5 hX
        obtain ⟨r, G, lo, hi, w1, w2, w3, w4, w5, w6, w7, w8⟩ := c_findFor (N := N) (by omega) (Rg_c hX) ⟨kk2, kk3⟩ (Kg_c hX) (show 0 ≤ f.toInt ∧ f.toInt ≤ 99 by omega)
        rw [i8 1 (by omega), i8 12 (by omega), i8 13 (by omega), i8 14 (by omega), i8 15 (by omega), ← hA] at w7 w8
        rw [w1]
        simp only [Option.bind_some, lt]
        refine go r (G 6 1) G (fun j hj => (w2 j hj).trans (i8 j hj)) w7 (fun q hq h0 h2 => ?_)
        rw [w7]
        refine (w8 q hq ?_).symm
        unfold inS at w6 ⊢
        rw [decide_eq_true_eq] at w6 ⊢
        omega
  · rw [if_pos (show ¬ (0 ≤ a.toInt ∧ a.toInt ≤ 1) from h1)]
    by_cases h2 : a.toInt < 0
    · rw [if_pos h2]; exact Sim.mk h
    · rw [if_neg h2, if_neg (show ¬ a.toInt ≤ 1 by omega)]; exact Sim.mk h
