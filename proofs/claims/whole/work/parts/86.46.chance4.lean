theorem c_draw1 {N : Nat} (hN : 200 < N) (s : Int32) {g : Sg} {P : Nat → Bool} (h : ∀ f : Nat, f < 100 → g 10 f = b2 (P f = true)) : x_X7_draw N s 1 g = some (ps (dq s) P 100, g) := by
  rw [c_draw hN s 1 (Or.inr rfl) h]
  refine congrArg (fun z => some (z, g)) (ps_congr 100 (fun f _ => ⟨?_, fun _ => rfl⟩))
  rw [show decide ((1 : Int32) = 0) = false from by decide, Bool.false_or]
theorem c_draw0 {N : Nat} (hN : 200 < N) (s : Int32) {g : Sg} {P : Nat → Bool} (h : ∀ f : Nat, f < 100 → g 10 f = b2 (P f = true)) : x_X7_draw N s 0 g = some (ps (dq s) (fun _ => true) 100, g) := by
  rw [c_draw hN s 0 (Or.inl rfl) h]
  refine congrArg (fun z => some (z, g)) (ps_congr 100 (fun f _ => ⟨?_, fun _ => rfl⟩))
  rw [show decide ((0 : Int32) = 0) = true from by decide, Bool.true_or]
theorem o_chance {TX : TXt} {g : Sg} {S : SM} (h : Inv TX g S) {N : Nat} (hN : 1000 < N) (s n p : Int32) : SimL TX (x_X7_chance N s n p g) (x_X8_chance N s n p S) := by
  obtain ⟨k1, k2, k3⟩ := mk5 h
  unfold x_X7_chance x_X8_chance
  simp only [m_in, Option.bind_some, i_l64, b2_0, i_lt, i_le, Int32.reduceToInt, Int64.reduceToInt]
  by_cases h1 : 1 ≤ n.toInt ∧ n.toInt ≤ 20
  · rw [if_neg (show ¬ n.toInt < 1 by omega), if_neg (show ¬ 20 < n.toInt by omega), if_neg (show ¬ ¬ (1 ≤ n.toInt ∧ n.toInt ≤ 20) from fun z => z h1)]
    by_cases h2 : 0 ≤ p.toInt ∧ p.toInt ≤ 1
    · rw [if_neg (show ¬ p.toInt < 0 by omega), if_pos h2.2, if_neg (show ¬ ¬ (0 ≤ p.toInt ∧ p.toInt ≤ 1) from fun z => z h2)]
      obtain ⟨G, e, o, z⟩ := c_markAll h hN
      have hI := inv_g h (G := G) (fun i hi => o i (by omega))
      obtain ⟨b, e1, e2⟩ := c_shoes (N := N) ⟨k2, k3⟩
      rw [e1] at e ⊢
      simp only [Option.bind_some] at e ⊢
      rw [e]
      simp only [Option.bind_some]
      obtain ⟨P, hP⟩ : ∃ P : Nat → Bool, P = fun f => an (fun x => sv (S.1 5) (S.1 6) (S.1 7) (S.1 8) x f) (20 * (g 1 4).toInt.toNat) := ⟨_, rfl⟩
      have z : ∀ f : Nat, f < 100 → G 10 f = b2 (P f = true) := fun f hf => by rw [hP]; exact z f hf
      have key := lp_two (F := x_X7_chance_B42 N) (G := x_X8_chance_B32 N) (fun x => 21 - x.2.2.2.2.1.toInt.toNat) (fun x y => x.1 = s ∧ x.2.1 = n ∧ x.2.2.1 = p ∧ y.1 = s ∧ y.2.1 = n ∧ y.2.2.1 = p ∧ x.2.2.2.1.toInt = y.2.2.2.1.toInt ∧ x.2.2.2.2.1 = y.2.2.2.2.1 ∧ 0 ≤ x.2.2.2.1.toInt ∧ x.2.2.2.1.toInt ≤ x.2.2.2.2.1.toInt ∧ x.2.2.2.2.1.toInt ≤ n.toInt ∧ x.2.2.2.2.2 = G ∧ (∀ i, i ≠ 0 → i ≠ 15 → y.2.2.2.2.2.1 i = S.1 i) ∧ ∀ k, k ≠ 43 → y.2.2.2.2.2.1 0 k = S.1 0 k) (fun r s => r.1 = s.1 ∧ Inv TX r.2 s.2) ?_ N (s, n, p, 0, 0, G) (s, n, p, 0, 0, S) ⟨rfl, rfl, rfl, rfl, rfl, rfl, (by show (0 : Int32).toInt = (0 : Int64).toInt; decide), rfl, Int.le_refl 0, Int.le_refl 0, by show (0 : Int32).toInt ≤ n.toInt; simp only [Int32.reduceToInt]; omega, rfl, fun _ _ _ => rfl, fun _ _ => rfl⟩ (by show 21 - _ < N; omega)
      · obtain ⟨⟨r, rg⟩, ⟨q, rs⟩, t1, t2, t3, t4⟩ := key
        have t3 : r = q := t3
        subst t3
        exact ⟨r, rg, rs, t1, t2, t4⟩
      intro hh kk ⟨x1, x2, x3, w, i, X⟩ ⟨y1, y2, y3, v, i', Y⟩ ⟨j1, j2, j3, j4, j5, j6, j7, j8, j9, j10, j11, j12, j13, j14⟩ ih
      have i1 : x1 = s := j1
      have i2 : x2 = n := j2
      have i3 : x3 = p := j3
      have i4 : y1 = s := j4
      have i5 : y2 = n := j5
      have i6 : y3 = p := j6
      have i7 : w.toInt = v.toInt := j7
      have i8 : i = i' := j8
      have i9 : 0 ≤ w.toInt := j9
      have i10 : w.toInt ≤ i.toInt := j10
      have i11 : i.toInt ≤ n.toInt := j11
      have i12 : X = G := j12
      have i13 : ∀ i, i ≠ 0 → i ≠ 15 → Y.1 i = S.1 i := j13
      have i14 : ∀ k, k ≠ 43 → Y.1 0 k = S.1 0 k := j14
      clear j1 j2 j3 j4 j5 j6 j7 j8 j9 j10 j11 j12 j13 j14
      subst i1; subst i2; subst i3; subst i4; subst i5; subst i6; subst i8; subst i12
      have hY : Inv TX X Y := inv_t hI i13 i14
      unfold x_X7_chance_B42 x_X8_chance_B32
      simp only [i_le, i_lt]
      by_cases c1 : y2.toInt ≤ i.toInt
      · rw [if_pos c1, if_pos c1]
        obtain ⟨d, d1, d2⟩ := c_common (N := N) (a := w) (n := y2) (g := X) i9 h1.1 (by omega)
        have wp : 0 < Nat.gcd w.toInt.toNat y2.toInt.toNat := Nat.gcd_pos_of_pos_right _ (by omega)
        obtain ⟨d', d3, d4⟩ := m_gcd (N := N) (n := y2) (p := y3) (a := v) (u := v) (v := y2.toInt64) (S := Y) (Nat.gcd w.toInt.toNat y2.toInt.toNat) (by omega) (by rw [i_l64]; omega) (by rw [i_l64, i7]) wp (by rw [i_l64]; omega)
        rw [d1]
        simp only [Option.bind_some, lt]
        rw [d3]
        have nd : ¬ d = 0 := fun q => by rw [q] at d2; have : (0 : Int32).toInt = 0 := by decide
                                         omega
        rw [if_neg nd, if_neg nd]
        have dv : ∀ (x : Int32) (x' : Int64), 0 ≤ x.toInt → x.toInt = x'.toInt → (x / d).toInt64 = x' / d' := by
          intro x x' hx hxx
          refine l_eq.mpr ?_
          rw [i_l64, i_div (by omega), l_div (by omega) (by omega), Int.tdiv_eq_ediv_of_nonneg hx, d2, d4, hxx]
        by_cases c2 : y3 = 0
        · rw [if_pos c2, if_pos c2]
          exact ⟨_, _, rfl, rfl, dv w v i9 i7, hY⟩
        · rw [if_neg c2, if_neg c2]
          exact ⟨_, _, rfl, rfl, dv y2 y2.toInt64 (by omega) (by rw [i_l64]), hY⟩
      · have e5 := inc1 (x := i) (by omega)
        rw [if_neg c1, if_neg c1]
        have q0 := i14 15 (by omega)
        have q5 := i13 5 (by omega) (by omega)
        have q6 := i13 6 (by omega) (by omega)
        have q7 := i13 7 (by omega) (by omega)
        have q8 := i13 8 (by omega) (by omega)
        obtain ⟨T, t1, t2, t3, t4⟩ := m_draws (N := N) (by omega) (y1 + i) (S := Y) (by rw [q0, q5, q6, q7, ← k1]; exact Rg_m h) (by rw [q0, ← k1]; exact ⟨k2, k3⟩) (by rw [q8]; exact Kg_m h)
        rw [q0, q5, q6, q7, q8, ← k1, ← hP] at t1
        have u1 := c_draw1 (N := N) (by omega) (y1 + i) z
        have u2 := c_draw0 (N := N) (by omega) (y1 + i) z
        generalize ps (dq (y1 + i)) P 100 = A at t1 u1
        generalize ps (dq (y1 + i)) (fun _ => true) 100 = B at t2 u2
        rw [t1, u1]
        simp only [Option.bind_some]
        rw [u2, Option.bind_some]
        clear u1 u2 t1
        have go : ∀ (c : Int32) (c' : Int64), c.toInt = c'.toInt → 0 ≤ c.toInt → c.toInt ≤ 1 → ∃ r q, x_X7_chance_b78 N hh y1 y2 y3 i c w X = some r ∧ x_X8_chance_b66 N kk y1 y2 y3 i c' v T = some q ∧ r.1 = q.1 ∧ Inv TX r.2 q.2 := by
          intro c c' hc h0 hc1
          unfold x_X7_chance_b78 x_X8_chance_b66
          simp only [lt]
          have ew : (w + c).toInt = w.toInt + c.toInt := by rw [i_add] <;> omega
          have ev : (v + c').toInt = v.toInt + c'.toInt := by rw [l_add] <;> omega
          exact ih (y1, y2, y3, w + c, i + 1, X) (y1, y2, y3, v + c', i + 1, T) ⟨rfl, rfl, rfl, rfl, rfl, rfl, by show (w + c).toInt = (v + c').toInt; omega, rfl, by show 0 ≤ (w + c).toInt; omega, by show (w + c).toInt ≤ (i + 1).toInt; omega, by show (i + 1).toInt ≤ y2.toInt; omega, rfl, fun q q1 q2 => (t3 q q1 q2).trans (i13 q q1 q2), fun q q1 => (t4 q q1).trans (i14 q q1)⟩ (by show 21 - (i + 1).toInt.toNat < 21 - i.toInt.toNat; omega)
        by_cases c2 : (2 * A).toInt < B.toInt
        · rw [if_pos c2, if_pos (show (2 * A).toInt < (T.1 0 43).toInt by rw [t2]; exact c2)]; exact go 0 0 (by decide) (by decide) (by decide)
        · rw [if_neg c2, if_neg (show ¬ (2 * A).toInt < (T.1 0 43).toInt by rw [t2]; exact c2)]; exact go 1 1 (by decide) (by decide) (by decide)
    · rw [if_pos (show ¬ (0 ≤ p.toInt ∧ p.toInt ≤ 1) from h2)]
      by_cases h3 : p.toInt < 0
      · rw [if_pos h3]; exact SimL.mk h
      · rw [if_neg h3, if_neg (show ¬ p.toInt ≤ 1 by omega)]; exact SimL.mk h
  · rw [if_pos (show ¬ (1 ≤ n.toInt ∧ n.toInt ≤ 20) from h1)]
    by_cases h3 : n.toInt < 1
    · rw [if_pos h3]; exact SimL.mk h
    · rw [if_neg h3, if_pos (show 20 < n.toInt by omega)]; exact SimL.mk h
