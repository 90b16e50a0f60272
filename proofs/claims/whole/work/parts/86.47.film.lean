/-! film -/
theorem by8 {d : Int32} (h : -128 ≤ d.toInt ∧ d.toInt ≤ 127) : d.toInt8.toInt32 = d := by
  refine i_eq.mpr ?_
  rw [Int8.toInt_toInt32, Int32.toInt_toInt8, Int.bmod_eq_of_le] <;> omega
theorem inv_put {TX : TXt} {g : Sg} {S : SM} (h : Inv TX g S) {k b : Nat} (z : Int32) (hk : k < 4) (hb : b < 40) : Inv TX (up g (33 + k) (upd (g (33 + k)) b z)) (up S.1 21 (upd (S.1 21) (40 * k + b) z), S.2) := by
  have hH := h.2.2.2.2.2.2.1
  refine inv_H h (fun j hj => up_n _ _ (by omega)) (fun j hj => up_n _ _ (by omega)) ?_
  intro j hj
  have g30 : up g (33 + k) (upd (g (33 + k)) b z) 30 = g 30 := up_n _ _ (by omega)
  have g31 : up g (33 + k) (upd (g (33 + k)) b z) 31 = g 31 := up_n _ _ (by omega)
  have t18 : up S.1 21 (upd (S.1 21) (40 * k + b) z) 18 = S.1 18 := rfl
  have t19 : up S.1 21 (upd (S.1 21) (40 * k + b) z) 19 = S.1 19 := rfl
  have t20 : up S.1 21 (upd (S.1 21) (40 * k + b) z) 20 = S.1 20 := rfl
  rw [g30, g31]
  rcases hH j hj with ⟨u1, u2⟩ | ⟨u1, u2, u3, u4, u5, u6⟩
  · exact Or.inl ⟨u1, u2⟩
  · refine Or.inr ⟨u1, u2, u3, u4, u5, fun i hi => ?_⟩
    show up g (33 + k) _ (33 + j) i = upd (S.1 21) (40 * k + b) z (40 * j + i)
    by_cases hjk : j = k
    · subst hjk
      rw [up_s]
      by_cases hi2 : i = b
      · subst hi2; rw [upd_s, upd_s]
      · rw [upd_n _ _ hi2, upd_n _ _ (by omega)]; exact u6 i hi
    · rw [up_n _ _ (by omega), upd_n _ _ (by omega)]; exact u6 i hi
theorem c_put0 {N : Nat} {a b d : Int32} {g : Sg} (ha : 0 ≤ a.toInt ∧ a.toInt ≤ 3) (hb : 0 ≤ b.toInt ∧ b.toInt < 40) (h0 : g 30 a.toNatClampNeg = 0) (hd : -128 ≤ d.toInt ∧ d.toInt ≤ 127) : x_X3_put N a b d g = some (up g (33 + a.toNatClampNeg) (upd (g (33 + a.toNatClampNeg)) b.toNatClampNeg d)) := by
  unfold x_X3_put
  rw [if_pos (show inb a 4 = true from i_inb.mpr ⟨ha.1, by omega⟩), if_pos h0, if_pos (show inb a 4 = true from i_inb.mpr ⟨ha.1, by omega⟩), if_pos (show inb b 40 = true from i_inb.mpr ⟨hb.1, by omega⟩), by8 hd]
  rfl
theorem become_both {TX : TXt} {g : Sg} {S : SM} (h : Inv TX g S) {N : Nat} (hN : 1000 < N) {a n : Int32} (ha : 0 ≤ a.toInt ∧ a.toInt ≤ 3) (hn : 0 ≤ n.toInt ∧ n.toInt ≤ 40) : ∃ G r T, x_X3_become N a 0 n g = some G ∧ x_X8_sheet N a 0 n S = some (r, T) ∧ Inv TX G T ∧ G 30 a.toNatClampNeg = 0 ∧ G 31 a.toNatClampNeg = n ∧ ∀ j, j < 30 → G j = g j := by
  obtain ⟨r, G, T, e1, e2, e3⟩ := o_sheet h hN a 0 n
  obtain ⟨G', f1, f2, f3, f4, f5, f6⟩ := c_become hN (a := a) 0 n g ha
  unfold x_X7_sheet at e1
  rw [c_isOne] at e1
  simp only [Option.bind_some, b2_0] at e1
  rw [if_neg (fun z => z ha), if_neg (by decide), if_pos (by decide), if_neg (by decide), if_pos (by rw [i_le]; simp only [Int32.reduceToInt]; omega), if_pos (by rw [i_le]; simp only [Int32.reduceToInt]; omega), f1] at e1
  have e4 : G' = G := congrArg Prod.snd (Option.some.inj e1)
  subst e4
  exact ⟨G', r, T, f1, e2, e3, by rw [f3]; exact upd_s _ _ _, by rw [f4]; exact upd_s _ _ _, f2⟩
theorem o_film {TX : TXt} {g : Sg} {S : SM} (h : Inv TX g S) {N : Nat} (hN : 1000 < N) (a f n : Int32) : Sim TX (x_X7_film N a f n g) (x_X8_film N a f n S) := by
  unfold x_X7_film x_X8_film
  rw [c_isOne, m_isSheet]
  simp only [Option.bind_some, b2_0, c_isFoot, m_isFoot, m_in, i_l64, i_lt, i_le, Int32.reduceToInt, Int64.reduceToInt]
  by_cases h1 : 0 ≤ a.toInt ∧ a.toInt ≤ 3
  · rw [if_neg (show ¬ ¬ (0 ≤ a.toInt ∧ a.toInt ≤ 3) from fun z => z h1), if_neg (show ¬ ¬ (0 ≤ a.toInt ∧ a.toInt ≤ 3) from fun z => z h1)]
    by_cases h2 : 0 ≤ f.toInt ∧ f.toInt ≤ 99
    · rw [if_neg (show ¬ ¬ (0 ≤ f.toInt ∧ f.toInt ≤ 99) from fun z => z h2), if_neg (show ¬ ¬ (0 ≤ f.toInt ∧ f.toInt ≤ 99) from fun z => z h2)]
      by_cases h3 : 0 ≤ n.toInt ∧ n.toInt ≤ 20
      · rw [if_neg (show ¬ n.toInt < 0 by omega), if_pos h3.2, if_neg (show ¬ ¬ (0 ≤ n.toInt ∧ n.toInt ≤ 20) from fun z => z h3)]
        obtain ⟨m, e1, e2, e3, e4⟩ := stocked_both (N := N) (by omega) h
        rw [e1, e2]
        simp only [Option.bind_some, lt]
        have em := min_i n m
        have eq : ∀ F : Int32 → Option (Int32 × SM), (if n.toInt ≤ m.toInt then F n else (x_X8_stockMany N S).bind fun q21 => F q21.1) = F (mnI n m) := by
          intro F
          unfold mnI
          simp only [i_lt]
          by_cases c : n.toInt ≤ m.toInt
          · rw [if_pos c, if_neg (by omega)]
          · rw [if_neg c, if_pos (show m.toInt < n.toInt by omega), e2]; rfl
        have eq2 : (if n.toInt ≤ m.toInt then x_X8_film_b45 N a f n S else (x_X8_stockMany N S).bind fun q21 => x_X8_film_b45 N a f q21.1 q21.2) = x_X8_film_b45 N a f (mnI n m) S := by
          have := eq (fun z => x_X8_film_b45 N a f z S)
          rw [← this]
          by_cases c : n.toInt ≤ m.toInt
          · rw [if_pos c, if_pos c]
          · rw [if_neg c, if_neg c, e2]; rfl
        rw [eq2]
        generalize mnI n m = w at em ⊢
        unfold x_X8_film_b45
        have ew := dbl (i := w) (by omega)
        obtain ⟨G, r, T, b1, b2, b3, b4, b5, b6⟩ := become_both h hN (a := a) (n := 2 * w) h1 (by omega)
        rw [b1, b2]
        simp only [Option.bind_some]
        obtain ⟨k, hk⟩ : ∃ k, k = a.toNatClampNeg := ⟨_, rfl⟩
        have ek : (k : Int) = a.toInt := by rw [hk, i_nat]; omega
        rw [← hk] at b4 b5
        refine Sim.ofP (lp_two (F := x_X7_film_B59 N) (G := x_X8_film_B64 N) (fun x => 101 - x.2.2.2.2.1.toInt.toNat) (fun x y => x.1 = a ∧ y.1 = a ∧ x.2.1 = f ∧ y.2.1 = f ∧ x.2.2.1 = w ∧ y.2.2.1 = w ∧ x.2.2.2.1 = y.2.2.2.1 ∧ x.2.2.2.2.1 = y.2.2.2.2.1 ∧ 0 ≤ x.2.2.2.1.toInt ∧ x.2.2.2.1.toInt ≤ w.toInt ∧ 0 ≤ x.2.2.2.2.1.toInt ∧ x.2.2.2.2.1.toInt ≤ 100 ∧ x.2.2.2.2.2 30 k = 0 ∧ Inv TX x.2.2.2.2.2 y.2.2.2.2.2) (SimP TX) ?_ N (a, f, w, 0, 0, G) (a, f, w, 0, 0, T) ⟨rfl, rfl, rfl, rfl, rfl, rfl, rfl, rfl, Int.le_refl 0, by show (0 : Int32).toInt ≤ w.toInt; simp only [Int32.reduceToInt]; omega, Int.le_refl 0, by show (0 : Int32).toInt ≤ 100; decide, b4, b3⟩ (by show 101 - _ < N; omega))
        intro hh kk ⟨x1, x2, x3, r, s, X⟩ ⟨y1, y2, y3, r', s', Y⟩ ⟨j1, j2, j3, j4, j5, j6, j7, j8, j9, j10, j11, j12, j13, j14⟩ ih
        have i1 : x1 = a := j1
        have i2 : y1 = a := j2
        have i3 : x2 = f := j3
        have i4 : y2 = f := j4
        have i5 : x3 = w := j5
        have i6 : y3 = w := j6
        have i7 : r = r' := j7
        have i8 : s = s' := j8
        have i9 : 0 ≤ r.toInt := j9
        have i10 : r.toInt ≤ w.toInt := j10
        have i11 : 0 ≤ s.toInt := j11
        have i12 : s.toInt ≤ 100 := j12
        have i13 : X 30 k = 0 := j13
        have i14 : Inv TX X Y := j14
        clear j1 j2 j3 j4 j5 j6 j7 j8 j9 j10 j11 j12 j13 j14 eq eq2
        subst i1; subst i2; subst i3; subst i4; subst i5; subst i6; subst i7; subst i8
        obtain ⟨k1, k2, k3⟩ := mk5 i14
        obtain ⟨b, d1, d2⟩ := c_shoes (N := N) (g := X) ⟨k2, k3⟩
        have d3 : (20 * Y.1 0 15).toInt = 20 * (X 1 4).toInt := by rw [← k1]; exact mul_l (by decide) rfl (by omega)
        unfold x_X7_film_B59 x_X8_film_B64
        simp only [d1, Option.bind_some, i_le, d2, d3]
        by_cases c1 : 20 * (X 1 4).toInt ≤ s.toInt
        · rw [if_pos c1, if_pos c1]; exact ⟨_, _, rfl, rfl, rfl, i14⟩
        rw [if_neg c1, if_neg c1]
        by_cases c2 : y3.toInt ≤ r.toInt
        · rw [if_pos c2, if_pos c2]; exact ⟨_, _, rfl, rfl, rfl, i14⟩
        rw [if_neg c2, if_neg c2]
        have hs : 0 ≤ s.toInt ∧ s.toInt < 20 * (X 1 4).toInt := by omega
        rw [c_stk ⟨k2, k3⟩ (Kg_c i14) hs, m_stk (Kg_m i14) (by omega), Sb_cm i14 (by omega)]
        simp only [Option.bind_some, b2_0]
        have e5 := inc1 (x := s) (by omega)
        have go : ∀ (r1 : Int32) (X' : Sg) (Y' : SM), 0 ≤ r1.toInt → r1.toInt ≤ y3.toInt → X' 30 k = 0 → Inv TX X' Y' → ∃ p q, x_X7_film_b131 N hh y1 y2 y3 r1 s X' = some p ∧ x_X8_film_b134 N kk y1 y2 y3 r1 s Y' = some q ∧ SimP TX p q := by
          intro r1 X' Y' q1 q2 q3 q4
          unfold x_X7_film_b131 x_X8_film_b134
          simp only [lt]
          exact ih (y1, y2, y3, r1, s + 1, X') (y1, y2, y3, r1, s + 1, Y') ⟨rfl, rfl, rfl, rfl, rfl, rfl, rfl, rfl, q1, q2, by show 0 ≤ (s + 1).toInt; omega, by show (s + 1).toInt ≤ 100; omega, q3, q4⟩ (by show 101 - (s + 1).toInt.toNat < 101 - s.toInt.toNat; omega)
        by_cases c3 : Sb (X 15) s.toInt.toNat = true
        · rw [if_neg (show ¬ ¬ Sb (X 15) s.toInt.toNat = true from fun z => z c3), if_neg (show ¬ ¬ Sb (X 15) s.toInt.toNat = true from fun z => z c3)]
          have er := dbl (i := r) (by omega)
          have er1 : (2 * r + 1).toInt = 2 * r.toInt + 1 := add_l er (by decide) (by omega)
          have eR := inc1 (x := r) (by omega)
          have f3 := s40 h1 (b := 2 * r) (by omega)
          have f4 : (40 * y1 + 2 * r + 1).toInt = 40 * y1.toInt + 2 * r.toInt + 1 := add_l (f3.trans (by rw [er])) (by decide) (by omega)
          have n3 : (40 * y1 + 2 * r).toNatClampNeg = 40 * k + (2 * r).toNatClampNeg := by rw [i_nat, i_nat, f3]; omega
          have n4 : (40 * y1 + 2 * r + 1).toNatClampNeg = 40 * k + (2 * r + 1).toNatClampNeg := by rw [i_nat, i_nat, f4, er1]; omega
          rw [if_pos (show inb (40 * y1 + 2 * r) 160 = true from i_inb.mpr ⟨by omega, by omega⟩), n3]
          simp only [if_pos (show inb (40 * y1 + 2 * r + 1) 160 = true from i_inb.mpr ⟨by omega, by omega⟩), n4]
          have p1 := c_put0 (N := N) (a := y1) (b := 2 * r) (d := s) (g := X) h1 (by omega) (by rw [← hk]; exact i13) (by omega)
          rw [← hk] at p1
          rw [p1]
          simp only [Option.bind_some, lt]
          have v1 := inv_put i14 (k := k) (b := (2 * r).toNatClampNeg) s (by omega) (by rw [i_nat]; omega)
          have g30 : ∀ (F : Nat → Int32) (q : Sg), up q (33 + k) F 30 = q 30 := fun F q => up_n _ _ (by omega)
          have g1 : ∀ (F : Nat → Int32) (q : Sg), up q (33 + k) F 1 = q 1 := fun F q => up_n _ _ (by omega)
          generalize hX1 : up X (33 + k) (upd (X (33 + k)) (2 * r).toNatClampNeg s) = X1 at v1 ⊢
          generalize hY1 : ((up Y.1 21 (upd (Y.1 21) (40 * k + (2 * r).toNatClampNeg) s), Y.2) : SM) = Y1 at v1 ⊢
          have w30 : X1 30 = X 30 := by rw [← hX1]; exact g30 _ _
          have w1 : X1 1 = X 1 := by rw [← hX1]; exact g1 _ _
          have hs1 : 0 ≤ s.toInt ∧ s.toInt < 20 * (X1 1 4).toInt := by rw [w1]; exact hs
          have k3' : (X1 1 4).toInt ≤ 5 := by rw [w1]; exact k3
          rw [c_saysOf (by omega) (Rg_c v1) k3' hs1 h2, m_saysOf (Rg_m v1) k3' hs1 h2, Sy_cm v1 (by omega)]
          simp only [Option.bind_some]
          have sb := sy_b (X1 12 (s.toInt.toNat / 20)).toInt (X1 13 (s.toInt.toNat / 20)).toInt (Ln (X1 12) (X1 13) (X1 14) s.toInt.toNat - y2.toInt)
          have es : (Int32.ofInt (Sy (X1 12) (X1 13) (X1 14) s.toInt.toNat y2.toInt)).toInt = Sy (X1 12) (X1 13) (X1 14) s.toInt.toNat y2.toInt := of_i (by show _ ≤ sy _ _ _; omega) (by show sy _ _ _ ≤ _; omega)
          have es2 : -2 ≤ (Int32.ofInt (Sy (X1 12) (X1 13) (X1 14) s.toInt.toNat y2.toInt)).toInt ∧ (Int32.ofInt (Sy (X1 12) (X1 13) (X1 14) s.toInt.toNat y2.toInt)).toInt ≤ 2 := by rw [es]; exact sb
          generalize Int32.ofInt (Sy (X1 12) (X1 13) (X1 14) s.toInt.toNat y2.toInt) = v at es2 ⊢
          have p2 := c_put0 (N := N) (a := y1) (b := 2 * r + 1) (d := v) (g := X1) h1 (by omega) (by rw [← hk, w30]; exact i13) (by omega)
          rw [← hk] at p2
          rw [p2]
          simp only [Option.bind_some]
          have v2 := inv_put v1 (k := k) (b := (2 * r + 1).toNatClampNeg) v (by omega) (by rw [i_nat]; omega)
          exact go (r + 1) _ _ (by omega) (by omega) (by rw [g30, w30]; exact i13) v2
        · rw [if_pos c3, if_pos c3]
          exact go r X Y i9 i10 i13 i14
      · rw [if_pos (show ¬ (0 ≤ n.toInt ∧ n.toInt ≤ 20) from h3)]
        by_cases h4 : n.toInt < 0
        · rw [if_pos h4]; exact Sim.mk h
        · rw [if_neg h4, if_neg (show ¬ n.toInt ≤ 20 by omega)]; exact Sim.mk h
    · rw [if_pos h2, if_pos h2]; exact Sim.mk h
  · rw [if_pos h1, if_pos h1]; exact Sim.mk h
