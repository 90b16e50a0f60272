/-- the row of who is fitted, one size after the other -/
theorem m_fwRow {N : Nat} (hN : 200 < N) {h36 : Int32 × Int32 × Int32 × Int32 × SM → Option (Int32 × SM)} {R : Int32 × SM → Prop} {a n w z : Int32} {S : SM} {mk : Int} (h : Rg (S.1 5) (S.1 6) (S.1 7) mk) (hmk : mk ≤ 5) (ha : 0 ≤ a.toInt ∧ a.toInt < mk) (hz : 0 ≤ z.toInt ∧ z.toInt < 20) (nx : ∀ T : SM, (∀ j, j ≠ 14 → T.1 j = S.1 j) → (∀ q : Nat, (q < 100 * z.toInt.toNat ∨ 100 * z.toInt.toNat + 100 ≤ q) → T.1 14 q = S.1 14 q) → (∀ f : Nat, f < 100 → T.1 14 (100 * z.toInt.toNat + f) = b2 (fz (S.1 5) (S.1 6) (S.1 7) (20 * a.toInt.toNat + z.toInt.toNat) f = true)) → ∃ r, h36 (a, n, w, z + 1, T) = some r ∧ R r) : ∃ r, lp (x_X8_order_B46 N h36) N (a, n, w, z, 0, S) = some r ∧ R r := by
  refine lp_tot (F := x_X8_order_B46 N h36) (fun y => 101 - y.2.2.2.2.1.toInt.toNat) (fun y => y.1 = a ∧ y.2.1 = n ∧ y.2.2.1 = w ∧ y.2.2.2.1 = z ∧ 0 ≤ y.2.2.2.2.1.toInt ∧ y.2.2.2.2.1.toInt ≤ 100 ∧ (∀ j, j ≠ 14 → y.2.2.2.2.2.1 j = S.1 j) ∧ (∀ q : Nat, (q < 100 * z.toInt.toNat ∨ 100 * z.toInt.toNat + 100 ≤ q) → y.2.2.2.2.2.1 14 q = S.1 14 q) ∧ ∀ f : Nat, f < y.2.2.2.2.1.toInt.toNat → y.2.2.2.2.2.1 14 (100 * z.toInt.toNat + f) = b2 (fz (S.1 5) (S.1 6) (S.1 7) (20 * a.toInt.toNat + z.toInt.toNat) f = true)) (fun _ r => R r) ?_ N (a, n, w, z, 0, S) ⟨rfl, rfl, rfl, rfl, Int.le_refl 0, by show (0 : Int32).toInt ≤ 100; decide, fun _ _ => rfl, fun _ _ => rfl, fun q hq => absurd hq (Nat.not_lt_zero q)⟩ (by show 101 - _ < N; omega)
  intro hh ⟨y1, y2, y3, y4, f, T⟩ ⟨j1, j2, j3, j4, j5, j6, j7, j8, j9⟩ ih
  have i1 : y1 = a := j1
  have i2 : y2 = n := j2
  have i3 : y3 = w := j3
  have i4 : y4 = z := j4
  have i5 : 0 ≤ f.toInt := j5
  have i6 : f.toInt ≤ 100 := j6
  have i7 : ∀ j, j ≠ 14 → T.1 j = S.1 j := j7
  have i8 : ∀ q : Nat, (q < 100 * z.toInt.toNat ∨ 100 * z.toInt.toNat + 100 ≤ q) → T.1 14 q = S.1 14 q := j8
  have i9 : ∀ q : Nat, q < f.toInt.toNat → T.1 14 (100 * z.toInt.toNat + q) = b2 (fz (S.1 5) (S.1 6) (S.1 7) (20 * a.toInt.toNat + z.toInt.toNat) q = true) := j9
  clear j1 j2 j3 j4 j5 j6 j7 j8 j9
  subst i1; subst i2; subst i3; subst i4
  unfold x_X8_order_B46
  simp only [i_le, Int32.reduceToInt]
  by_cases c1 : 100 ≤ f.toInt
  · rw [if_pos c1]
    simp only [lt]
    exact nx T i7 i8 (fun q hq => i9 q (by omega))
  · have e1 := inc1 (x := f) (by omega)
    have q5 := i7 5 (by omega)
    have q6 := i7 6 (by omega)
    have q7 := i7 7 (by omega)
    have f1 : (20 * y1).toInt = 20 * y1.toInt := mul_l (by decide) rfl (by omega)
    have f2 : (20 * y1 + y4).toInt = 20 * y1.toInt + y4.toInt := by rw [i_add, f1] <;> omega
    have g1 : (100 * y4).toInt = 100 * y4.toInt := mul_l (by decide) rfl (by omega)
    have g2 : (100 * y4 + f).toInt = 100 * y4.toInt + f.toInt := by rw [i_add, g1] <;> omega
    have n2 : (100 * y4 + f).toNatClampNeg = 100 * y4.toInt.toNat + f.toInt.toNat := by rw [i_nat, g2]; omega
    rw [if_neg c1, m_saysOf (mk := mk) (by rw [q5, q6, q7]; exact h) hmk (by omega) (by omega), q5, q6, q7, f2, show (20 * y1.toInt + y4.toInt).toNat = 20 * y1.toInt.toNat + y4.toInt.toNat by omega]
    simp only [Option.bind_some]
    have go : ∀ t : Int32, t = b2 (fz (S.1 5) (S.1 6) (S.1 7) (20 * y1.toInt.toNat + y4.toInt.toNat) f.toInt.toNat = true) → ∃ r, x_X8_order_b86 N h36 hh y1 y2 y3 y4 f t (100 * y4 + f) T = some r ∧ R r := by
      intro t et
      unfold x_X8_order_b86
      rw [if_pos (show inb (100 * y4 + f) 2000 = true from i_inb.mpr ⟨by omega, by omega⟩), n2, et, nbb]
      simp only [lt]
      refine ih (y1, y2, y3, y4, f + 1, _) ⟨rfl, rfl, rfl, rfl, by show 0 ≤ (f + 1).toInt; omega, by show (f + 1).toInt ≤ 100; omega, fun j hj => ?_, fun q hq => ?_, fun q hq => ?_⟩ (by show 101 - (f + 1).toInt.toNat < 101 - f.toInt.toNat; omega)
      · show up T.1 14 _ j = _
        rw [up_n _ _ hj]; exact i7 j hj
      · show upd (T.1 14) (100 * y4.toInt.toNat + f.toInt.toNat) _ q = _
        rw [upd_n _ _ (by omega)]; exact i8 q hq
      · have hq : q < (f + 1).toInt.toNat := hq
        show upd (T.1 14) (100 * y4.toInt.toNat + f.toInt.toNat) _ (100 * y4.toInt.toNat + q) = _
        by_cases c : q = f.toInt.toNat
        · rw [c, upd_s]
        · rw [upd_n _ _ (by omega)]; exact i9 q (by omega)
    have eS := Sy_i (kd := S.1 5) (nb := S.1 6) (rn := S.1 7) (x := 20 * y1.toInt.toNat + y4.toInt.toNat) (f := f.toInt) 0
    have z0 : (0 : Int32).toInt = 0 := by decide
    rw [z0] at eS
    have ef : ((f.toInt.toNat : Nat) : Int) = f.toInt := by omega
    by_cases c : Sy (S.1 5) (S.1 6) (S.1 7) (20 * y1.toInt.toNat + y4.toInt.toNat) f.toInt = 0
    · rw [if_pos (eS.mpr c)]
      refine go 1 ?_
      unfold b2 fz
      rw [ef, decide_eq_true c]; rfl
    · rw [if_neg (fun q => c (eS.mp q))]
      refine go 0 ?_
      unfold b2 fz
      rw [ef, decide_eq_false c]; rfl
theorem SV_cm {TX : TXt} {g : Sg} {S : SM} (h : Inv TX g S) {m : Nat} (hm : (m : Int) < (g 1 4).toInt) (s : Nat) : ps (S.1 4) (fun f => an (fun z => s.testBit z && fz (S.1 5) (S.1 6) (S.1 7) (20 * m + z) f) 20) 100 = SV (g 11) (g 12) (g 13) (g 14) m s := by
  unfold SV
  refine ps_congr 100 (fun f hf => ⟨an_c 20 (fun z hz => ?_), fun _ => (h.2.1 f hf).1.symm⟩)
  rw [fz_cm h (by omega)]
theorem o_order {TX : TXt} {g : Sg} {S : SM} (h : Inv TX g S) {N : Nat} (hN : 1150 < N) (a n w : Int32) : Sim TX (x_X7_order N a n w g) (x_X8_order N a n w S) := by
  obtain ⟨k1, k2, k3⟩ := mk5 h
  unfold x_X7_order x_X8_order
  rw [c_hasMake, m_isMake N a S (by rw [← k1]; exact k2), ← k1]
  simp only [m_in, Option.bind_some, i_l64, b2_0, i_lt, i_le, Int32.reduceToInt, Int64.reduceToInt]
  by_cases h1 : 0 ≤ a.toInt ∧ a.toInt < (g 1 4).toInt
  · rw [if_neg (show ¬ ¬ (0 ≤ a.toInt ∧ a.toInt < (g 1 4).toInt) from fun z => z h1), if_neg (show ¬ ¬ (0 ≤ a.toInt ∧ a.toInt < (g 1 4).toInt) from fun z => z h1)]
    by_cases h2 : 0 ≤ n.toInt ∧ n.toInt ≤ 3
    · rw [if_neg (show ¬ n.toInt < 0 by omega), if_neg (show ¬ 3 < n.toInt by omega), if_neg (show ¬ ¬ (0 ≤ n.toInt ∧ n.toInt ≤ 3) from fun z => z h2)]
      by_cases h3 : 0 ≤ w.toInt ∧ w.toInt ≤ 1
      · rw [if_neg (show ¬ w.toInt < 0 by omega), if_pos h3.2, if_neg (show ¬ ¬ (0 ≤ w.toInt ∧ w.toInt ≤ 1) from fun z => z h3)]
        obtain ⟨M, hM⟩ : ∃ M, M = a.toInt.toNat := ⟨_, rfl⟩
        obtain ⟨V, hV⟩ : ∃ V : Nat → Int, V = fun s => (SV (g 11) (g 12) (g 13) (g 14) a.toInt.toNat s).toInt := ⟨_, rfl⟩
        have hVe : ∀ s : Nat, V s = (SV (g 11) (g 12) (g 13) (g 14) a.toInt.toNat s).toInt := fun s => by rw [hV]
        have hVb : ∀ s, 0 ≤ V s ∧ V s ≤ 900 := fun s => by
          have := ps_bd (f := g 11) (P := fun f => an (fun z => s.testBit z && fz (g 12) (g 13) (g 14) (20 * a.toInt.toNat + z) f) 20) (fun i hi => (h.2.1 i hi).2) 100 (by omega)
          rw [hVe s]
          exact this
        obtain ⟨s0, r0, d1, d2, d3, d4, d5⟩ := cxs h2
        obtain ⟨G, e1, o1, z0, z1⟩ := c_clear7 N g
        rw [e1]
        simp only [Option.bind_some, lt]
        rw [d1]
        have z00 : (0 : Int32).toInt = 0 := by decide
        obtain ⟨X, x1, x2, x3⟩ := c_orders (N := N) (by omega) (w := w) (Rg_c h) k3 h1 hVe hVb r0 s0 (fun _ => False) G 0 N d2 d3 (by decide) (by omega) (by omega) (fun t ht => ht.elim) (Or.inl ⟨fun t ht => ht, z1⟩) o1
        rw [x1]
        have hX : Inv TX X S := inv_g h (fun i hi => x2 i (by omega))
        have hC : BR V (fun t => False ∨ t ∈ s0 :: r0) (X 7 0).toInt (-(X 7 1).toInt) := by
          rcases x3 with ⟨b1, _⟩ | b
          · exact absurd (Or.inr List.mem_cons_self) (b1 s0)
          · exact b
        have hvX : 0 ≤ -(X 7 1).toInt ∧ -(X 7 1).toInt ≤ 900 := by
          obtain ⟨⟨t, _, _, t3⟩, _⟩ := hC
          rw [t3]; exact hVb t
        have key : ∃ (v : Int32) (T : SM), lp (x_X8_order_B36 N) N (a, n, w, 0, S) = some (v, T) ∧ Inv TX X T ∧ v = (if w = 0 then X 7 0 else -(X 7 1)) := by
          obtain ⟨⟨v, T⟩, t1, t2, t3⟩ := lp_tot (F := x_X8_order_B36 N) (fun y => 21 - y.2.2.2.1.toInt.toNat) (fun y => y.1 = a ∧ y.2.1 = n ∧ y.2.2.1 = w ∧ 0 ≤ y.2.2.2.1.toInt ∧ y.2.2.2.1.toInt ≤ 20 ∧ (∀ j, j ≠ 14 → y.2.2.2.2.1 j = S.1 j) ∧ ∀ z f : Nat, z < y.2.2.2.1.toInt.toNat → f < 100 → y.2.2.2.2.1 14 (100 * z + f) = b2 (fz (S.1 5) (S.1 6) (S.1 7) (20 * a.toInt.toNat + z) f = true)) (fun _ r => Inv TX X r.2 ∧ r.1 = (if w = 0 then X 7 0 else -(X 7 1))) (by
            intro hh ⟨y1, y2, y3, z, T⟩ ⟨j1, j2, j3, j4, j5, j6, j7⟩ ih
            have i1 : y1 = a := j1
            have i2 : y2 = n := j2
            have i3 : y3 = w := j3
            have i4 : 0 ≤ z.toInt := j4
            have i5 : z.toInt ≤ 20 := j5
            have i6 : ∀ j, j ≠ 14 → T.1 j = S.1 j := j6
            have i7 : ∀ q f : Nat, q < z.toInt.toNat → f < 100 → T.1 14 (100 * q + f) = b2 (fz (S.1 5) (S.1 6) (S.1 7) (20 * a.toInt.toNat + q) f = true) := j7
            clear j1 j2 j3 j4 j5 j6 j7
            subst i1; subst i2; subst i3
            unfold x_X8_order_B36
            simp only [i_le, Int32.reduceToInt]
            by_cases c1 : 20 ≤ z.toInt
            · rw [if_pos c1]
              simp only [lt]
              have k4 : ∀ j, j ≠ 0 → up (up T.1 0 (upd (T.1 0) 41 (-1))) 0 (upd (up T.1 0 (upd (T.1 0) 41 (-1)) 0) 40 0) j = T.1 j := fun j hj => by rw [up_n _ _ hj, up_n _ _ hj]
              have k41 : up (up T.1 0 (upd (T.1 0) 41 (-1))) 0 (upd (up T.1 0 (upd (T.1 0) 41 (-1)) 0) 40 0) 0 41 = -1 := by
                rw [up_s, upd_n _ _ (by omega), up_s, upd_s]
              have kk : ∀ k, ¬ (k = 40 ∨ k = 41) → up (up T.1 0 (upd (T.1 0) 41 (-1))) 0 (upd (up T.1 0 (upd (T.1 0) 41 (-1)) 0) 40 0) 0 k = T.1 0 k := fun k hk => by
                rw [up_s, upd_n _ _ (by omega), up_s, upd_n _ _ (by omega)]
              generalize up (up T.1 0 (upd (T.1 0) 41 (-1))) 0 (upd (up T.1 0 (upd (T.1 0) 41 (-1)) 0) 40 0) = W at k4 k41 kk ⊢
              have zz : (0 : Int32).toInt.toNat = 0 := by decide
              obtain ⟨U, u1, u2, u3⟩ := m_orders (N := N) (by omega) (fit := fun z f => fz (S.1 5) (S.1 6) (S.1 7) (20 * y1.toInt.toNat + z) f) (V := V) (tw := S.1 4) (fun s => by rw [hVe s, ← SV_cm h (by omega) s]) hVb y2.toInt.toNat (5 - y2.toInt.toNat) (by omega) 0 0 y2 (W, T.2) (fun _ => False) (by show W 4 = _; rw [k4 4 (by omega)]; exact i6 4 (by omega)) (fun q f hq hf => by show W 14 _ = _; rw [k4 14 (by omega)]; exact i7 q f (by omega) hf) (by decide) (by decide) (by omega) (Or.inl ⟨fun t ht => ht, k41⟩)
              rw [show y2.toInt.toNat + 1 + (5 - y2.toInt.toNat) = 6 by omega] at u1
              rw [u1]
              simp only [Option.bind_some]
              have hU : Inv TX X U := inv_k hX (fun _ _ => rfl) rfl (fun i hi => by
                rw [u2.1 i (by omega)]
                show W i = _
                rw [k4 i (by omega)]; exact i6 i (by omega)) (fun k hk => by
                rw [u2.2 k (by omega)]
                show W 0 k = _
                rw [kk k (by omega), i6 0 (by omega)])
              have hD : BR V (fun t => False ∨ Vis y2.toInt.toNat 0 0 t) (U.1 0 40).toInt (U.1 0 41).toInt := by
                rw [zz] at u3
                rcases u3 with ⟨b1, _⟩ | b
                · exact absurd (Or.inr ((d5 s0).mpr List.mem_cons_self)) (b1 s0)
                · exact b
              have hu := BR_u (A := fun t => False ∨ t ∈ s0 :: r0) (fun t => by rw [d5 t]) hC hD
              by_cases c2 : y3 = 0
              · rw [if_pos c2]
                refine ⟨_, rfl, hU, ?_⟩
                rw [if_pos c2]
                exact (i_eq.mpr hu.1).symm
              · rw [if_neg c2]
                refine ⟨_, rfl, hU, ?_⟩
                rw [if_neg c2]
                refine i_eq.mpr ?_
                show (U.1 0 41).toInt = _
                rw [← hu.2, i_neg (by omega)]
            · have e5 := inc1 (x := z) (by omega)
              rw [if_neg c1]
              have q5 := i6 5 (by omega)
              have q6 := i6 6 (by omega)
              have q7 := i6 7 (by omega)
              refine m_fwRow (N := N) (by omega) (mk := (g 1 4).toInt) (by rw [q5, q6, q7]; exact Rg_m h) k3 h1 (by omega) (fun U u1 u2 u3 => ?_)
              rw [q5, q6, q7] at u3
              refine ih (y1, y2, y3, z + 1, U) ⟨rfl, rfl, rfl, by show 0 ≤ (z + 1).toInt; omega, by show (z + 1).toInt ≤ 20; omega, fun j hj => (u1 j hj).trans (i6 j hj), fun q f hq hf => ?_⟩ (by show 21 - (z + 1).toInt.toNat < 21 - z.toInt.toNat; omega)
              have hq : q < (z + 1).toInt.toNat := hq
              show U.1 14 (100 * q + f) = _
              by_cases c : q = z.toInt.toNat
              · rw [c]; exact u3 f hf
              · rw [u2 _ (by omega)]; exact i7 q f (by omega) hf) N (a, n, w, 0, S) ⟨rfl, rfl, rfl, Int.le_refl 0, by show (0 : Int32).toInt ≤ 20; decide, fun _ _ => rfl, fun q f hq _ => absurd hq (Nat.not_lt_zero q)⟩ (by show 21 - _ < N; omega)
          exact ⟨v, T, t1, t2, t3⟩
        obtain ⟨v, T, t1, t2, t3⟩ := key
        rw [t1, t3]
        unfold x_X7_order_b94
        by_cases c2 : w = 0
        · rw [if_pos c2, if_pos c2]; exact Sim.mk t2
        · rw [if_neg c2, if_neg c2]; exact Sim.mk t2
      · rw [if_pos (show ¬ (0 ≤ w.toInt ∧ w.toInt ≤ 1) from h3)]
        by_cases h4 : w.toInt < 0
        · rw [if_pos h4]; exact Sim.mk h
        · rw [if_neg h4, if_neg (show ¬ w.toInt ≤ 1 by omega)]; exact Sim.mk h
    · rw [if_pos (show ¬ (0 ≤ n.toInt ∧ n.toInt ≤ 3) from h2)]
      by_cases h4 : n.toInt < 0
      · rw [if_pos h4]; exact Sim.mk h
      · rw [if_neg h4, if_pos (show 3 < n.toInt by omega)]; exact Sim.mk h
  · rw [if_pos h1, if_pos h1]; exact Sim.mk h
