theorem GO_1 (kd nb rn sk : Nat → Int32) (n d : Nat) (P : Nat → Bool) (f : Nat) : GO kd nb rn sk n (d + 1) P f = if AF kd nb rn sk n P = true then (match FT kd nb rn sk n P with | none => -1 | some x => if Sy kd nb rn x f = 0 then 20 - d else GO kd nb rn sk n d (fun q => P q && decide (Sy kd nb rn x q = Sy kd nb rn x f)) f) else -1 := rfl
theorem c_findFor {N : Nat} (hN : 200 < N) {a : Int32} {g : Sg} (hR : Rg (g 12) (g 13) (g 14) (g 1 4).toInt) (hm : 0 ≤ (g 1 4).toInt ∧ (g 1 4).toInt ≤ 5) (hk : Kg (g 15)) (ha : 0 ≤ a.toInt ∧ a.toInt ≤ 99) : ∃ r G lo hi, x_X7_findFor N a g = some (r, G) ∧ (∀ j, ¬ (j = 6 ∨ j = 7) → G j = g j) ∧ SpB lo hi ∧ (G 6 0).toInt = lo ∧ (G 6 1).toInt = hi ∧ inS lo hi a.toInt.toNat = true ∧ r.toInt = GO (g 12) (g 13) (g 14) (g 15) (20 * (g 1 4).toInt.toNat) 20 (inS 0 99) a.toInt.toNat ∧ ∀ q, q < 100 → inS lo hi q = true → GO (g 12) (g 13) (g 14) (g 15) (20 * (g 1 4).toInt.toNat) 20 (inS 0 99) q = GO (g 12) (g 13) (g 14) (g 15) (20 * (g 1 4).toInt.toNat) 20 (inS 0 99) a.toInt.toNat := by
  obtain ⟨A, hA⟩ : ∃ A : Nat → Int, A = GO (g 12) (g 13) (g 14) (g 15) (20 * (g 1 4).toInt.toNat) 20 (inS 0 99) := ⟨_, rfl⟩
  rw [← hA]
  obtain ⟨g1, d1, o1, z0, z1⟩ := c_widen N g
  unfold x_X7_findFor
  rw [d1]
  simp only [Option.bind_some]
  obtain ⟨⟨r, G⟩, e, lo, hi, p1, p2, p3, p4, p5, p6, p7⟩ := lp_tot (F := x_X7_findFor_B9 N) (fun x => 22 - x.2.1.toInt.toNat) (fun x => x.1 = a ∧ 1 ≤ x.2.1.toInt ∧ x.2.1.toInt ≤ 21 ∧ (∀ j, ¬ (j = 6 ∨ j = 7) → x.2.2 j = g j) ∧ ∃ lo hi, SpB lo hi ∧ (x.2.2 6 0).toInt = lo ∧ (x.2.2 6 1).toInt = hi ∧ inS lo hi a.toInt.toNat = true ∧ ∀ q, q < 100 → inS lo hi q = true → A q = GO (g 12) (g 13) (g 14) (g 15) (20 * (g 1 4).toInt.toNat) (21 - x.2.1.toInt.toNat) (inS lo hi) q) (fun _ r => ∃ lo hi, (∀ j, ¬ (j = 6 ∨ j = 7) → r.2 j = g j) ∧ SpB lo hi ∧ (r.2 6 0).toInt = lo ∧ (r.2 6 1).toInt = hi ∧ inS lo hi a.toInt.toNat = true ∧ r.1.toInt = A a.toInt.toNat ∧ ∀ q, q < 100 → inS lo hi q = true → A q = A a.toInt.toNat) (by
    intro hh ⟨y1, n, X⟩ ⟨j1, j2, j3, j4, lo, hi, j5, j6, j7, j8, j9⟩ ih
    have i1 : y1 = a := j1
    have i2 : 1 ≤ n.toInt := j2
    have i3 : n.toInt ≤ 21 := j3
    have i4 : ∀ j, ¬ (j = 6 ∨ j = 7) → X j = g j := j4
    have i6 : (X 6 0).toInt = lo := j6
    have i7 : (X 6 1).toInt = hi := j7
    have i9 : ∀ q, q < 100 → inS lo hi q = true → A q = GO (g 12) (g 13) (g 14) (g 15) (20 * (g 1 4).toInt.toNat) (21 - n.toInt.toNat) (inS lo hi) q := j9
    clear j1 j2 j3 j4 j6 j7 j9
    subst i1
    have ha100 : y1.toInt.toNat < 100 := by omega
    have hm1 : (-1 : Int32).toInt = -1 := by decide
    unfold x_X7_findFor_B9
    simp only [i_lt, Int32.reduceToInt]
    by_cases c1 : 20 < n.toInt
    · rw [if_pos c1]
      rw [show 21 - n.toInt.toNat = 0 by omega] at i9
      have w : ∀ q, q < 100 → inS lo hi q = true → A q = -1 := fun q hq hp => i9 q hq hp
      exact ⟨_, rfl, lo, hi, i4, j5, i6, i7, j8, by show (-1 : Int32).toInt = _; rw [w _ ha100 j8]; rfl, fun q hq hp => by rw [w q hq hp, w _ ha100 j8]⟩
    · have e1 := inc1 (x := n) (by omega)
      have q1 := i4 1 (by omega)
      have q12 := i4 12 (by omega)
      have q13 := i4 13 (by omega)
      have q14 := i4 14 (by omega)
      have q15 := i4 15 (by omega)
      have hR' : Rg (X 12) (X 13) (X 14) (X 1 4).toInt := by rw [q1, q12, q13, q14]; exact hR
      have hm' : 0 ≤ (X 1 4).toInt ∧ (X 1 4).toInt ≤ 5 := by rw [q1]; exact hm
      have hk' : Kg (X 15) := by rw [q15]; exact hk
      obtain ⟨d, hd⟩ : ∃ d, 21 - n.toInt.toNat = d + 1 := ⟨20 - n.toInt.toNat, by omega⟩
      rw [hd] at i9
      rw [if_neg c1, c_anyFits hN hR' hm' hk' j5 i6 i7, q1, q12, q13, q14, q15]
      simp only [Option.bind_some, b2_0]
      by_cases c2 : AF (g 12) (g 13) (g 14) (g 15) (20 * (g 1 4).toInt.toNat) (inS lo hi) = true
      · rw [if_neg (fun z => z c2)]
        obtain ⟨x, hx⟩ := AF_FT c2
        obtain ⟨x1, x2⟩ := FT_lt hx
        obtain ⟨X1, v1, v2, v3⟩ := c_choose hN hR' hm' hk' j5 i6 i7
        rw [v1]
        simp only [Option.bind_some]
        have u6 := v2 6 (by omega)
        have u1 := v2 1 (by omega)
        have u12 := v2 12 (by omega)
        have u13 := v2 13 (by omega)
        have u14 := v2 14 (by omega)
        rw [q1, q12, q13, q14, q15] at v3
        have v3 : FtV (FT (g 12) (g 13) (g 14) (g 15) (20 * (g 1 4).toInt.toNat) (inS lo hi)) (AL (g 12) (g 13) (g 14) (inS lo hi)) 1000000 (X1 7 0) (X1 7 1) := v3
        obtain ⟨w1, w2⟩ := v3.2 x hx
        rw [c_size j5 (by rw [u6]; exact i6) (by rw [u6]; exact i7)]
        simp only [Option.bind_some]
        have hR1 : Rg (X1 12) (X1 13) (X1 14) (g 1 4).toInt := by rw [u12, u13, u14, q12, q13, q14]; exact hR
        have hxs : 0 ≤ (X1 7 0).toInt ∧ (X1 7 0).toInt < 20 * (g 1 4).toInt := by omega
        have exn : (X1 7 0).toInt.toNat = x := by omega
        rw [c_saysOf (by omega) hR1 hm.2 hxs ha, u12, u13, u14, q12, q13, q14, exn]
        simp only [Option.bind_some]
        have sb : -2 ≤ Sy (g 12) (g 13) (g 14) x y1.toInt ∧ Sy (g 12) (g 13) (g 14) x y1.toInt ≤ 2 := sy_b _ _ _
        have es : (Int32.ofInt (Sy (g 12) (g 13) (g 14) x y1.toInt)).toInt = Sy (g 12) (g 13) (g 14) x y1.toInt := of_i (by omega) (by omega)
        obtain ⟨s, hs⟩ : ∃ s, s = Int32.ofInt (Sy (g 12) (g 13) (g 14) x y1.toInt) := ⟨_, rfl⟩
        rw [← hs] at es ⊢
        obtain ⟨X2, n1, n2, n3, n4⟩ := c_narrow (N := N) (a := X1 7 0) (s := s) (g := X1) (lo := lo) (hi := hi) hR1 hm.2 hxs (by omega) j5 (by rw [u6]; exact i6) (by rw [u6]; exact i7)
        rw [n1]
        simp only [Option.bind_some]
        rw [u12, u13, u14, q12, q13, q14, exn] at n3 n4
        have sp : SpB (max lo (rc (g 12) (g 13) (g 14) x (s.toInt + 1) + 1)) (min hi (rc (g 12) (g 13) (g 14) x s.toInt)) := SpB_n j5
        have pe : ∀ q, q < 100 → inS (max lo (rc (g 12) (g 13) (g 14) x (s.toInt + 1) + 1)) (min hi (rc (g 12) (g 13) (g 14) x s.toInt)) q = (inS lo hi q && decide (Sy (g 12) (g 13) (g 14) x q = s.toInt)) := fun q hq => inS_n (hR _ (by omega)).1 hq
        generalize max lo (rc (g 12) (g 13) (g 14) x (s.toInt + 1) + 1) = lo2 at n3 sp pe
        generalize min hi (rc (g 12) (g 13) (g 14) x s.toInt) = hi2 at n4 sp pe
        have ef : ((y1.toInt.toNat : Nat) : Int) = y1.toInt := by omega
        have ha2 : inS lo2 hi2 y1.toInt.toNat = true := by
          rw [pe _ ha100, j8, Bool.true_and, ef]
          exact decide_eq_true es.symm
        have fr : ∀ j, ¬ (j = 6 ∨ j = 7) → X2 j = g j := fun j hj => by
          rw [n2 j (by omega), v2 j (by omega)]; exact i4 j hj
        -- what the feet that are left are told
        have sub : ∀ q, q < 100 → inS lo2 hi2 q = true → inS lo hi q = true ∧ Sy (g 12) (g 13) (g 14) x q = s.toInt := fun q hq hp => by
          rw [pe q hq, Bool.and_eq_true, decide_eq_true_eq] at hp
          exact hp
        have st : ∀ q, q < 100 → inS lo2 hi2 q = true → A q = if s.toInt = 0 then 20 - (d : Int) else GO (g 12) (g 13) (g 14) (g 15) (20 * (g 1 4).toInt.toNat) d (inS lo2 hi2) q := by
          intro q hq hp
          obtain ⟨h1, h2⟩ := sub q hq hp
          rw [i9 q hq h1, GO_1, if_pos c2, hx]
          show (if Sy (g 12) (g 13) (g 14) x q = 0 then _ else _) = _
          rw [h2]
          by_cases c3 : s.toInt = 0
          · rw [if_pos c3, if_pos c3]
          · rw [if_neg c3, if_neg c3]
            exact GO_c (Ag_r _ _ _ _ _) d _ _ q (fun p hp' => (pe p hp').symm)
        by_cases c3 : s = 0
        · rw [if_pos c3]
          have c3 : s.toInt = 0 := by rw [c3]; decide
          have w : ∀ q, q < 100 → inS lo2 hi2 q = true → A q = n.toInt := fun q hq hp => by rw [st q hq hp, if_pos c3]; omega
          exact ⟨_, rfl, lo2, hi2, fr, sp, n3, n4, ha2, by show n.toInt = _; rw [w _ ha100 ha2], fun q hq hp => by rw [w q hq hp, w _ ha100 ha2]⟩
        · rw [if_neg c3]
          have c3 : ¬ s.toInt = 0 := fun z => c3 (i_eq.mpr z)
          have st : ∀ q, q < 100 → inS lo2 hi2 q = true → A q = GO (g 12) (g 13) (g 14) (g 15) (20 * (g 1 4).toInt.toNat) d (inS lo2 hi2) q := fun q hq hp => by rw [st q hq hp, if_neg c3]
          rw [c_size sp n3 n4]
          simp only [Option.bind_some]
          have l1 := cn_le (inS lo hi) 100
          have l2 := cn_le (inS lo2 hi2) 100
          have ec : Int32.ofInt (cn (inS lo2 hi2) 100 : Nat) = Int32.ofInt (cn (inS lo hi) 100 : Nat) ↔ cn (inS lo2 hi2) 100 = cn (inS lo hi) 100 := by
            rw [i_eq, of_i (by omega) (by omega), of_i (by omega) (by omega)]; omega
          by_cases c4 : cn (inS lo2 hi2) 100 = cn (inS lo hi) 100
          · rw [if_pos (ec.mpr c4)]
            have same := (cn_sub 100 (fun i hi' hp => (sub i hi' hp).1)).2 c4
            have w : ∀ q, q < 100 → inS lo2 hi2 q = true → A q = -1 := by
              intro q hq hp
              rw [st q hq hp]
              rw [GO_c (Ag_r _ _ _ _ _) d (inS lo2 hi2) (inS lo hi) q (fun p hp' => (same p hp').symm)]
              refine GO_same hx (by rw [(sub q hq hp).2]; exact c3) (fun p hp' hpp => ?_) d
              rw [(sub q hq hp).2]
              rw [same p hp'] at hpp
              exact (sub p hp' hpp).2
            exact ⟨_, rfl, lo2, hi2, fr, sp, n3, n4, ha2, by show (-1 : Int32).toInt = _; rw [w _ ha100 ha2]; rfl, fun q hq hp => by rw [w q hq hp, w _ ha100 ha2]⟩
          · rw [if_neg (fun z => c4 (ec.mp z))]
            simp only [lt]
            exact ih (y1, n + 1, X2) ⟨rfl, by show 1 ≤ (n + 1).toInt; omega, by show (n + 1).toInt ≤ 21; omega, fr, lo2, hi2, sp, n3, n4, ha2, fun q hq hp => by show A q = GO _ _ _ _ _ (21 - (n + 1).toInt.toNat) _ q; rw [show 21 - (n + 1).toInt.toNat = d by omega]; exact st q hq hp⟩ (by show 22 - (n + 1).toInt.toNat < 22 - n.toInt.toNat; omega)
      · rw [if_pos c2]
        have w : ∀ q, q < 100 → inS lo hi q = true → A q = -1 := fun q hq hp => by
          rw [i9 q hq hp, GO_1, if_neg c2]
        exact ⟨_, rfl, lo, hi, i4, j5, i6, i7, j8, by show (-1 : Int32).toInt = _; rw [w _ ha100 j8]; rfl, fun q hq hp => by rw [w q hq hp, w _ ha100 j8]⟩) N (a, 1, g1) ⟨rfl, by show 1 ≤ (1 : Int32).toInt; decide, by show (1 : Int32).toInt ≤ 21; decide, fun j hj => o1 j (by omega), 0, 99, ⟨by omega, by omega⟩, z0, z1, by unfold inS; exact decide_eq_true (by omega), fun q hq _ => by rw [hA]; rfl⟩ (by show 22 - _ < N; omega)
  exact ⟨r, G, lo, hi, e, p1, p2, p3, p4, p5, p6, p7⟩
