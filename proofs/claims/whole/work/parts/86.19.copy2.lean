theorem o_copy {TX : TXt} {g : Sg} {S : SM} (h : Inv TX g S) {N : Nat} (hN : 1000 < N) (a1 a2 a3 a4 a5 : Int32) : Sim TX (x_X7_copy N a1 a2 a3 a4 a5 g) (x_X8_copy N a1 a2 a3 a4 a5 S) := by
  have hH := h.2.2.2.2.2.2.1
  unfold x_X7_copy x_X8_copy
  simp only [c_isOne, m_isSheet, Option.bind_some, b2_0]
  by_cases h1 : 0 ≤ a1.toInt ∧ a1.toInt ≤ 3
  · have n1 : ¬ ¬ (0 ≤ a1.toInt ∧ a1.toInt ≤ 3) := fun z => z h1
    rw [if_neg n1, if_neg n1]
    by_cases h3 : 0 ≤ a3.toInt ∧ a3.toInt ≤ 3
    · have n3 : ¬ ¬ (0 ≤ a3.toInt ∧ a3.toInt ≤ 3) := fun z => z h3
      have b1 : inb a1 4 = true := i_inb.mpr ⟨h1.1, by omega⟩
      have b3 : inb a3 4 = true := i_inb.mpr ⟨h3.1, by omega⟩
      rw [if_neg n3, if_neg n3]
      simp only [c_isMissing N g h1, c_isMissing N g h3, b1, b3, if_true, Option.bind_some, b2_0]
      obtain ⟨k1, hk1⟩ : ∃ k, k = a1.toNatClampNeg := ⟨_, rfl⟩
      have ek1 : (k1 : Int) = a1.toInt := by rw [hk1, i_nat]; omega
      obtain ⟨k3, hk3⟩ : ∃ k, k = a3.toNatClampNeg := ⟨_, rfl⟩
      have ek3 : (k3 : Int) = a3.toInt := by rw [hk3, i_nat]; omega
      rw [← hk1, ← hk3]
      rcases hH k1 (by omega) with ⟨m1, m2⟩ | ⟨p1, p2, p3, p4, p5, p6⟩
      · rw [if_neg (fun z => z m1), if_pos m2]; exact Sim.mk h
      have u1 : ¬ g 30 k1 = -1 := by rw [i_eq]; simp only [Int32.reduceToInt]; omega
      have u2 : ¬ S.1 18 k1 = 0 := by rw [p2]; decide
      rw [if_pos u1, if_neg u2]
      rcases hH k3 (by omega) with ⟨m1, m2⟩ | ⟨q1, q2, q3, q4, q5, q6⟩
      · rw [if_neg (fun z => z m1), if_pos m2]; exact Sim.mk h
      have v1 : ¬ g 30 k3 = -1 := by rw [i_eq]; simp only [Int32.reduceToInt]; omega
      have v2 : ¬ S.1 18 k3 = 0 := by rw [q2]; decide
      rw [if_pos v1, if_neg v2, p3, q3, p4, q4]
      by_cases hs : g 30 k1 = g 30 k3
      · rw [if_pos hs, if_pos hs]
        simp only [i_lt, i_le, Int32.reduceToInt]
        by_cases c2 : a2.toInt < 0
        · rw [if_pos c2, if_pos c2]
          by_cases c5 : a5.toInt < 0
          · rw [if_pos c5]; exact Sim.mk h
          · rw [if_neg c5]; exact Sim.mk h
        rw [if_neg c2, if_neg c2]
        by_cases c4 : a4.toInt < 0
        · rw [if_pos c4, if_pos c4]
          by_cases c5 : a5.toInt < 0
          · rw [if_pos c5]; exact Sim.mk h
          · rw [if_neg c5]; exact Sim.mk h
        rw [if_neg c4, if_neg c4]
        by_cases c5 : a5.toInt < 0
        · rw [if_pos c5, if_pos c5]; exact Sim.mk h
        rw [if_neg c5, if_neg c5]
        have i2 := i_hi a2
        have i4 := i_hi a4
        have i5 := i_hi a5
        have e1 : (g 31 k1 - a2).toInt = (g 31 k1).toInt - a2.toInt := by rw [i_sub] <;> omega
        have e2 : (g 31 k1 - a5).toInt = (g 31 k1).toInt - a5.toInt := by rw [i_sub] <;> omega
        have e3 : (g 31 k3 - a4).toInt = (g 31 k3).toInt - a4.toInt := by rw [i_sub] <;> omega
        have e4 : (g 31 k3 - a5).toInt = (g 31 k3).toInt - a5.toInt := by rw [i_sub] <;> omega
        rw [e1, e2, e3, e4]
        by_cases c6 : (g 31 k1).toInt - a2.toInt < a5.toInt
        · rw [if_pos c6, if_pos (show (g 31 k1).toInt - a5.toInt < a2.toInt by omega)]; exact Sim.mk h
        rw [if_neg c6, if_neg (show ¬ (g 31 k1).toInt - a5.toInt < a2.toInt by omega)]
        by_cases c7 : a5.toInt ≤ (g 31 k3).toInt - a4.toInt
        · rw [if_pos c7, if_pos (show a4.toInt ≤ (g 31 k3).toInt - a5.toInt by omega)]
          obtain ⟨n, hn⟩ : ∃ n, n = a5.toNatClampNeg := ⟨_, rfl⟩
          have en : (n : Int) = a5.toInt := by rw [hn, i_nat]; omega
          obtain ⟨s, hs2⟩ : ∃ s, s = a2.toNatClampNeg := ⟨_, rfl⟩
          have es : (s : Int) = a2.toInt := by rw [hs2, i_nat]; omega
          obtain ⟨d, hd⟩ : ∃ d, d = a4.toNatClampNeg := ⟨_, rfl⟩
          have ed : (d : Int) = a4.toInt := by rw [hd, i_nat]; omega
          have hacb : acb a2 a4 a5 40 40 = true := by
            unfold acb
            simp only [i_lt, Int32.reduceToInt, ← hn, ← hs2, ← hd]
            simp only [c2, c4, c5, decide_false, Bool.not_false, Bool.true_and, Bool.and_eq_true, decide_eq_true_eq]
            omega
          rw [if_pos hacb, ← hn, ← hs2, ← hd]
          simp only [lt]
          -- the reference's loop, either way round
          have fin : ∀ (b : Int32) (tt : Nat → Nat), ((b = 0 ∧ ∀ c, tt c = c) ∨ (¬ b = 0 ∧ ∀ c, tt c = n - 1 - c)) → (∀ c c', c' < c → c < n → (40 * k1 + s) + tt c ≠ (40 * k3 + d) + tt c') → Sim TX (some (a5, up g (33 + k3) (va_cpy (g (33 + k1)) (g (33 + k3)) s d n))) (x_X8_copy_b116 N a1 a2 a3 a4 a5 b S) := by
            intro b tt hb hov
            obtain ⟨r, l1, l2, l3, l4, l5⟩ := m_copy (N := N) (by omega) (a1 := a1) (a2 := a2) (a3 := a3) (a4 := a4) (a5 := a5) (b := b) S h1 h3 (by omega) (by omega) (by omega) (by omega) (by omega) n (40 * k1 + s) (40 * k3 + d) hn (by rw [hk1, hs2]) (by rw [hk3, hd]) tt hb hov
            unfold x_X8_copy_b116
            rw [l1]
            obtain ⟨r0, T⟩ := r
            have l2 : r0 = a5 := l2
            subst l2
            have l3 : ∀ j, j ≠ 21 → T.1 j = S.1 j := l3
            have l4 : ∀ t, t < n → T.1 21 (40 * k3 + d + t) = S.1 21 (40 * k1 + s + t) := l4
            have l5 : ∀ p, (p < 40 * k3 + d ∨ 40 * k3 + d + n ≤ p) → T.1 21 p = S.1 21 p := l5
            refine Sim.mk (inv_H h (fun j hj => up_n _ _ (by omega)) (fun j hj => l3 j (by omega)) ?_)
            intro j hj
            rw [up_n _ _ (show 30 ≠ 33 + k3 by omega), up_n _ _ (show 31 ≠ 33 + k3 by omega), l3 18 (by decide), l3 19 (by decide), l3 20 (by decide)]
            rcases hH j hj with u | ⟨u1, u2, u3, u4, u5, u6⟩
            · exact Or.inl u
            · refine Or.inr ⟨u1, u2, u3, u4, u5, fun i hi => ?_⟩
              by_cases hjk : j = k3
              · subst hjk
                rw [up_s]
                unfold va_cpy
                by_cases hr : d ≤ i ∧ i < d + n
                · rw [if_pos hr]
                  have t1 := l4 (i - d) (by omega)
                  have t2 : 40 * j + d + (i - d) = 40 * j + i := by omega
                  rw [t2] at t1
                  rw [t1]
                  have t3 := p6 (s + (i - d)) (by omega)
                  rw [t3]
                  exact congrArg _ (by omega)
                · rw [if_neg hr, l5 (40 * j + i) (by omega)]
                  exact u6 i hi
              · rw [up_n _ _ (show 33 + j ≠ 33 + k3 by omega), l5 (40 * j + i) (by omega)]
                exact u6 i hi
          by_cases c8 : a1 = a3
          · rw [if_pos c8]
            have ekk : k1 = k3 := by rw [hk1, hk3, c8]
            by_cases c9 : a4.toInt ≤ a2.toInt
            · rw [if_pos c9]
              exact fin 0 (fun c => c) (Or.inl ⟨rfl, fun _ => rfl⟩) (fun c c' _ _ => by show 40 * k1 + s + c ≠ 40 * k3 + d + c'; omega)
            · rw [if_neg c9]
              exact fin 1 (fun c => n - 1 - c) (Or.inr ⟨by decide, fun _ => rfl⟩) (fun c c' _ _ => by show 40 * k1 + s + (n - 1 - c) ≠ 40 * k3 + d + (n - 1 - c'); omega)
          · rw [if_neg c8]
            have ekk : k1 ≠ k3 := fun e => c8 (by rw [i_eq]; omega)
            exact fin 0 (fun c => c) (Or.inl ⟨rfl, fun _ => rfl⟩) (fun c c' _ _ => by show 40 * k1 + s + c ≠ 40 * k3 + d + c'; omega)
        · rw [if_neg c7, if_neg (show ¬ a4.toInt ≤ (g 31 k3).toInt - a5.toInt by omega)]; exact Sim.mk h
      · rw [if_neg hs, if_neg hs]; exact Sim.mk h
    · rw [if_pos h3, if_pos h3]; exact Sim.mk h
  · rw [if_pos h1, if_pos h1]; exact Sim.mk h
