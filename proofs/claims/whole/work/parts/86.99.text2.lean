/-- the reference's bytes kept -/
theorem m_text {N : Nat} (hN : 300 < N) {S : SM} {h sz : Nat} (h3 : (S.1 0 3).toInt = h) (h6 : h < 6) (hs : (S.1 0 6).toInt = sz) (h160 : sz ≤ 160) : ∃ f : Nat → Int32, (∀ i : Nat, f i = (if 160 * h ≤ i ∧ i < 160 * h + sz then S.1 3 (i - 160 * h) else S.1 1 i)) ∧ x_X8_text N S = (x_X8_read N (S.1 0 3) 0 (st0 (up (up S.1 1 f) 2 (upd (S.1 2) h (S.1 0 6)), S.2) 6 0)).bind fun q6 => (if (q6.2.1 0 29) = 0 then some ((q6.2.1 0 3 + 1) - 1, st0 q6.2 3 (q6.2.1 0 3 + 1)) else some ((-100 : Int32) - q6.2.1 0 30, q6.2)) := by
  have n6 : ¬ S.1 0 3 = 6 := fun z => by
    have : (6 : Int32).toInt = 6 := by decide
    rw [z] at h3; omega
  unfold x_X8_text
  rw [if_neg n6]
  have b6 : inb (S.1 0 3) 6 = true := i_inb.mpr ⟨by omega, by omega⟩
  have nh : (S.1 0 3).toNatClampNeg = h := by rw [i_nat, h3]; rfl
  have m1 : ((160 : Int32) * S.1 0 3).toInt = 160 * (h : Int) := by rw [mul_l (k := 160) (by decide) h3 (by omega)]
  -- the loop
  have loop : ∀ (d i : Nat), i + d = sz → ∀ (n : Nat), d < n → ∀ (f : Nat → Int32), (∀ j : Nat, f j = (if 160 * h ≤ j ∧ j < 160 * h + i then S.1 3 (j - 160 * h) else S.1 1 j)) → ∀ iI : Int32, iI.toInt = i → ∃ f' : Nat → Int32, (∀ j : Nat, f' j = (if 160 * h ≤ j ∧ j < 160 * h + sz then S.1 3 (j - 160 * h) else S.1 1 j)) ∧ lp (x_X8_text_B14 N) n (iI, ((up S.1 1 f, S.2) : SM)) = (x_X8_read N (S.1 0 3) 0 (st0 (up (up S.1 1 f') 2 (upd (S.1 2) h (S.1 0 6)), S.2) 6 0)).bind fun q6 => (if (q6.2.1 0 29) = 0 then some ((q6.2.1 0 3 + 1) - 1, st0 q6.2 3 (q6.2.1 0 3 + 1)) else some ((-100 : Int32) - q6.2.1 0 30, q6.2)) := by
    intro d
    induction d with
    | zero =>
      intro i hi n hn f hf iI eI
      obtain ⟨m, rfl⟩ : ∃ m, n = m + 1 := ⟨n - 1, by omega⟩
      have ei : i = sz := by omega
      subst ei
      refine ⟨f, hf, ?_⟩
      show x_X8_text_B14 N (lp (x_X8_text_B14 N) m) (iI, (up S.1 1 f, S.2)) = _
      have u0 : up S.1 1 f 0 = S.1 0 := up_n _ _ (by omega)
      have u2 : up S.1 1 f 2 = S.1 2 := up_n _ _ (by omega)
      unfold x_X8_text_B14
      simp only [lt, u0, u2]
      rw [if_pos (show S.1 0 6 ≤ iI by rw [i_le]; omega), if_pos b6, nh]
      have v0 : up (up S.1 1 f) 2 (upd (S.1 2) h (S.1 0 6)) 0 = S.1 0 := by rw [up_n _ _ (by omega), u0]
      have e5 : ((up (up (up S.1 1 f) 2 (upd (S.1 2) h (S.1 0 6))) 0 (upd (up (up S.1 1 f) 2 (upd (S.1 2) h (S.1 0 6)) 0) 6 0), S.2) : SM) = st0 (up (up S.1 1 f) 2 (upd (S.1 2) h (S.1 0 6)), S.2) 6 0 := rfl
      rw [e5]
      have w3 : up (up (up S.1 1 f) 2 (upd (S.1 2) h (S.1 0 6))) 0 (upd (up (up S.1 1 f) 2 (upd (S.1 2) h (S.1 0 6)) 0) 6 0) 0 3 = S.1 0 3 := by
        rw [up_s, upd_n _ _ (by omega), v0]
      rw [w3]
      refine congrArg (fun F => Option.bind _ F) (funext fun q => ?_)
      by_cases c : q.2.1 0 29 = 0
      · rw [if_pos c, if_pos c]
        have : up q.2.1 0 (upd (q.2.1 0) 3 (q.2.1 0 3 + 1)) 0 3 = q.2.1 0 3 + 1 := by rw [up_s, upd_s]
        rw [this]; rfl
      · rw [if_neg c, if_neg c]
    | succ d ih =>
      intro i hi n hn f hf iI eI
      obtain ⟨m, rfl⟩ : ∃ m, n = m + 1 := ⟨n - 1, by omega⟩
      show ∃ f' : Nat → Int32, _ ∧ x_X8_text_B14 N (lp (x_X8_text_B14 N) m) (iI, (up S.1 1 f, S.2)) = _
      have u0 : up S.1 1 f 0 = S.1 0 := up_n _ _ (by omega)
      have u3 : up S.1 1 f 3 = S.1 3 := up_n _ _ (by omega)
      have u1 : up S.1 1 f 1 = f := up_s _ _ _
      have m2 : ((160 : Int32) * S.1 0 3 + iI).toInt = 160 * (h : Int) + i := by rw [i_add, m1, eI] <;> omega
      have n2 : ((160 : Int32) * S.1 0 3 + iI).toNatClampNeg = 160 * h + i := by rw [i_nat, m2]; omega
      have ni : iI.toNatClampNeg = i := by rw [i_nat, eI]; rfl
      have uu : up (up S.1 1 f) 1 (upd f (160 * h + i) (S.1 3 i)) = up S.1 1 (upd f (160 * h + i) (S.1 3 i)) := by
        refine funext fun j => ?_
        by_cases c : j = 1
        · subst c; rw [up_s, up_s]
        · rw [up_n _ _ c, up_n _ _ c, up_n _ _ c]
      have e1 := inc1 (x := iI) (by omega)
      obtain ⟨f', g1, g2⟩ := ih (i + 1) (by omega) m (by omega) (upd f (160 * h + i) (S.1 3 i)) (fun j => by
        by_cases c : j = 160 * h + i
        · subst c
          rw [upd_s, if_pos (by omega)]
          exact congrArg _ (by omega)
        · rw [upd_n _ _ c, hf j]
          by_cases c2 : 160 * h ≤ j ∧ j < 160 * h + i
          · rw [if_pos c2, if_pos (by omega)]
          · rw [if_neg c2, if_neg (by omega)]) (iI + 1) (by omega)
      refine ⟨f', g1, ?_⟩
      rw [← g2]
      unfold x_X8_text_B14
      simp only [lt, u0, u1, u3]
      rw [if_neg (show ¬ S.1 0 6 ≤ iI by rw [i_le]; omega), if_pos (show inb iI 160 = true from i_inb.mpr ⟨by omega, by omega⟩), if_pos (show inb ((160 : Int32) * S.1 0 3 + iI) 960 = true from i_inb.mpr ⟨by omega, by omega⟩), n2, ni, uu]
  obtain ⟨f', g1, g2⟩ := loop sz 0 (by omega) N (by omega) (S.1 1) (fun j => by rw [if_neg (by omega)]) 0 rfl
  refine ⟨f', g1, ?_⟩
  have : (up S.1 1 (S.1 1), S.2) = S := by
    have : up S.1 1 (S.1 1) = S.1 := funext fun j => by
      by_cases c : j = 1
      · subst c; rw [up_s]
      · rw [up_n _ _ c]
    rw [this]
  rw [this] at g2
  exact g2
theorem o_text {N : Nat} (hN : 300 < N) {g : Sg} {S : SM} (h : Inv (TXs N) g S) : Sim (TXs N) (x_X7_text N g) (x_X8_text N S) := by
  have hP := h.2.2.2.2.2.1
  have hX := h.2.2.2.2.2.2.2
  obtain ⟨p1, p2, p3, p4⟩ := hP
  obtain ⟨x1, x2, x3, x4⟩ := hX
  have i6 : (6 : Int32).toInt = 6 := by decide
  unfold x_X7_text
  by_cases c6 : (g 4 0).toInt < 6
  · rw [if_pos (show g 4 0 < 6 by rw [i_lt, i6]; exact c6)]
    obtain ⟨hh, eh⟩ : ∃ hh : Nat, (g 4 0).toInt = hh := ⟨(g 4 0).toInt.toNat, by omega⟩
    obtain ⟨sz, es⟩ : ∃ sz : Nat, (g 3 1).toInt = sz := ⟨(g 3 1).toInt.toNat, by omega⟩
    have eh2 : (S.1 0 3).toInt = hh := by rw [← x1]; exact eh
    have es2 : (S.1 0 6).toInt = sz := by rw [← p1]; exact es
    obtain ⟨f, f1, f2⟩ := m_text hN eh2 (by omega) es2 (by omega)
    obtain ⟨S5, hS5⟩ : ∃ S5, S5 = st0 (up (up S.1 1 f) 2 (upd (S.1 2) hh (S.1 0 6)), S.2) 6 0 := ⟨_, rfl⟩
    rw [← hS5] at f2
    have q1 : S5.1 1 = f := by
      rw [hS5, st0_j _ _ _ (by omega)]
      show up (up S.1 1 f) 2 (upd (S.1 2) hh (S.1 0 6)) 1 = f
      rw [up_n _ _ (by omega), up_s]
    have q2 : S5.1 2 = upd (S.1 2) hh (S.1 0 6) := by
      rw [hS5, st0_j _ _ _ (by omega)]
      show up (up S.1 1 f) 2 (upd (S.1 2) hh (S.1 0 6)) 2 = _
      rw [up_s]
    have qj : ∀ j : Nat, ¬ (j = 0 ∨ j = 1 ∨ j = 2) → S5.1 j = S.1 j := fun j hj => by
      rw [hS5, st0_j _ _ _ (by omega)]
      show up (up S.1 1 f) 2 (upd (S.1 2) hh (S.1 0 6)) j = S.1 j
      rw [up_n _ _ (by omega), up_n _ _ (by omega)]
    have q0 : ∀ k : Nat, k ≠ 6 → S5.1 0 k = S.1 0 k := fun k hk => by
      rw [hS5, st0_n _ _ _ hk]
      show up (up S.1 1 f) 2 (upd (S.1 2) hh (S.1 0 6)) 0 k = S.1 0 k
      rw [up_n _ _ (by omega), up_n _ _ (by omega)]
    have q6 : S5.1 0 6 = 0 := by rw [hS5, st0_s]
    have hC : CT g (S.1 3) sz := ⟨es, by omega, fun p hp => by
      obtain ⟨a, b, c⟩ := p4 p (by omega)
      rw [a] at b c
      exact ⟨a, b, c⟩⟩
    have nh : (S.1 0 3).toInt.toNat = hh := by omega
    have hb : ∀ p : Nat, p < sz → S5.1 1 (160 * (S.1 0 3).toInt.toNat + p) = S.1 3 p := fun p hp => by
      rw [nh, q1, f1, if_pos (by omega)]
      exact congrArg _ (by omega)
    have hs : (S5.1 2 (S.1 0 3).toInt.toNat).toInt = sz := by rw [nh, q2, upd_s]; exact es2
    obtain ⟨r, G, v, T, a1, a2, a3, a4, a5, a6⟩ := read_lk (S := S5) hN 0 hC (t := S.1 0 3) (by omega) hb hs
    rw [f2, a1, a2]
    simp only [Option.bind_some]
    have t3 : T.1 0 3 = S.1 0 3 := (a5.2 3 (by omega)).trans (q0 3 (by omega))
    have G4 : G 4 = g 4 := a3.1 4 (by omega)
    -- the texts that were there
    have old : ∀ (st2 sa2 : Nat → Int32) (t : Nat), t < hh → (∀ i : Nat, i < 160 → st2 i = g 26 (160 * t + i)) → (∀ q : Nat, q < 4 → sa2 q = g 27 (4 * t + q)) → TXs N st2 sa2 (fun i => S5.1 1 (160 * t + i)) (S5.1 2 t) := by
      intro st2 sa2 t ht e1 e2
      refine TXs_c (x4 t (by omega)) e1 e2 (fun i hi => ?_) ?_
      · show S5.1 1 (160 * t + i) = S.1 1 (160 * t + i)
        rw [q1, f1, if_neg (by omega)]
      · rw [q2, upd_n _ _ (by omega)]
    rcases a6 with ⟨b1, b2, b3⟩ | ⟨b1, b2, b3⟩
    · subst b1
      rw [if_pos rfl, if_pos b2]
      obtain ⟨G', k1, k2, k3, k4, k5⟩ := c_keep N (g := G) (h := hh) (by rw [G4]; exact eh) (by omega)
      rw [k1]
      simp only [Option.bind_some]
      have ea : T.1 0 3 + 1 - 1 = G 4 0 := by rw [t3, G4, x1]; exact Int32.add_sub_cancel _ _
      rw [ea]
      have e41 := inc1 (x := g 4 0) (by omega)
      have txs := txs_of (by' := fun i => S5.1 1 (160 * hh + i)) (szI := S5.1 2 hh) (st := fun i => G' 26 (160 * hh + i)) (sa := fun q => G' 27 (4 * hh + q)) hN hC a1 (fun p hp => by rw [← hb p hp, nh]) (by rw [← nh]; exact hs) (fun i hi => by
        show G' 26 (160 * hh + i) = _
        rw [k3, if_pos (by omega)]
        exact congrArg _ (by omega)) (fun q hq => by
        show G' 27 (4 * hh + q) = _
        rw [k4, if_pos (by omega)]
        exact congrArg _ (by omega))
      have tj : ∀ j : Nat, j ≠ 0 → (st0 T 3 (T.1 0 3 + 1)).1 j = S5.1 j := fun j hj => by rw [st0_j _ _ _ hj]; exact a5.1 j hj
      refine Sim.mk (Inv_text h (fun j hj => (k2 j (by omega)).trans (a3.1 j (by omega))) (by rw [k2 3 (by omega)]; exact a4) (fun j hj => (tj j (by omega)).trans (qj j hj)) (fun k hk => ?_) ?_ ?_ ⟨?_, ?_, ?_, fun t ht => ?_⟩)
      · rw [st0_n _ _ _ (by omega), a5.2 k (by omega)]; exact q0 k (by omega)
      · rw [st0_n _ _ _ (by omega), a5.2 6 (by omega)]; exact q6
      · rw [k5, G4]; omega
      · rw [k5, st0_s, G4, t3, x1]
      · rw [k5, G4]; omega
      · rw [k5, G4]; omega
      · rw [k5, G4] at ht
        rw [tj 1 (by omega), tj 2 (by omega)]
        by_cases c : t < hh
        · refine old _ _ t c (fun i hi => ?_) (fun q hq => ?_)
          · rw [k3, if_neg (by omega), a3.1 26 (by omega)]
          · rw [k4, if_neg (by omega), a3.1 27 (by omega)]
        · have : t = hh := by omega
          subst this
          exact txs
    · have m1 : (-1 : Int32).toInt = -1 := by decide
      have rn : ¬ r = -1 := fun z => by rw [z, m1] at b1; omega
      rw [if_neg rn, if_neg b2, b3]
      refine Sim.mk (Inv_text h (fun j hj => a3.1 j (by omega)) a4 (fun j hj => (a5.1 j (by omega)).trans (qj j hj)) (fun k hk => (a5.2 k (by omega)).trans (q0 k (by omega))) ((a5.2 6 (by omega)).trans q6) (by rw [G4]; exact Int.le_refl _) ⟨?_, ?_, ?_, fun t ht => ?_⟩)
      · rw [G4, t3, x1]
      · rw [G4]; exact x2
      · rw [G4]; exact x3
      · rw [G4] at ht
        rw [a5.1 1 (by omega), a5.1 2 (by omega), a3.1 26 (by omega), a3.1 27 (by omega)]
        exact old _ _ t (by omega) (fun i hi => rfl) (fun q hq => rfl)
  · rw [if_neg (show ¬ g 4 0 < 6 by rw [i_lt, i6]; exact c6)]
    have e6 : S.1 0 3 = 6 := by rw [← x1]; exact i_eq.mpr (by omega)
    unfold x_X8_text
    rw [if_pos e6]
    exact Sim.mk h
