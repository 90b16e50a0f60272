theorem nbb (p : Prop) [Decidable p] : vp_nar .boolean (b2 p) = b2 p := by
  rcases b2_01 p with e | e <;> rw [e]
  · exact nb0
  · exact nb1
theorem ofI_i {f : Int32} (h : 0 ≤ f.toInt) : Int32.ofInt (f.toInt.toNat : Nat) = f := by
  rw [Int.toNat_of_nonneg h, Int32.ofInt_toInt]
theorem m_canMany {N : Nat} (hN : 200 < N) {a : Int32} {S : SM} {mk : Int} {m k : Nat} {C D : Nat → Int32} (h : Rg (S.1 5) (S.1 6) (S.1 7) mk) (hmk : mk ≤ 5) (ha : 0 ≤ a.toInt ∧ a.toInt ≤ 3) (hk : k = a.toInt.toNat) (hs : (S.1 20 k).toInt = 2 * m) (hm : m ≤ 20) (hC : ∀ p, p < m → S.1 21 (40 * k + 2 * p) = C p ∧ S.1 21 (40 * k + (2 * p + 1)) = D p ∧ 0 ≤ (C p).toInt ∧ (C p).toInt < 20 * mk) : ∃ T, x_X8_canMany N a S = some (Int32.ofInt (cn (rwP (S.1 5) (S.1 6) (S.1 7) C D m) 100), T) ∧ (∀ i, i ≠ 10 → T.1 i = S.1 i) ∧ ∀ f : Nat, f < 100 → T.1 10 f = b2 (rwP (S.1 5) (S.1 6) (S.1 7) C D m f = true) := by
  obtain ⟨P, hP⟩ : ∃ P, P = rwP (S.1 5) (S.1 6) (S.1 7) C D m := ⟨_, rfl⟩
  rw [← hP]
  unfold x_X8_canMany
  obtain ⟨r, e, e2, e3, e4⟩ := lp_tot (F := x_X8_canMany_B4 N) (fun x => 101 - x.2.2.1.toInt.toNat) (fun x => x.1 = a ∧ 0 ≤ x.2.2.1.toInt ∧ x.2.2.1.toInt ≤ 100 ∧ x.2.1.toInt = cn P x.2.2.1.toInt.toNat ∧ (∀ i, i ≠ 10 → x.2.2.2.1 i = S.1 i) ∧ ∀ f : Nat, f < x.2.2.1.toInt.toNat → x.2.2.2.1 10 f = b2 (P f = true)) (fun _ r => r.1 = Int32.ofInt (cn P 100) ∧ (∀ i, i ≠ 10 → r.2.1 i = S.1 i) ∧ ∀ f : Nat, f < 100 → r.2.1 10 f = b2 (P f = true)) (by
    intro hh ⟨y1, n, f, T⟩ ⟨j1, j2, j3, j4, j5, j6⟩ ih
    have i1 : y1 = a := j1
    have i2 : 0 ≤ f.toInt := j2
    have i3 : f.toInt ≤ 100 := j3
    have i4 : n.toInt = cn P f.toInt.toNat := j4
    have i5 : ∀ i, i ≠ 10 → T.1 i = S.1 i := j5
    have i6 : ∀ q : Nat, q < f.toInt.toNat → T.1 10 q = b2 (P q = true) := j6
    clear j1 j2 j3 j4 j5 j6
    subst i1
    unfold x_X8_canMany_B4
    simp only [i_le, Int32.reduceToInt]
    by_cases c1 : 100 ≤ f.toInt
    · rw [if_pos c1]
      rw [show f.toInt.toNat = 100 by omega] at i4
      exact ⟨_, rfl, eq_of i4, i5, fun q hq => i6 q (by omega)⟩
    · have e1 := inc1 (x := f) (by omega)
      have q5 := i5 5 (by omega)
      have q6 := i5 6 (by omega)
      have q7 := i5 7 (by omega)
      have q20 := i5 20 (by omega)
      have q21 := i5 21 (by omega)
      have hl := cn_le P f.toInt.toNat
      rw [if_neg c1, m_isSo (C := C) (D := D) (m := m) (k := k) (mk := mk) hN (by rw [q5, q6, q7]; exact h) hmk ha hk (by rw [q20]; exact hs) hm (by rw [q21]; exact hC) (by omega), q5, q6, q7]
      simp only [Option.bind_some, nbb]
      rw [if_pos (show inb f 100 = true from i_inb.mpr ⟨by omega, by omega⟩)]
      have eP : al (rwo (S.1 5) (S.1 6) (S.1 7) C D (-1) f) m = P f.toInt.toNat := by
        rw [hP]
        unfold rwP
        rw [ofI_i i2]
      rw [eP]
      simp only [lt]
      rw [if_pos (show inb f 100 = true from i_inb.mpr ⟨by omega, by omega⟩)]
      have er : up T.1 10 (upd (T.1 10) f.toNatClampNeg (b2 (P f.toInt.toNat = true))) 10 f.toNatClampNeg = b2 (P f.toInt.toNat = true) := by rw [up_s, upd_s]
      simp only [er, b2_0]
      have go : ∀ t : Int32, t.toInt = (if P f.toInt.toNat then 1 else 0) → ∃ r, x_X8_canMany_b38 N hh y1 f t n (up T.1 10 (upd (T.1 10) f.toNatClampNeg (b2 (P f.toInt.toNat = true))), T.2) = some r ∧ r.1 = Int32.ofInt (cn P 100) ∧ (∀ i, i ≠ 10 → r.2.1 i = S.1 i) ∧ ∀ q : Nat, q < 100 → r.2.1 10 q = b2 (P q = true) := by
        intro t et
        unfold x_X8_canMany_b38
        simp only [lt]
        refine ih (y1, n + t, f + 1, _) ⟨rfl, by show 0 ≤ (f + 1).toInt; omega, by show (f + 1).toInt ≤ 100; omega, ?_, fun i hi => ?_, fun q hq => ?_⟩ (by show 101 - (f + 1).toInt.toNat < 101 - f.toInt.toNat; omega)
        · show (n + t).toInt = cn P (f + 1).toInt.toNat
          rw [show (f + 1).toInt.toNat = f.toInt.toNat + 1 by omega]
          show _ = ((cn P f.toInt.toNat + (if P f.toInt.toNat then 1 else 0) : Nat) : Int)
          by_cases c2 : P f.toInt.toNat = true
          · rw [if_pos c2] at et ⊢
            rw [i_add, i4, et] <;> omega
          · rw [if_neg c2] at et ⊢
            rw [i_add, i4, et] <;> omega
        · show up T.1 10 _ i = _
          rw [up_n _ _ hi]; exact i5 i hi
        · have hq : q < (f + 1).toInt.toNat := hq
          show upd (T.1 10) f.toNatClampNeg _ q = _
          by_cases c2 : q = f.toNatClampNeg
          · subst c2; rw [upd_s]; rfl
          · rw [upd_n _ _ c2]
            rw [i_nat] at c2
            exact i6 q (by omega)
      by_cases c2 : P f.toInt.toNat = true
      · rw [if_neg (fun z => z c2)]; exact go 1 (by rw [if_pos c2]; rfl)
      · rw [if_pos c2]; exact go 0 (by rw [if_neg c2]; rfl)) N (a, 0, 0, S) ⟨rfl, Int.le_refl 0, by show (0 : Int32).toInt ≤ 100; decide, rfl, fun _ _ => rfl, fun q hq => absurd hq (Nat.not_lt_zero q)⟩ (by show 101 - _ < N; omega)
  obtain ⟨n, T⟩ := r
  have e2 : n = Int32.ofInt (cn P 100) := e2
  subst e2
  exact ⟨T, e, e3, e4⟩
/-- both sides' feet by the rows of a sheet -/
theorem rows_feet {TX : TXt} {g : Sg} {S : SM} (h : Inv TX g S) {N : Nat} (hN : 200 < N) {a : Int32} {m : Nat} (ha : 0 ≤ a.toInt ∧ a.toInt ≤ 3) (hw : Rw g a.toInt.toNat m) : ∃ G T lo hi, x_X7_narrowByRows N a g = some G ∧ (∀ i, i ≠ 6 → G i = g i) ∧ SpB lo hi ∧ (G 6 0).toInt = lo ∧ (G 6 1).toInt = hi ∧ x_X8_canMany N a S = some (Int32.ofInt (cn (inS lo hi) 100), T) ∧ (∀ i, i ≠ 10 → T.1 i = S.1 i) ∧ ∀ f : Nat, f < 100 → T.1 10 f = b2 (inS lo hi f = true) := by
  obtain ⟨k1, k2, k3⟩ := mk5 h
  obtain ⟨G, lo, hi, e1, o1, sb, z0, z1, z2⟩ := c_rows hN ha (Rg_c h) k3 hw
  obtain ⟨k, hk⟩ : ∃ k, k = a.toInt.toNat := ⟨_, rfl⟩
  rw [← hk] at hw z2
  obtain ⟨⟨w1, w2, w3⟩, w4⟩ := hw
  have hq : S.1 20 k = g 31 k ∧ ∀ i : Nat, (i : Int) < (g 31 k).toInt → g (33 + k) i = S.1 21 (40 * k + i) := by
    rcases h.2.2.2.2.2.2.1 k (by omega) with ⟨m1, _⟩ | ⟨_, _, _, m4, _, m6⟩
    · rw [m1] at w1; exact absurd w1.1 (by decide)
    · exact ⟨m4, m6⟩
  obtain ⟨T, t1, t2, t3⟩ := m_canMany (N := N) hN (C := fun p => g (33 + k) (2 * p)) (D := fun p => g (33 + k) (2 * p + 1)) (m := m) (k := k) (a := a) (S := S) (Rg_m h) k3 ha hk (by rw [hq.1]; exact w2) w3 (fun p hp => ⟨(hq.2 (2 * p) (by omega)).symm, (hq.2 (2 * p + 1) (by omega)).symm, (w4 p hp).1.1, (w4 p hp).1.2⟩)
  have e : ∀ f, f < 100 → rwP (S.1 5) (S.1 6) (S.1 7) (fun p => g (33 + k) (2 * p)) (fun p => g (33 + k) (2 * p + 1)) m f = inS lo hi f := by
    intro f hf
    rw [z2 f hf]
    refine al_c m (fun p hp => ?_)
    unfold rwo
    show (!decide ((-1 : Int32) = -1 ∨ _) || decide (Sy (S.1 5) (S.1 6) (S.1 7) (g (33 + k) (2 * p)).toInt.toNat _ = _)) = _
    rw [Sy_cm h (by have := (w4 p hp).1; omega)]
  rw [cn_c 100 e] at t1
  exact ⟨G, T, lo, hi, e1, o1, sb, z0, z1, t1, t2, fun f hf => by rw [t3 f hf, e f hf]⟩
theorem o_canBe {TX : TXt} {g : Sg} {S : SM} (h : Inv TX g S) {N : Nat} (hN : 1000 < N) (a w : Int32) : Sim TX (x_X7_canBe N a w g) (x_X8_canBe N a w S) := by
  unfold x_X7_canBe x_X8_canBe
  rw [c_isOne, m_in]
  simp only [Option.bind_some, b2_0, i_l64, i_lt, i_le, Int32.reduceToInt, Int64.reduceToInt]
  by_cases h1 : 0 ≤ a.toInt ∧ a.toInt ≤ 3
  · rw [if_neg (show ¬ ¬ (0 ≤ a.toInt ∧ a.toInt ≤ 3) from fun z => z h1)]
    by_cases h2 : 0 ≤ w.toInt ∧ w.toInt ≤ 2
    · rw [if_neg (show ¬ w.toInt < 0 by omega), if_pos h2.2, if_neg (show ¬ ¬ (0 ≤ w.toInt ∧ w.toInt ≤ 2) from fun z => z h2)]
      obtain ⟨r, r1, r2, r3⟩ := rows_both h (N := N) (by omega) h1
      rw [r1, r2]
      simp only [Option.bind_some]
      by_cases h5 : r = 0
      · rw [if_pos h5, if_pos h5]
        obtain ⟨m, hw⟩ := r3 h5
        obtain ⟨G, T, lo, hi, e1, o1, sb, z0, z1, t1, t2, t3⟩ := rows_feet h (N := N) (by omega) h1 hw
        rw [e1, t1]
        simp only [Option.bind_some]
        rw [c_size sb z0 z1]
        simp only [Option.bind_some]
        have hI : Inv TX G T := inv_k (inv_g h (G := G) (fun i hi => o1 i (by omega))) (fun _ _ => rfl) rfl (fun i hi => t2 i (by omega)) (fun k _ => by rw [t2 0 (by omega)])
        have hc := cn_S sb 100 (by omega)
        obtain ⟨n, hn⟩ : ∃ n, n = Int32.ofInt (cn (inS lo hi) 100) := ⟨_, rfl⟩
        have en : n.toInt = max 0 (min (hi + 1) 100 - lo) := by
          have hl := cn_le (inS lo hi) 100
          rw [hn, of_i (by omega) (by omega), hc]; rfl
        rw [← hn]
        obtain ⟨s1, s2⟩ := sb
        obtain ⟨q, eq, q1, q2⟩ := lp_tot (F := x_X8_canBe_B43 N) (fun x => 101 - x.2.2.2.2.1.toInt.toNat) (fun x => x.1 = w ∧ x.2.1 = n ∧ 0 ≤ x.2.2.2.2.1.toInt ∧ x.2.2.2.2.1.toInt ≤ 100 ∧ x.2.2.1.toInt = (if lo < x.2.2.2.2.1.toInt ∧ lo ≤ hi then lo else -1) ∧ x.2.2.2.1.toInt = (if lo < x.2.2.2.2.1.toInt ∧ lo ≤ hi then min hi (x.2.2.2.2.1.toInt - 1) else -1) ∧ x.2.2.2.2.2 = T) (fun _ r => r.2 = T ∧ r.1 = if w = 0 then n else if w = 1 then Int32.ofInt (if lo ≤ hi then lo else -1) else Int32.ofInt (if lo ≤ hi then hi else -1)) (by
          intro hh ⟨y1, y2, p, q, f, Y⟩ ⟨j1, j2, j3, j4, j5, j6, j7⟩ ih
          have i1 : y1 = w := j1
          have i2 : y2 = n := j2
          have i3 : 0 ≤ f.toInt := j3
          have i4 : f.toInt ≤ 100 := j4
          have i5 : p.toInt = (if lo < f.toInt ∧ lo ≤ hi then lo else -1) := j5
          have i6 : q.toInt = (if lo < f.toInt ∧ lo ≤ hi then min hi (f.toInt - 1) else -1) := j6
          have i7 : Y = T := j7
          clear j1 j2 j3 j4 j5 j6 j7
          subst i1; subst i2; subst i7
          unfold x_X8_canBe_B43
          simp only [i_le, Int32.reduceToInt]
          by_cases c1 : 100 ≤ f.toInt
          · rw [if_pos c1]
            have e5 : p = Int32.ofInt (if lo ≤ hi then lo else -1) := eq_of (by split <;> omega)
            have e6 : q = Int32.ofInt (if lo ≤ hi then hi else -1) := eq_of (by split <;> omega)
            by_cases c2 : y1 = 0
            · rw [if_pos c2]; exact ⟨_, rfl, rfl, by rw [if_pos c2]⟩
            rw [if_neg c2]
            by_cases c3 : y1 = 1
            · rw [if_pos c3]; exact ⟨_, rfl, rfl, by rw [if_neg c2, if_pos c3]; exact e5⟩
            · rw [if_neg c3]; exact ⟨_, rfl, rfl, by rw [if_neg c2, if_neg c3]; exact e6⟩
          · have e5 := inc1 (x := f) (by omega)
            rw [if_neg c1, if_pos (show inb f 100 = true from i_inb.mpr ⟨by omega, by omega⟩), i_nat, t3 _ (by omega)]
            simp only [b2_0]
            have go : ∀ p' q' : Int32, p'.toInt = (if lo < (f + 1).toInt ∧ lo ≤ hi then lo else -1) → q'.toInt = (if lo < (f + 1).toInt ∧ lo ≤ hi then min hi ((f + 1).toInt - 1) else -1) → ∃ r, x_X8_canBe_b79 N hh y1 y2 p' q' f Y = some r ∧ r.2 = Y ∧ r.1 = if y1 = 0 then y2 else if y1 = 1 then Int32.ofInt (if lo ≤ hi then lo else -1) else Int32.ofInt (if lo ≤ hi then hi else -1) := by
              intro p' q' hp hq
              unfold x_X8_canBe_b79
              simp only [lt]
              exact ih (y1, y2, p', q', f + 1, Y) ⟨rfl, rfl, by show 0 ≤ (f + 1).toInt; omega, by show (f + 1).toInt ≤ 100; omega, hp, hq, rfl⟩ (by show 101 - (f + 1).toInt.toNat < 101 - f.toInt.toNat; omega)
            unfold x_X8_canBe_b73
            have eI : inS lo hi f.toInt.toNat = true ↔ lo ≤ f.toInt ∧ f.toInt ≤ hi := by
              unfold inS
              rw [decide_eq_true_eq, show ((f.toInt.toNat : Nat) : Int) = f.toInt by omega]
            rw [e5] at go
            by_cases c2 : inS lo hi f.toInt.toNat = true
            · rw [if_neg (fun z => z c2)]
              rw [eI] at c2
              by_cases c3 : p = -1
              · rw [if_pos c3]
                have c4 : ¬ lo < f.toInt := by
                  intro c4
                  rw [if_pos ⟨c4, by omega⟩] at i5
                  rw [c3] at i5
                  have : (-1 : Int32).toInt = -1 := by decide
                  omega
                exact go f f (by omega) (by omega)
              · rw [if_neg c3]
                have c4 : lo < f.toInt := by
                  refine Decidable.byContradiction (fun c4 => c3 (i_eq.mpr ?_))
                  rw [i5, if_neg (by omega)]; rfl
                rw [if_pos (by omega)] at i5
                exact go p f (by omega) (by omega)
            · rw [if_pos c2]
              rw [eI] at c2
              exact go p q (by omega) (by omega)) N (w, n, -1, -1, 0, T) ⟨rfl, rfl, Int.le_refl 0, by show (0 : Int32).toInt ≤ 100; decide, by show (-1 : Int32).toInt = if lo < (0 : Int32).toInt ∧ lo ≤ hi then lo else -1; rw [if_neg (by simp only [Int32.reduceToInt]; omega)]; rfl, by show (-1 : Int32).toInt = if lo < (0 : Int32).toInt ∧ lo ≤ hi then _ else -1; rw [if_neg (by simp only [Int32.reduceToInt]; omega)]; rfl, rfl⟩ (by show 101 - _ < N; omega)
        obtain ⟨v, V⟩ := q
        have q1 : V = T := q1
        have q2 : v = if w = 0 then n else if w = 1 then Int32.ofInt (if lo ≤ hi then lo else -1) else Int32.ofInt (if lo ≤ hi then hi else -1) := q2
        subst q1
        rw [eq, q2]
        by_cases c2 : w = 0
        · rw [if_pos c2, if_pos c2]; exact Sim.mk hI
        rw [if_neg c2, if_neg c2]
        by_cases c4 : lo ≤ hi
        · rw [if_pos c4, if_pos c4, if_neg (fun z => by rw [z] at en; have : (0 : Int32).toInt = 0 := by decide
                                                        omega)]
          by_cases c3 : w = 1
          · rw [if_pos c3, if_pos c3, ← eq_of z0]; exact Sim.mk hI
          · rw [if_neg c3, if_neg c3, ← eq_of z1]; exact Sim.mk hI
        · rw [if_neg c4, if_neg c4, if_pos (i_eq.mpr (by rw [en]; show _ = (0 : Int); omega))]
          by_cases c3 : w = 1
          · rw [if_pos c3]; exact Sim.mk hI
          · rw [if_neg c3]; exact Sim.mk hI
      · rw [if_neg h5, if_neg h5]; exact Sim.mk h
    · rw [if_pos (show ¬ (0 ≤ w.toInt ∧ w.toInt ≤ 2) from h2)]
      by_cases h3 : w.toInt < 0
      · rw [if_pos h3]; exact Sim.mk h
      · rw [if_neg h3, if_neg (show ¬ w.toInt ≤ 2 by omega)]; exact Sim.mk h
  · rw [if_pos h1]
    by_cases h2 : 0 ≤ w.toInt ∧ w.toInt ≤ 2
    · rw [if_neg (show ¬ ¬ (0 ≤ w.toInt ∧ w.toInt ≤ 2) from fun z => z h2)]
      have : x_X8_canBad N a S = some (-2, S) := by
        unfold x_X8_canBad
        rw [m_isSheet]
        simp only [Option.bind_some, b2_0]
        rw [if_pos h1]
      rw [this]
      simp only [Option.bind_some]
      rw [if_neg (by decide)]
      exact Sim.mk h
    · rw [if_pos h2]; exact Sim.mk h
