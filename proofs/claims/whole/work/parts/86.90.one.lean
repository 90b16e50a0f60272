theorem EV_n {st nm nm2 : Nat → Int32} {i j : Nat} {v : Int32} (h : EV st nm i j v) (hn : ∀ k, k < 6 → nm k = nm2 k) : EV st nm2 i j v := by
  obtain ⟨s4, s5⟩ := h
  refine ⟨s4, fun l => ?_⟩
  have nmc : ∀ (n : Nat) (l l' : List Int32), exR st nm i n l l' → exR st nm2 i n l l' := by
    intro n
    induction n with
    | zero => intro l l' h; exact h
    | succ n ih =>
      intro l l' ⟨m, m1, m2⟩
      refine ⟨m, ih l m m1, ?_⟩
      rcases m2 with x | ⟨x1, x2⟩ | x | x
      · exact Or.inl x
      · exact Or.inr (Or.inl ⟨x1, by rw [x2, hn _ (by omega)]⟩)
      · exact Or.inr (Or.inr (Or.inl x))
      · exact Or.inr (Or.inr (Or.inr x))
  exact nmc _ _ _ (s5 l)
theorem At_28 {tx : Nat → Int32} {sz q : Nat} {S : SM} (h : At tx sz q S) (v : Int32) : At tx sz q (st0 S 28 v) := by
  obtain ⟨⟨a1, a2, a3, a4⟩, b, c, d, e⟩ := h
  have k : ∀ k, k ≠ 28 → (st0 S 28 v).1 0 k = S.1 0 k := fun k hk => st0_n _ _ _ hk
  refine ⟨⟨by rw [k 23 (by omega)]; exact a1, a2, by rw [k 22 (by omega)]; exact a3, fun p hp => ?_⟩, by rw [k 29 (by omega)]; exact b, by rw [k 26 (by omega)]; exact c, d, ?_⟩
  · rw [k 22 (by omega), st0_j _ _ _ (by omega)]; exact a4 p hp
  · unfold Kn at e ⊢
    rw [k 24 (by omega), k 25 (by omega)]
    exact e
theorem PRE_28 {ck pk tx : Nat → Int32} {sz q o o2 : Nat} {g : Sg} {S : SM} (h : PRE ck pk tx sz q o g S) {v : Int32} (hv : v.toInt = o2) : PRE ck pk tx sz q o2 g (st0 S 28 v) := by
  obtain ⟨h1, h2, h3, h4, h5, h6, h7⟩ := h
  exact ⟨h1, At_28 h2 v, h3, h4, h5, h6, by rw [st0_s]; exact hv⟩
/-- one more is open -/
theorem m_opens {N : Nat} (hN : 300 < N) {ck pk tx : Nat → Int32} {sz q o : Nat} {g : Sg} {S : SM} (h : PRE ck pk tx sz q o g S) (ho : o < 5) (hc : ¬ ck (cn (stb tx) q) = 20) (hc2 : ¬ ck (cn (stb tx) q) = 21) : ∃ T q2, x_X8_opens N S = some (1, T) ∧ Fm S T ∧ T.1 0 28 = S.1 0 28 + 1 ∧ cn (stb tx) q2 = cn (stb tx) q + 1 ∧ PRE ck pk tx sz q2 (o + 1) (hr1 g) T := by
  have h7 := h.2.2.2.2.2.2
  have e1 := inc1 (x := S.1 0 28) (by omega)
  have n5 : ¬ S.1 0 28 = 5 := fun z => by
    rw [z] at h7
    have : (5 : Int32).toInt = 5 := by decide
    omega
  obtain ⟨T, q2, t1, t2, t3, t4, t5⟩ := step_both hN (PRE_28 h (v := S.1 0 28 + 1) (o2 := o + 1) (by omega)) hc hc2
  unfold x_X8_opens
  rw [if_neg n5]
  simp only [lt]
  have es : ((up S.1 0 (upd (S.1 0) 28 (S.1 0 28 + 1)), S.2) : SM) = st0 S 28 (S.1 0 28 + 1) := rfl
  rw [es, t1]
  exact ⟨T, q2, rfl, Fm_t (Fm_0 S 28 _ (by omega)) t2, by rw [t3, st0_s], t4, t5⟩
/-- one more must not be open -/
theorem m_opens5 {N : Nat} {S : SM} (h : S.1 0 28 = 5) : x_X8_opens N S = (x_X8_fail N S).bind fun T => some (0, T) := by
  unfold x_X8_opens
  rw [if_pos h]
/-- what stands behind a sign ahead of it -/
theorem comb_un {N : Nat} {tx : Nat → Int32} {sz q q2 : Nat} {g G : Sg} {S T T' : SM} {u c x : Int32} (hw : ∃ w : Nat, (g 3 7).toInt = w ∧ w ≤ cn (stb tx) q) (fT : Fm S T) (e28 : T.1 0 28 = S.1 0 28 + 1) (hq2 : cn (stb tx) q2 = cn (stb tx) q + 1) (h2 : Good tx sz q2 (hr1 g) T G T' u) (hc : c = 5 ∨ c = 22) (hx : x = T'.1 0 28 - 1) : ∃ G2, x_X2_write N c G = some G2 ∧ Good tx sz q g S G2 (st0 T' 28 x) (if c = 5 then (if u = 0 then 1 else 0) else -u) := by
  obtain ⟨b1, b2', p2, w1, w2, b3, b4, b5, b6, b7, b8, b9, b10, b11, b12⟩ := h2
  obtain ⟨w, hw1, hw2⟩ := hw
  rw [hr1_7] at b6
  have ew : w1 = w := by omega
  subst ew
  obtain ⟨z1, z2, z3⟩ := cn_sz b3
  obtain ⟨G2, c1, c2, c3, c4, c5⟩ := c_write (N := N) b7 (by omega) c
  have e28' : x = S.1 0 28 := by
    rw [hx, b5, e28]
    exact Int32.add_sub_cancel _ _
  refine ⟨G2, c1, Fc_t (Fc_t (hr1_f g) b1) c2, Fm_t (Fm_t fT b2') (Fm_0 T' 28 x (by omega)), p2, w1, w2 + 1, At_28 b3 x, by rw [c3]; exact b4, by rw [st0_s]; exact e28', hw1, c4, by omega, by omega, by omega, fun i hi => ?_, ?_⟩
  · rw [c5, upd_n _ _ (by omega), b11 i hi, hr1_j _ (by omega)]
  · have s2 : EV (G2 24) (fun k => S.1 0 (16 + k)) w1 w2 u := EV_n (EV_c b12 (fun i ia ib => by rw [c5, upd_n _ _ (by omega)])) (fun k hk => fT.2 _ (by omega))
    have ec : G2 24 w2 = c := by rw [c5, upd_s]
    have := EV_un s2 (by rw [ec]; exact hc)
    rw [ec] at this
    exact this
theorem Int32_sub_one (x : Int32) : x - 1 = x + -1 := Int32.sub_eq_add_neg _ _
/-- a sign ahead of an operand, both sides: class prefixed; reference opens, the operand, closed again -/
theorem pre_lk {N : Nat} (hN : 300 < N) {lv o ec er : Nat} (hlv : lv ≤ 4) {c : Int32} (hc : c = 5 ∨ c = 22) (hk : o < 5 → LK N (lv + 1) (o + 1) ec er) {ck pk tx : Nat → Int32} {sz q : Nat} {g : Sg} {S : SM} {oI lI : Int32} (ho5 : o ≤ 5) (ho : oI.toInt = o) (hL : lI.toInt = lv) (hp : PRE ck pk tx sz q o g S) (h20 : ¬ ck (cn (stb tx) q) = 20) (h21 : ¬ ck (cn (stb tx) q) = 21) {ref : Option (Int32 × SM)} (href : ref = (x_X8_opens N S).bind fun p => if p.1 = 0 then some (0, p.2) else (gr_E N er (lv + 1) 0 0 0 p.2).bind fun u => some ((if c = 5 then (if u.1 = 0 then 1 else 0) else -u.1), st0 u.2 28 (u.2.1 0 28 - 1))) : RES tx sz q g S (gr_R N (ec + 2) 3 c lI oI g) ref := by
  have e : gr_R N (ec + 2) 3 c lI oI g = x_X2_prefixed N (gr_R N (ec + 1)) c lI oI g := rfl
  rw [e]
  unfold x_X2_prefixed
  have i5 : (5 : Int32).toInt = 5 := by decide
  simp only [i_lt]
  rw [i5, ho]
  by_cases c5 : o < 5
  · rw [if_pos (by omega)]
    obtain ⟨T, q2, t1, t2, t3, t4, t5⟩ := m_opens hN hp c5 h20 h21
    rw [href, t1]
    simp only [Option.bind_some, lt]
    rw [if_neg (show ¬ (1 : Int32) = 0 by decide)]
    have oo := inc1 (x := oI) (by omega)
    have eh : (up g 3 (upd (g 3) 4 (g 3 4 + 1)) : Sg) = hr1 g := rfl
    rw [eh]
    rcases op_lk hlv (hk c5) (oI := oI + 1) (by omega) hL t5 with ⟨G, T', u, d1, d2, d3⟩ | ⟨G, T', u, d1, d2, d3⟩
    · rw [d1, d2]
      simp only [Option.bind_some]
      rw [if_neg (show ¬ (1 : Int32) = 0 by decide)]
      obtain ⟨G2, w1, w2⟩ := comb_un (N := N) hp.2.2.2.2.2.1 t2 t3 t4 d3 hc rfl
      rw [w1]
      exact Or.inl ⟨G2, _, _, rfl, rfl, w2⟩
    · rw [d1, d2]
      simp only [Option.bind_some, if_true]
      obtain ⟨f1, f2, f3, q', f4, f5, f6, f7⟩ := d3
      refine Or.inr ⟨G, _, _, rfl, rfl, Fc_t (hr1_f g) f1, Fm_t (Fm_t t2 f2) (Fm_0 T' 28 _ (by omega)), ?_, q', f4, f5, f6, ?_⟩
      · rw [st0_n _ _ _ (by omega)]; exact f3
      · rw [st0_n _ _ _ (by omega)]; exact f7
  · rw [if_neg (by omega)]
    have h7 := hp.2.2.2.2.2.2
    have e5 : S.1 0 28 = 5 := i_eq.mpr (by rw [h7, i5]; omega)
    refine res_fail (N := N) (v := 0) hp rfl ?_
    rw [href, m_opens5 e5]
    cases x_X8_fail N S with
    | none => rfl
    | some T => rfl
theorem lk_2 {N : Nat} (hN : 300 < N) {o ec er : Nat} (ho5 : o ≤ 5) (hk : LK N 3 o (ec + 1) er) (hk2 : o < 5 → LK N 2 (o + 1) ec er) : LK N 2 o (ec + 3) (er + 1) := by
  intro ck pk tx sz q g S oI lI ho hL hp
  rw [if_neg (show ¬ 2 = 5 by omega)]
  have e : gr_R N (ec + 3) 0 lI oI 0 g = x_X2_expression N (gr_R N (ec + 2)) lI oI g := rfl
  have e2 : gr_E N (er + 1) 2 0 0 0 S = x_X8_not N (gr_E N er) S := rfl
  have el : lI = 2 := i_eq.mpr hL
  subst el
  obtain ⟨t1, t2⟩ := tok_g hp
  have i5 : (5 : Int32).toInt = 5 := by decide
  rw [e, e2]
  unfold x_X2_expression x_X8_not
  rw [if_pos rfl, if_pos t1, t2]
  have ew : x_X8_isWord N (110 : Int32) (111 : Int32) (116 : Int32) (0 : Int32) (0 : Int32) (0 : Int32) (0 : Int32) (0 : Int32) S = x_X8_isWord N (L8 5 0) (L8 5 1) (L8 5 2) (L8 5 3) (L8 5 4) (L8 5 5) (L8 5 6) (L8 5 7) S := by
    rw [show L8 5 0 = 110 from by decide, show L8 5 1 = 111 from by decide, show L8 5 2 = 116 from by decide, show L8 5 3 = 0 from by decide, show L8 5 4 = 0 from by decide, show L8 5 5 = 0 from by decide, show L8 5 6 = 0 from by decide, show L8 5 7 = 0 from by decide]
  obtain ⟨w, w1, w2⟩ := at_word (N := N) hp.1 hp.2.1 (k := 5) (by omega)
  rw [ew, w1]
  simp only [Option.bind_some]
  by_cases c : ck (cn (stb tx) q) = 5
  · have c' : (ck (cn (stb tx) q)).toInt = ((5 : Nat) : Int) := by rw [c]; decide
    rw [if_pos c, if_neg (fun z => (w2.mp z) c')]
    have r := pre_lk hN (lv := 1) (er := er) (by omega) (c := 5) (Or.inl rfl) hk2 ho5 ho (lI := 1) (by decide) hp (by rw [c]; decide) (by rw [c]; decide) rfl
    -- the same, as both are written
    have er2 : ((x_X8_opens N S).bind fun q14 => (if q14.1 = 0 then some ((0 : Int32), q14.2) else (gr_E N er 2 0 0 0 q14.2).bind fun q16 => lt (up q16.2.1 0 (upd (q16.2.1 0) 28 ((q16.2.1 0 28) - (1 : Int32))), q16.2.2) fun g17 => (if q16.1 = 0 then some ((1 : Int32), g17) else some ((0 : Int32), g17)))) = ((x_X8_opens N S).bind fun p => if p.1 = 0 then some (0, p.2) else (gr_E N er 2 0 0 0 p.2).bind fun u => some ((if (5 : Int32) = 5 then (if u.1 = 0 then 1 else 0) else -u.1), st0 u.2 28 (u.2.1 0 28 - 1))) := by
      refine congrArg (fun z => Option.bind (x_X8_opens N S) z) (funext (fun p => ?_))
      by_cases a : p.1 = 0
      · rw [if_pos a, if_pos a]
      · rw [if_neg a, if_neg a]
        refine congrArg (fun z => Option.bind (gr_E N er 2 0 0 0 p.2) z) (funext (fun u => ?_))
        rw [if_pos rfl]
        by_cases b : u.1 = 0
        · rw [if_pos b]; simp only [lt]; rw [if_pos b]; rfl
        · rw [if_neg b]; simp only [lt]; rw [if_neg b]; rfl
    rw [er2]
    rcases r with ⟨G, T, v, d1, d2, d3⟩ | ⟨G, T, v, d1, d2, d3⟩
    · exact Or.inl ⟨G, T, v, by rw [d1]; rfl, d2, d3⟩
    · exact Or.inr ⟨G, T, v, by rw [d1]; rfl, d2, d3⟩
  · have c' : ¬ (ck (cn (stb tx) q)).toInt = ((5 : Nat) : Int) := fun z => c (i_eq.mpr (by rw [z]; decide))
    rw [if_neg c, if_pos (w2.mpr c')]
    unfold x_X2_expression_b26
    have l60 : (60 : Int64).toInt = 60 := by decide
    have c60 : (bySIGNS.getD 6 0).toInt = 60 := by decide
    have c61 : (bySIGNS.getD 7 0).toInt = 61 := by decide
    rcases op_lk (by omega) hk ho (lI := 2) (by decide) hp with ⟨G, T, v, d1, d2, d3⟩ | ⟨G, T, v, d1, d2, d3⟩
    · rw [d1, d2]
      simp only [Option.bind_some]
      rw [if_neg (show ¬ (1 : Int32) = 0 by decide), if_pos trivial]
      obtain ⟨q1, p1, p2⟩ := good_pre hp d3
      obtain ⟨u1, u2⟩ := tok_g p1
      unfold x_X2_expression_b49
      obtain ⟨M, rfl⟩ : ∃ M, N = M + 2 := ⟨N - 2, by omega⟩
      obtain ⟨H, hH⟩ : ∃ H, H = lp (x_X2_expression_B53 (M + 2) (gr_R (M + 2) (ec + 2))) (M + 1) := ⟨_, rfl⟩
      show RES tx sz q g S (x_X2_expression_B53 (M + 2) (gr_R (M + 2) (ec + 2)) (lp (x_X2_expression_B53 (M + 2) (gr_R (M + 2) (ec + 2))) (M + 1)) (2, oI, 1, 0, G)) _
      rw [← hH]
      unfold x_X2_expression_B53
      simp only []
      rw [if_neg (show ¬ (1 : Int32) ≤ 0 by decide), if_pos u1, u2, c_lvl]
      simp only [Option.bind_some]
      obtain ⟨s1, s1a, s1b⟩ := at_sign (N := M + 2) p1.1 p1.2.1 (k := 6) (by omega) (s := 60) rfl
      obtain ⟨s2, s2a, s2b⟩ := at_sign (N := M + 2) p1.1 p1.2.1 (k := 7) (by omega) (s := 61) rfl
      rw [s1a]
      simp only [Option.bind_some]
      have e18 : ∀ k : Nat, (k = 6 ∨ k = 7) → (ck (cn (stb tx) q1)).toInt = 12 + k → lvl (ck (cn (stb tx) q1)) = 2 := fun k hk' hz => by
        rcases hk' with rfl | rfl
        · have : ck (cn (stb tx) q1) = 18 := i_eq.mpr (by rw [hz]; decide)
          rw [this]; rfl
        · have : ck (cn (stb tx) q1) = 19 := i_eq.mpr (by rw [hz]; decide)
          rw [this]; rfl
      -- a sign is there
      have sign : ∀ k : Nat, (k = 6 ∨ k = 7) → (ck (cn (stb tx) q1)).toInt = 12 + k → ∀ (t0 : Int32), (t0 = 0 ↔ k = 7) → RES tx sz q g S (if lvl (ck (cn (stb tx) q1)) = 2 then (if inb (G 3 4) 161 = true then lt (G 22 (G 3 4).toNatClampNeg) fun x10 => lt (up G 3 (upd (G 3) 4 (G 3 4 + 1))) fun g11 => (gr_R (M + 2) (ec + 2) 1 2 oI 0 g11).bind fun q12 => (if q12.1 = 0 then some ((0 : Int32), q12.2) else (x_X2_write (M + 2) x10 q12.2).bind fun q14 => lt ((0 : Int32) + (1 : Int32)) fun x15 => H (2, oI, 1, x15, q14)) else none) else some ((1 : Int32), G)) (x_X8_not_b93 (M + 2) (gr_E (M + 2) er) v t0 T) := by
        intro k hk' hz t0 ht0
        have hb := lvl_b (c := ck (cn (stb tx) q1)) (by rw [e18 k hk' hz]; decide)
        rw [if_pos (e18 k hk' hz), if_pos u1, u2]
        simp only [lt]
        have eh : (up G 3 (upd (G 3) 4 (G 3 4 + 1)) : Sg) = hr1 G := rfl
        rw [eh]
        obtain ⟨T1, q2, x1, x2, x3, x4, x5⟩ := step_both hN p1 hb.2.1 hb.2.2
        unfold x_X8_not_b93
        rw [x1]
        simp only [Option.bind_some]
        rcases op_lk (by omega) hk ho (lI := 2) (by decide) x5 with ⟨G1, T2, u, y1, y2, y3⟩ | ⟨G1, T2, u, y1, y2, y3⟩
        · rw [y1, y2]
          simp only [Option.bind_some]
          rw [if_neg (show ¬ (1 : Int32) = 0 by decide)]
          obtain ⟨G2, z1, z2, z3⟩ := comb (N := M + 2) d3 p1.2.2.2.2.1 p1.2.2.2.2.2.1 x2 x3 x4 y3 hb.1
          rw [z1]
          simp only [Option.bind_some]
          have eH : H (2, oI, 1, 0 + 1, G2) = some (1, G2) := by rw [hH]; rfl
          rw [eH]
          refine Or.inl ⟨G2, T2, _, rfl, ?_, z3⟩
          rcases hk' with rfl | rfl
          · have ec18 : ck (cn (stb tx) q1) = 18 := i_eq.mpr (by rw [hz]; decide)
            rw [if_neg (fun z => by have := ht0.mp z; omega), ec18]
            show (if u ≤ v then some ((0 : Int32), T2) else some (1, T2)) = some ((if u ≤ v then 0 else 1), T2)
            by_cases a : u ≤ v
            · rw [if_pos a, if_pos a]
            · rw [if_neg a, if_neg a]
          · have ec19 : ck (cn (stb tx) q1) = 19 := i_eq.mpr (by rw [hz]; decide)
            rw [if_pos (ht0.mpr rfl), ec19]
            show (if v = u then some ((1 : Int32), T2) else some (0, T2)) = some ((if v = u then 1 else 0), T2)
            by_cases a : v = u
            · rw [if_pos a, if_pos a]
            · rw [if_neg a, if_neg a]
        · rw [y1, y2]
          simp only [Option.bind_some, if_true]
          obtain ⟨f1, f2, f3, q', f4, f5, f6, f7⟩ := y3
          have bad : Bad tx sz g S G1 T2 := ⟨Fc_t (Fc_t d3.1 (hr1_f G)) f1, Fm_t (Fm_t d3.2.1 x2) f2, f3, q', f4, f5, f6, f7⟩
          by_cases a : t0 = 0
          · rw [if_pos a]
            by_cases b : v = u
            · rw [if_pos b]; exact Or.inr ⟨G1, T2, _, rfl, rfl, bad⟩
            · rw [if_neg b]; exact Or.inr ⟨G1, T2, _, rfl, rfl, bad⟩
          · rw [if_neg a]
            by_cases b : u ≤ v
            · rw [if_pos b]; exact Or.inr ⟨G1, T2, _, rfl, rfl, bad⟩
            · rw [if_neg b]; exact Or.inr ⟨G1, T2, _, rfl, rfl, bad⟩
      by_cases c6 : (ck (cn (stb tx) q1)).toInt = 12 + ((6 : Nat) : Int)
      · rw [if_neg (fun z => (s1b.mp z) c6)]
        unfold x_X8_not_b77
        simp only [cmp_0, l60]
        rw [if_pos (show T.2.toInt = 60 by rw [at_sval p1.1 p1.2.1 (by omega) c6, c60])]
        exact sign 6 (Or.inl rfl) c6 1 ⟨fun z => absurd z (by decide), fun z => by omega⟩
      · rw [if_pos (s1b.mpr c6), s2a]
        simp only [Option.bind_some]
        by_cases c7 : (ck (cn (stb tx) q1)).toInt = 12 + ((7 : Nat) : Int)
        · rw [if_neg (fun z => (s2b.mp z) c7)]
          unfold x_X8_not_b77
          simp only [cmp_0, l60]
          rw [if_neg (show ¬ T.2.toInt = 60 by rw [at_sval p1.1 p1.2.1 (by omega) c7, c61]; decide)]
          exact sign 7 (Or.inr rfl) c7 0 ⟨fun _ => rfl, fun _ => rfl⟩
        · rw [if_pos (s2b.mpr c7)]
          have nl : ¬ lvl (ck (cn (stb tx) q1)) = 2 := fun z => by
            unfold lvl at z
            split at z
            · exact absurd z (by decide)
            split at z
            · exact absurd z (by decide)
            split at z
            · exact absurd z (by decide)
            split at z
            · exact absurd z (by decide)
            split at z
            · exact absurd z (by decide)
            split at z
            · rename_i y; exact c6 (by rw [y]; decide)
            split at z
            · rename_i y; exact c7 (by rw [y]; decide)
            · exact absurd z (by decide)
          rw [if_neg nl]
          exact Or.inl ⟨G, T, v, rfl, rfl, d3⟩
    · rw [d1, d2]
      simp only [Option.bind_some, if_true]
      have hb := d3.2.2.1
      rw [bad_sign hb]
      simp only [Option.bind_some, if_true]
      rw [bad_sign hb]
      simp only [Option.bind_some, if_true]
      exact Or.inr ⟨G, T, v, rfl, rfl, d3⟩
