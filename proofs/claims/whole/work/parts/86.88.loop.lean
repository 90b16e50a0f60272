def lvl (c : Int32) : Int32 := if c = 3 then 0 else if c = 4 then 1 else if c = 15 then 3 else if c = 16 then 3 else if c = 17 then 4 else if c = 18 then 2 else if c = 19 then 2 else -1
theorem c_lvl (N : Nat) (c : Int32) (g : Sg) : x_X2_levelOf N c g = some (lvl c, g) := by
  by_cases h : c.toInt < 3 ∨ 19 < c.toInt
  · unfold x_X2_levelOf lvl
    rw [if_pos h, if_neg (fun z => by rw [z] at h; exact absurd h (by decide)), if_neg (fun z => by rw [z] at h; exact absurd h (by decide)), if_neg (fun z => by rw [z] at h; exact absurd h (by decide)), if_neg (fun z => by rw [z] at h; exact absurd h (by decide)), if_neg (fun z => by rw [z] at h; exact absurd h (by decide)), if_neg (fun z => by rw [z] at h; exact absurd h (by decide)), if_neg (fun z => by rw [z] at h; exact absurd h (by decide))]
  · have : c = 3 ∨ c = 4 ∨ c = 5 ∨ c = 6 ∨ c = 7 ∨ c = 8 ∨ c = 9 ∨ c = 10 ∨ c = 11 ∨ c = 12 ∨ c = 13 ∨ c = 14 ∨ c = 15 ∨ c = 16 ∨ c = 17 ∨ c = 18 ∨ c = 19 := by
      simp only [i_eq (x := c), Int32.reduceToInt]
      omega
    rcases this with rfl | rfl | rfl | rfl | rfl | rfl | rfl | rfl | rfl | rfl | rfl | rfl | rfl | rfl | rfl | rfl | rfl <;> rfl
theorem lvl_b {c : Int32} (h : 0 ≤ (lvl c).toInt) : isb c ∧ ¬ c = 20 ∧ ¬ c = 21 := by
  unfold lvl at h
  unfold isb
  by_cases c1 : c = 3
  · exact ⟨Or.inl c1, by rw [c1]; decide, by rw [c1]; decide⟩
  rw [if_neg c1] at h
  by_cases c2 : c = 4
  · exact ⟨Or.inr (Or.inl c2), by rw [c2]; decide, by rw [c2]; decide⟩
  rw [if_neg c2] at h
  by_cases c3 : c = 15
  · exact ⟨Or.inr (Or.inr (Or.inl c3)), by rw [c3]; decide, by rw [c3]; decide⟩
  rw [if_neg c3] at h
  by_cases c4 : c = 16
  · exact ⟨Or.inr (Or.inr (Or.inr (Or.inl c4))), by rw [c4]; decide, by rw [c4]; decide⟩
  rw [if_neg c4] at h
  by_cases c5 : c = 17
  · exact ⟨Or.inr (Or.inr (Or.inr (Or.inr (Or.inl c5)))), by rw [c5]; decide, by rw [c5]; decide⟩
  rw [if_neg c5] at h
  by_cases c6 : c = 18
  · exact ⟨Or.inr (Or.inr (Or.inr (Or.inr (Or.inr (Or.inl c6))))), by rw [c6]; decide, by rw [c6]; decide⟩
  rw [if_neg c6] at h
  by_cases c7 : c = 19
  · exact ⟨Or.inr (Or.inr (Or.inr (Or.inr (Or.inr (Or.inr c7))))), by rw [c7]; decide, by rw [c7]; decide⟩
  rw [if_neg c7] at h
  exact absurd h (by decide)
/-- two pieces and the sign between them -/
theorem comb {N : Nat} {tx : Nat → Int32} {sz q0 q q2 : Nat} {g0 g G : Sg} {S0 S T T' : SM} {v u c : Int32} (h1 : Good tx sz q0 g0 S0 g S v) (hq : (g 3 4).toInt = cn (stb tx) q) (hw : ∃ w : Nat, (g 3 7).toInt = w ∧ w ≤ cn (stb tx) q) (fT : Fm S T) (e28 : T.1 0 28 = S.1 0 28) (hq2 : cn (stb tx) q2 = cn (stb tx) q + 1) (h2 : Good tx sz q2 (hr1 g) T G T' u) (hc : isb c) : ∃ G2, x_X2_write N c G = some G2 ∧ G2 3 4 = G 3 4 ∧ Good tx sz q0 g0 S0 G2 T' (jn c v u) := by
  obtain ⟨a1, a2, p, w0, w1, a3, a4, a5, a6, a7, a8, a9, a10, a11, a12⟩ := h1
  obtain ⟨b1, b2', p2, w1', w2, b3, b4, b5, b6, b7, b8, b9, b10, b11, b12⟩ := h2
  rw [hr1_7] at b6
  have ew : w1' = w1 := by omega
  subst ew
  have epq : cn (stb tx) p = cn (stb tx) q := by omega
  obtain ⟨z1, z2, z3⟩ := cn_sz b3
  obtain ⟨wz, hwz1, hwz2⟩ := hw
  obtain ⟨G2, c1, c2, c3, c4, c5⟩ := c_write (N := N) b7 (by omega) c
  refine ⟨G2, c1, c3, Fc_t (Fc_t (Fc_t a1 (hr1_f g)) b1) c2, Fm_t (Fm_t a2 fT) b2', p2, w0, w2 + 1, b3, by rw [c3]; exact b4, by rw [b5, e28, a5], a6, c4, by omega, by omega, by omega, fun i hi => ?_, ?_⟩
  · rw [c5, upd_n _ _ (by omega), b11 i (by omega), hr1_j _ (by omega)]
    exact a11 i hi
  · have s1 : EV (G2 24) (fun k => S0.1 0 (16 + k)) w0 w1' v := EV_c a12 (fun i ia ib => by rw [c5, upd_n _ _ (by omega), b11 i (by omega), hr1_j _ (by omega)])
    have s2 : EV (G2 24) (fun k => T.1 0 (16 + k)) w1' w2 u := EV_c b12 (fun i ia ib => by rw [c5, upd_n _ _ (by omega)])
    have s3 : EV (G2 24) (fun k => S0.1 0 (16 + k)) w1' w2 u := by
      obtain ⟨s4, s5⟩ := s2
      refine ⟨s4, fun l => ?_⟩
      have nmc : ∀ (n : Nat) (l l' : List Int32), exR (G2 24) (fun k => T.1 0 (16 + k)) w1' n l l' → exR (G2 24) (fun k => S0.1 0 (16 + k)) w1' n l l' := by
        intro n
        induction n with
        | zero => intro l l' h; exact h
        | succ n ih =>
          intro l l' ⟨m, m1, m2⟩
          refine ⟨m, ih l m m1, ?_⟩
          rcases m2 with x | ⟨x1, x2⟩ | x | x
          · exact Or.inl x
          · refine Or.inr (Or.inl ⟨x1, ?_⟩)
            rw [x2]
            show T.1 0 (16 + ((G2 24 (w1' + n)).toInt.toNat - 6)) :: m = S0.1 0 (16 + ((G2 24 (w1' + n)).toInt.toNat - 6)) :: m
            rw [fT.2 _ (by omega), a2.2 _ (by omega)]
          · exact Or.inr (Or.inr (Or.inl x))
          · exact Or.inr (Or.inr (Or.inr x))
      exact nmc _ _ _ (s5 l)
    have ec : G2 24 w2 = c := by rw [c5, upd_s]
    have := EV_bi s1 s3 (by rw [ec]; exact hc)
    rw [ec] at this
    exact this
/-- the signs of a level, one behind the other -/
theorem loop_lk {N : Nat} (hN : 300 < N) {lev o ec er : Nat} (hl : lev ≤ 4) (hl2 : ¬ lev = 2) (hk : LK N (lev + 1) o ec er) {ck pk tx : Nat → Int32} {sz : Nat} {oI lI : Int32} (ho : oI.toInt = o) (hL : lI.toInt = lev) {F : (Int32 × SM → Option (Int32 × SM)) → Int32 × SM → Option (Int32 × SM)} (Fstop : ∀ h v S q, Tks ck pk tx sz → At tx sz q S → ¬ (lvl (ck (cn (stb tx) q))).toInt = lev → F h (v, S) = some (v, S)) (Fbad : ∀ h v S, ¬ S.1 0 29 = 0 → F h (v, S) = some (v, S)) (Fgo : ∀ h v S q T, Tks ck pk tx sz → At tx sz q S → (lvl (ck (cn (stb tx) q))).toInt = lev → x_X8_next N S = some T → F h (v, S) = (gr_E N er (lev + 1) 0 0 0 T).bind fun p => h (jn (ck (cn (stb tx) q)) v p.1, p.2)) : ∀ (m nf mf : Nat) (q0 q : Nat) (g0 g : Sg) (S0 S : SM) (v n : Int32), m < nf → m < mf → 161 ≤ cn (stb tx) q + m → PRE ck pk tx sz q0 o g0 S0 → Good tx sz q0 g0 S0 g S v → PRE ck pk tx sz q o g S → (0 ≤ n.toInt ∧ n.toInt ≤ cn (stb tx) q) → RES tx sz q0 g0 S0 (lp (x_X2_expression_B53 N (gr_R N (ec + 1))) nf (lI, oI, 160, n, g)) (lp F mf (v, S)) := by
  intro m
  induction m with
  | zero =>
    intro nf mf q0 q g0 g S0 S v n _ _ hm _ _ hp _
    obtain ⟨z1, z2, z3⟩ := cn_sz hp.2.1
    omega
  | succ m ih =>
    intro nf mf q0 q g0 g S0 S v n hnf hmf hm hp0 hg hp hn
    obtain ⟨nf, rfl⟩ : ∃ k, nf = k + 1 := ⟨nf - 1, by omega⟩
    obtain ⟨mf, rfl⟩ : ∃ k, mf = k + 1 := ⟨mf - 1, by omega⟩
    obtain ⟨z1, z2, z3⟩ := cn_sz hp.2.1
    obtain ⟨t1, t2⟩ := tok_g hp
    have i160 : (160 : Int32).toInt = 160 := by decide
    obtain ⟨H, hH⟩ : ∃ H, H = lp (x_X2_expression_B53 N (gr_R N (ec + 1))) nf := ⟨_, rfl⟩
    show RES tx sz q0 g0 S0 (x_X2_expression_B53 N (gr_R N (ec + 1)) (lp (x_X2_expression_B53 N (gr_R N (ec + 1))) nf) (lI, oI, 160, n, g)) (F (lp F mf) (v, S))
    rw [← hH]
    unfold x_X2_expression_B53
    simp only [i_le]
    rw [i160]
    have tk := tok_c hp.1 (At_q hp.2.1) hp.2.1.2.2.2.1
    by_cases cl : (lvl (ck (cn (stb tx) q))).toInt = lev
    · obtain ⟨ib, n20, n21⟩ := lvl_b (c := ck (cn (stb tx) q)) (by omega)
      have hlt : q < sz := by
        rcases tk with ⟨a, _⟩ | ⟨_, b⟩
        · exact a
        · exact absurd b n21
      have c1 : cn (stb tx) (q + 1) = cn (stb tx) q + 1 := by
        show cn (stb tx) q + (if stb tx q then 1 else 0) = _
        rw [if_pos (hp.2.1.2.2.2.1 hlt)]
      have c2 := cn_le (stb tx) (q + 1)
      rw [if_neg (show ¬ 160 ≤ n.toInt by omega), if_pos t1, t2, c_lvl]
      simp only [Option.bind_some]
      have el : lvl (ck (cn (stb tx) q)) = lI := i_eq.mpr (by omega)
      rw [if_pos el, if_pos t1]
      simp only [lt, t2]
      obtain ⟨T, q2, s1, s2, s3, s4, s5⟩ := step_both hN hp n20 n21
      rw [Fgo _ v S q T hp.1 hp.2.1 cl s1]
      have eh : (up g 3 (upd (g 3) 4 (g 3 4 + 1)) : Sg) = hr1 g := rfl
      rw [eh]
      rcases op_lk hl hk ho hL s5 with ⟨G, T', u, d1, d2, d3⟩ | ⟨G, T', u, d1, d2, d3⟩
      · rw [d1, d2]
        simp only [Option.bind_some]
        rw [if_neg (by decide)]
        obtain ⟨G2, w1, w1', w2⟩ := comb (N := N) hg hp.2.2.2.2.1 hp.2.2.2.2.2.1 s2 s3 s4 d3 ib
        rw [w1]
        simp only [Option.bind_some]
        obtain ⟨q3, p3, _⟩ := good_pre hp0 w2
        obtain ⟨_, _, p4, _, _, _, r2, _, _, _, _, _, r8, _, _⟩ := d3
        have e3 := p3.2.2.2.2.1
        rw [w1'] at e3
        have en := inc1 (x := n) (by omega)
        rw [hH]
        exact ih nf mf q0 q3 g0 G2 S0 T' _ (n + 1) (by omega) (by omega) (by omega) hp0 w2 p3 ⟨by omega, by omega⟩
      · rw [d1, d2]
        simp only [Option.bind_some, if_true]
        obtain ⟨f1, f2, f3, q', f4, f5, f6, f7⟩ := d3
        obtain ⟨mf, rfl⟩ : ∃ k, mf = k + 1 := ⟨mf - 1, by omega⟩
        refine Or.inr ⟨G, T', _, rfl, Fbad (lp F mf) _ T' f3, Fc_t (Fc_t hg.1 (hr1_f g)) f1, Fm_t (Fm_t hg.2.1 s2) f2, f3, q', f4, f5, f6, f7⟩
    · have stop : F (lp F mf) (v, S) = some (v, S) := Fstop _ v S q hp.1 hp.2.1 cl
      rw [stop]
      by_cases c : 160 ≤ n.toInt
      · rw [if_pos c]
        exact Or.inl ⟨g, S, v, rfl, rfl, hg⟩
      · rw [if_neg c, if_pos t1, t2, c_lvl]
        simp only [Option.bind_some]
        rw [if_neg (fun z => cl (by rw [z, hL]))]
        exact Or.inl ⟨g, S, v, rfl, rfl, hg⟩
