theorem at_kind {ck pk tx : Nat → Int32} {sz q : Nat} {S : SM} (hk : Tks ck pk tx sz) (h : At tx sz q S) : (S.1 0 25 = 2 ↔ 100 ≤ (ck (cn (stb tx) q)).toInt) ∧ (100 ≤ (ck (cn (stb tx) q)).toInt → (ck (cn (stb tx) q)).toInt = 100 + S.2.toInt ∧ 0 ≤ S.2.toInt ∧ S.2.toInt ≤ 10000) ∧ ((6 ≤ (ck (cn (stb tx) q)).toInt ∧ (ck (cn (stb tx) q)).toInt ≤ 11) → S.1 0 25 = 1) := by
  obtain ⟨hR, hb, h26, hs, hn⟩ := id h
  have hq := At_q h
  have ht := tok_c hk hq hs
  have h20 : (20 : Int32).toInt = 20 := by decide
  have h21 : (21 : Int32).toInt = 21 := by decide
  rcases ht with ⟨a, b⟩ | ⟨a, b⟩
  · rcases hn with ⟨a1, _⟩ | ⟨_, a2, a3, _⟩ | ⟨_, a2, e, a4, a5, a6, a7⟩ | ⟨_, a2, _, a4, _⟩ | ⟨_, a2, _, a4⟩
    · omega
    · have nc : ¬ 100 ≤ (ck (cn (stb tx) q)).toInt := by
        rcases TC_c b with c | c | c | c
        · omega
        · omega
        · rw [c, h20]; omega
        · omega
      exact ⟨⟨fun z => by rw [a3] at z; exact absurd z (by decide), fun z => absurd z nc⟩, fun z => absurd z nc, fun _ => a3⟩
    · rcases b with ⟨c, _⟩ | ⟨_, e', r, ⟨m1, m2⟩ | ⟨m1, m2⟩⟩ | ⟨c, _⟩
      · omega
      · have ee := Run_u r a4
        subst ee
        obtain ⟨n1, n2⟩ := numv_b (tx := tx) (q := q) (e' - q) m1 (fun j ja jb => r.2.2.1 j ja (by omega))
        have p10 : (10 : Int) ^ (e' - q) ≤ 10000 := by
          have : e' - q = 0 ∨ e' - q = 1 ∨ e' - q = 2 ∨ e' - q = 3 ∨ e' - q = 4 := by omega
          rcases this with e | e | e | e | e <;> rw [e] <;> decide
        have a7 := a7 m1
        rw [if_pos m1] at a6
        exact ⟨⟨fun _ => by omega, fun _ => a6⟩, fun _ => ⟨by omega, by omega, by omega⟩, fun z => by omega⟩
      · have ee := Run_u r a4
        subst ee
        rw [if_neg (by omega)] at a6
        rw [m2, h20]
        exact ⟨⟨fun z => by rw [a6] at z; exact absurd z (by decide), fun z => by omega⟩, fun z => by omega, fun z => by omega⟩
      · omega
    · have nc : ¬ 100 ≤ (ck (cn (stb tx) q)).toInt ∧ ¬ (6 ≤ (ck (cn (stb tx) q)).toInt ∧ (ck (cn (stb tx) q)).toInt ≤ 11) := by
        rcases TC_c b with c | c | c | c
        · omega
        · omega
        · rw [c, h20]; omega
        · omega
      exact ⟨⟨fun z => by rw [a4] at z; exact absurd z (by decide), fun z => absurd z nc.1⟩, fun z => absurd z nc.1, fun z => absurd z nc.2⟩
    · have nc : ¬ 100 ≤ (ck (cn (stb tx) q)).toInt ∧ ¬ (6 ≤ (ck (cn (stb tx) q)).toInt ∧ (ck (cn (stb tx) q)).toInt ≤ 11) := by
        rcases TC_c b with c | c | c | c
        · omega
        · omega
        · rw [c, h20]; omega
        · omega
      exact ⟨⟨fun z => by rw [a4] at z; exact absurd z (by decide), fun z => absurd z nc.1⟩, fun z => absurd z nc.1, fun z => absurd z nc.2⟩
  · rw [b, h21]
    rcases hn with ⟨_, a2, _⟩ | ⟨a1, _⟩ | ⟨a1, _⟩ | ⟨a1, _⟩ | ⟨a1, _⟩
    · exact ⟨⟨fun z => by rw [a2] at z; exact absurd z (by decide), fun z => by omega⟩, fun z => by omega, fun z => by omega⟩
    · omega
    · omega
    · omega
    · omega
theorem m_name {N : Nat} {ck pk tx : Nat → Int32} {sz q : Nat} {S : SM} (hk : Tks ck pk tx sz) (h : At tx sz q S) : ((6 ≤ (ck (cn (stb tx) q)).toInt ∧ (ck (cn (stb tx) q)).toInt ≤ 11) → x_X8_name N S = some (S.1 0 (16 + ((ck (cn (stb tx) q)).toInt.toNat - 6)), S)) ∧ (¬ (6 ≤ (ck (cn (stb tx) q)).toInt ∧ (ck (cn (stb tx) q)).toInt ≤ 11) → x_X8_name N S = (x_X8_fail N S).bind fun T => some (0, T)) := by
  have e6 : x_X8_isWord N (115 : Int32) (105 : Int32) (122 : Int32) (101 : Int32) (0 : Int32) (0 : Int32) (0 : Int32) (0 : Int32) S = x_X8_isWord N (L8 6 0) (L8 6 1) (L8 6 2) (L8 6 3) (L8 6 4) (L8 6 5) (L8 6 6) (L8 6 7) S := by
    rw [show L8 6 0 = 115 from by decide, show L8 6 1 = 105 from by decide, show L8 6 2 = 122 from by decide, show L8 6 3 = 101 from by decide, show L8 6 4 = 0 from by decide, show L8 6 5 = 0 from by decide, show L8 6 6 = 0 from by decide, show L8 6 7 = 0 from by decide]
  have e7 : x_X8_isWord N (109 : Int32) (97 : Int32) (107 : Int32) (101 : Int32) (0 : Int32) (0 : Int32) (0 : Int32) (0 : Int32) S = x_X8_isWord N (L8 7 0) (L8 7 1) (L8 7 2) (L8 7 3) (L8 7 4) (L8 7 5) (L8 7 6) (L8 7 7) S := by
    rw [show L8 7 0 = 109 from by decide, show L8 7 1 = 97 from by decide, show L8 7 2 = 107 from by decide, show L8 7 3 = 101 from by decide, show L8 7 4 = 0 from by decide, show L8 7 5 = 0 from by decide, show L8 7 6 = 0 from by decide, show L8 7 7 = 0 from by decide]
  have e8 : x_X8_isWord N (97 : Int32) (112 : Int32) (97 : Int32) (114 : Int32) (116 : Int32) (0 : Int32) (0 : Int32) (0 : Int32) S = x_X8_isWord N (L8 8 0) (L8 8 1) (L8 8 2) (L8 8 3) (L8 8 4) (L8 8 5) (L8 8 6) (L8 8 7) S := by
    rw [show L8 8 0 = 97 from by decide, show L8 8 1 = 112 from by decide, show L8 8 2 = 97 from by decide, show L8 8 3 = 114 from by decide, show L8 8 4 = 116 from by decide, show L8 8 5 = 0 from by decide, show L8 8 6 = 0 from by decide, show L8 8 7 = 0 from by decide]
  have e9 : x_X8_isWord N (110 : Int32) (117 : Int32) (109 : Int32) (98 : Int32) (101 : Int32) (114 : Int32) (0 : Int32) (0 : Int32) S = x_X8_isWord N (L8 9 0) (L8 9 1) (L8 9 2) (L8 9 3) (L8 9 4) (L8 9 5) (L8 9 6) (L8 9 7) S := by
    rw [show L8 9 0 = 110 from by decide, show L8 9 1 = 117 from by decide, show L8 9 2 = 109 from by decide, show L8 9 3 = 98 from by decide, show L8 9 4 = 101 from by decide, show L8 9 5 = 114 from by decide, show L8 9 6 = 0 from by decide, show L8 9 7 = 0 from by decide]
  have e10 : x_X8_isWord N (102 : Int32) (111 : Int32) (111 : Int32) (116 : Int32) (0 : Int32) (0 : Int32) (0 : Int32) (0 : Int32) S = x_X8_isWord N (L8 10 0) (L8 10 1) (L8 10 2) (L8 10 3) (L8 10 4) (L8 10 5) (L8 10 6) (L8 10 7) S := by
    rw [show L8 10 0 = 102 from by decide, show L8 10 1 = 111 from by decide, show L8 10 2 = 111 from by decide, show L8 10 3 = 116 from by decide, show L8 10 4 = 0 from by decide, show L8 10 5 = 0 from by decide, show L8 10 6 = 0 from by decide, show L8 10 7 = 0 from by decide]
  have e11 : x_X8_isWord N (104 : Int32) (111 : Int32) (117 : Int32) (114 : Int32) (0 : Int32) (0 : Int32) (0 : Int32) (0 : Int32) S = x_X8_isWord N (L8 11 0) (L8 11 1) (L8 11 2) (L8 11 3) (L8 11 4) (L8 11 5) (L8 11 6) (L8 11 7) S := by
    rw [show L8 11 0 = 104 from by decide, show L8 11 1 = 111 from by decide, show L8 11 2 = 117 from by decide, show L8 11 3 = 114 from by decide, show L8 11 4 = 0 from by decide, show L8 11 5 = 0 from by decide, show L8 11 6 = 0 from by decide, show L8 11 7 = 0 from by decide]
  obtain ⟨v6, a6, b6⟩ := at_word (N := N) hk h (k := 6) (by omega)
  obtain ⟨v7, a7, b7⟩ := at_word (N := N) hk h (k := 7) (by omega)
  obtain ⟨v8, a8, b8⟩ := at_word (N := N) hk h (k := 8) (by omega)
  obtain ⟨v9, a9, b9⟩ := at_word (N := N) hk h (k := 9) (by omega)
  obtain ⟨v10, a10, b10⟩ := at_word (N := N) hk h (k := 10) (by omega)
  obtain ⟨v11, a11, b11⟩ := at_word (N := N) hk h (k := 11) (by omega)
  generalize ck (cn (stb tx) q) = c at *
  unfold x_X8_name
  rw [e6, a6]
  simp only [Option.bind_some]
  by_cases c6 : c.toInt = ((6 : Nat) : Int)
  · rw [if_neg (fun z => (b6.mp z) c6), show c.toInt.toNat = 6 by omega]
    exact ⟨fun _ => rfl, fun z => by omega⟩
  rw [if_pos (b6.mpr c6), e7, a7]
  simp only [Option.bind_some]
  by_cases c7 : c.toInt = ((7 : Nat) : Int)
  · rw [if_neg (fun z => (b7.mp z) c7), show c.toInt.toNat = 7 by omega]
    exact ⟨fun _ => rfl, fun z => by omega⟩
  rw [if_pos (b7.mpr c7), e8, a8]
  simp only [Option.bind_some]
  by_cases c8 : c.toInt = ((8 : Nat) : Int)
  · rw [if_neg (fun z => (b8.mp z) c8), show c.toInt.toNat = 8 by omega]
    exact ⟨fun _ => rfl, fun z => by omega⟩
  rw [if_pos (b8.mpr c8), e9, a9]
  simp only [Option.bind_some]
  by_cases c9 : c.toInt = ((9 : Nat) : Int)
  · rw [if_neg (fun z => (b9.mp z) c9), show c.toInt.toNat = 9 by omega]
    exact ⟨fun _ => rfl, fun z => by omega⟩
  rw [if_pos (b9.mpr c9), e10, a10]
  simp only [Option.bind_some]
  by_cases c10 : c.toInt = ((10 : Nat) : Int)
  · rw [if_neg (fun z => (b10.mp z) c10), show c.toInt.toNat = 10 by omega]
    exact ⟨fun _ => rfl, fun z => by omega⟩
  rw [if_pos (b10.mpr c10), e11, a11]
  simp only [Option.bind_some]
  by_cases c11 : c.toInt = ((11 : Nat) : Int)
  · rw [if_neg (fun z => (b11.mp z) c11), show c.toInt.toNat = 11 by omega]
    exact ⟨fun _ => rfl, fun z => by omega⟩
  rw [if_pos (b11.mpr c11)]
  exact ⟨fun z => by omega, fun _ => rfl⟩
/-- a number or a name -/
theorem good_lit {N : Nat} (hN : 300 < N) {ck pk tx : Nat → Int32} {sz q o : Nat} {g : Sg} {S : SM} (hp : PRE ck pk tx sz q o g S) (h20 : ¬ ck (cn (stb tx) q) = 20) (h21 : ¬ ck (cn (stb tx) q) = 21) (v : Int32) (hv : (100 ≤ (ck (cn (stb tx) q)).toInt ∧ v = ck (cn (stb tx) q) - 100) ∨ ((6 ≤ (ck (cn (stb tx) q)).toInt ∧ (ck (cn (stb tx) q)).toInt ≤ 11) ∧ v = S.1 0 (16 + ((ck (cn (stb tx) q)).toInt.toNat - 6)))) : ∃ T G2, x_X8_next N S = some T ∧ x_X2_write N (ck (cn (stb tx) q)) (hr1 g) = some G2 ∧ Good tx sz q g S G2 T v := by
  obtain ⟨T, q2, t1, t2, t3, t4, t5⟩ := step_both hN hp h20 h21
  obtain ⟨w, w1, w2⟩ := hp.2.2.2.2.2.1
  obtain ⟨z1, z2, z3⟩ := cn_sz t5.2.1
  obtain ⟨G2, c1, c2, c3, c4, c5⟩ := c_write (N := N) (g := hr1 g) (w := w) (by rw [hr1_7]; exact w1) (by omega) (ck (cn (stb tx) q))
  refine ⟨T, G2, t1, c1, Fc_t (hr1_f g) c2, t2, q2, w, w + 1, t5.2.1, by rw [c3]; exact t5.2.2.2.2.1, t3, w1, c4, by omega, by omega, by omega, fun i hi => ?_, ?_⟩
  · rw [c5, upd_n _ _ (by omega), hr1_j _ (by omega)]
  · have ec : G2 24 w = ck (cn (stb tx) q) := by rw [c5, upd_s]
    rcases hv with ⟨h1, h2⟩ | ⟨h1, h2⟩
    · have := EV_num (st := G2 24) (nm := fun k => S.1 0 (16 + k)) (i := w) (by rw [ec]; exact h1)
      rw [ec, ← h2] at this
      exact this
    · have := EV_nam (st := G2 24) (nm := fun k => S.1 0 (16 + k)) (i := w) (by rw [ec]; exact h1)
      rw [ec] at this
      rw [h2]
      exact this
theorem lk_5 {N : Nat} (hN : 300 < N) {o ec er : Nat} (ho5 : o ≤ 5) (hk0 : o < 5 → LK N 0 (o + 1) (ec + 2) er) (hk5 : o < 5 → LK N 5 (o + 1) ec er) : LK N 5 o (ec + 3) (er + 1) := by
  intro ck pk tx sz q g S oI lI ho hL hp
  rw [if_pos rfl]
  have e : gr_R N (ec + 3) 2 oI 0 0 g = x_X2_one N (gr_R N (ec + 2)) oI g := rfl
  have e2 : gr_E N (er + 1) 5 0 0 0 S = x_X8_atom N (gr_E N er) S := rfl
  obtain ⟨t1, t2⟩ := tok_g hp
  have i5 : (5 : Int32).toInt = 5 := by decide
  have i6 : (6 : Int32).toInt = 6 := by decide
  have i12 : (12 : Int32).toInt = 12 := by decide
  have i16 : (16 : Int32).toInt = 16 := by decide
  have i100 : (100 : Int32).toInt = 100 := by decide
  have h20 : (20 : Int32).toInt = 20 := by decide
  have h21 : (21 : Int32).toInt = 21 := by decide
  rw [e, e2]
  unfold x_X2_one x_X8_atom
  rw [if_pos t1, t2]
  simp only [lt, i_le, i_lt]
  rw [i6, i12, i100]
  obtain ⟨m, m1, m2⟩ := at_sign (N := N) hp.1 hp.2.1 (k := 4) (by omega) (s := 45) rfl
  obtain ⟨p, p1, p2⟩ := at_sign (N := N) hp.1 hp.2.1 (k := 0) (by omega) (s := 40) rfl
  obtain ⟨k1, k2, k3⟩ := at_kind hp.1 hp.2.1
  obtain ⟨n1, n2⟩ := m_name (N := N) hp.1 hp.2.1
  have lit := good_lit (N := N) hN hp
  have hb := hp.2.1.2.1
  rw [m1]
  simp only [Option.bind_some]
  -- a number or a name, written by the class
  have b28 : ∀ {ref : Option (Int32 × SM)} (v : Int32), ¬ ck (cn (stb tx) q) = 20 → ¬ ck (cn (stb tx) q) = 21 → ((100 ≤ (ck (cn (stb tx) q)).toInt ∧ v = ck (cn (stb tx) q) - 100) ∨ ((6 ≤ (ck (cn (stb tx) q)).toInt ∧ (ck (cn (stb tx) q)).toInt ≤ 11) ∧ v = S.1 0 (16 + ((ck (cn (stb tx) q)).toInt.toNat - 6)))) → ref = ((x_X8_next N S).bind fun T => some (v, T)) → RES tx sz q g S (x_X2_one_b28 N (gr_R N (ec + 2)) (ck (cn (stb tx) q)) g) ref := by
    intro ref v a b hv hr
    obtain ⟨T, G2, u1, u2, u3⟩ := lit a b v hv
    unfold x_X2_one_b28
    simp only [lt]
    have eh : (up g 3 (upd (g 3) 4 (g 3 4 + 1)) : Sg) = hr1 g := rfl
    rw [eh, u2, hr, u1]
    exact Or.inl ⟨G2, T, v, rfl, rfl, u3⟩
  by_cases c100 : 100 ≤ (ck (cn (stb tx) q)).toInt
  · rw [if_pos c100, if_pos (m2.mpr (fun z => by omega)), p1]
    simp only [Option.bind_some]
    obtain ⟨l1, l2, l3⟩ := k2 c100
    rw [if_pos (p2.mpr (fun z => by omega)), if_pos hb, if_pos (k1.mpr c100)]
    refine b28 (S.2.toInt32) (fun z => by rw [z, h20] at c100; omega) (fun z => by rw [z, h21] at c100; omega) (Or.inl ⟨c100, i_eq.mpr ?_⟩) rfl
    rw [sub_l l1 (k := 100) (by decide) (by omega), Int64.toInt_toInt32, Int.bmod_eq_of_le] <;> omega
  · rw [if_neg c100]
    by_cases c611 : 6 ≤ (ck (cn (stb tx) q)).toInt ∧ (ck (cn (stb tx) q)).toInt ≤ 11
    · rw [if_neg (show ¬ (ck (cn (stb tx) q)).toInt < 6 by omega), if_neg (show ¬ 12 ≤ (ck (cn (stb tx) q)).toInt by omega), if_pos (m2.mpr (fun z => by omega)), p1]
      simp only [Option.bind_some]
      rw [if_pos (p2.mpr (fun z => by omega)), if_pos hb, if_neg (fun z => c100 (k1.mp z))]
      unfold x_X8_atom_b123
      rw [if_pos hb, if_pos (k3 c611), n1 c611]
      simp only [Option.bind_some]
      rw [if_pos hb]
      exact b28 _ (fun z => by rw [z, h20] at c611; omega) (fun z => by rw [z, h21] at c611; omega) (Or.inr ⟨c611, rfl⟩) rfl
    · have b45 : ∀ ref : Option (Int32 × SM), RES tx sz q g S (x_X2_one_b45 N (gr_R N (ec + 2)) oI (ck (cn (stb tx) q)) g) ref → RES tx sz q g S (if (ck (cn (stb tx) q)).toInt < 6 then x_X2_one_b45 N (gr_R N (ec + 2)) oI (ck (cn (stb tx) q)) g else if 12 ≤ (ck (cn (stb tx) q)).toInt then x_X2_one_b45 N (gr_R N (ec + 2)) oI (ck (cn (stb tx) q)) g else x_X2_one_b28 N (gr_R N (ec + 2)) (ck (cn (stb tx) q)) g) ref := fun ref hr => by
        by_cases a : (ck (cn (stb tx) q)).toInt < 6
        · rw [if_pos a]; exact hr
        · rw [if_neg a, if_pos (by omega)]; exact hr
      refine b45 _ ?_
      unfold x_X2_one_b45
      by_cases cm : ck (cn (stb tx) q) = 16
      · -- a minus ahead
        have cm' : (ck (cn (stb tx) q)).toInt = 12 + ((4 : Nat) : Int) := by rw [cm]; decide
        rw [if_pos cm, if_neg (fun z => (m2.mp z) cm')]
        have r := pre_lk hN (lv := 4) (er := er) (by omega) (c := 22) (Or.inr rfl) hk5 ho5 ho (lI := 4) (by decide) hp (by rw [cm]; decide) (by rw [cm]; decide) rfl
        have er2 : ((x_X8_opens N S).bind fun q24 => (if q24.1 = 0 then some ((0 : Int32), q24.2) else (gr_E N er 5 0 0 0 q24.2).bind fun q26 => lt (-q26.1) fun x27 => lt (up q26.2.1 0 (upd (q26.2.1 0) 28 ((q26.2.1 0 28) - (1 : Int32))), q26.2.2) fun g28 => some (x27, g28))) = ((x_X8_opens N S).bind fun p => if p.1 = 0 then some (0, p.2) else (gr_E N er 5 0 0 0 p.2).bind fun u => some ((if (22 : Int32) = 5 then (if u.1 = 0 then 1 else 0) else -u.1), st0 u.2 28 (u.2.1 0 28 - 1))) := by
          refine congrArg (fun z => Option.bind (x_X8_opens N S) z) (funext (fun p => ?_))
          by_cases a : p.1 = 0
          · rw [if_pos a, if_pos a]
          · rw [if_neg a, if_neg a]
            refine congrArg (fun z => Option.bind (gr_E N er 5 0 0 0 p.2) z) (funext (fun u => ?_))
            rw [if_neg (show ¬ (22 : Int32) = 5 by decide)]
            rfl
        simp only [lt] at er2
        rw [er2]
        rcases r with ⟨G, T, v, d1, d2, d3⟩ | ⟨G, T, v, d1, d2, d3⟩
        · exact Or.inl ⟨G, T, v, by rw [d1]; rfl, d2, d3⟩
        · exact Or.inr ⟨G, T, v, by rw [d1]; rfl, d2, d3⟩
      · have cm' : ¬ (ck (cn (stb tx) q)).toInt = 12 + ((4 : Nat) : Int) := fun z => cm (i_eq.mpr (by rw [z]; decide))
        rw [if_neg cm, if_pos (m2.mpr cm'), p1]
        simp only [Option.bind_some]
        by_cases cp : ck (cn (stb tx) q) = 12
        · -- in parentheses
          have cp' : (ck (cn (stb tx) q)).toInt = 12 + ((0 : Nat) : Int) := by rw [cp]; decide
          rw [if_pos cp, if_neg (fun z => (p2.mp z) cp')]
          simp only [i_lt]
          rw [i5, ho]
          by_cases c5 : o < 5
          · rw [if_pos (by omega)]
            obtain ⟨T, q2, s1, s2, s3, s4, s5⟩ := m_opens hN hp c5 (by rw [cp]; decide) (by rw [cp]; decide)
            rw [s1]
            simp only [Option.bind_some, lt]
            rw [if_neg (show ¬ (1 : Int32) = 0 by decide)]
            have oo := inc1 (x := oI) (by omega)
            have eh : (up g 3 (upd (g 3) 4 (g 3 4 + 1)) : Sg) = hr1 g := rfl
            rw [eh]
            have rr := hk0 c5 ck pk tx sz q2 (hr1 g) T (oI + 1) 0 (by omega) (by decide) s5
            rw [if_neg (show ¬ 0 = 5 by omega)] at rr
            rcases rr with ⟨G, T', u, d1, d2, d3⟩ | ⟨G, T', u, d1, d2, d3⟩
            · rw [d1, d2]
              simp only [Option.bind_some]
              rw [if_neg (show ¬ (1 : Int32) = 0 by decide)]
              obtain ⟨q3, x1, x2⟩ := good_pre s5 d3
              obtain ⟨v1, v2⟩ := tok_g x1
              obtain ⟨f, f1, f2⟩ := at_sign (N := N) x1.1 x1.2.1 (k := 1) (by omega) (s := 41) rfl
              rw [f1]
              simp only [Option.bind_some]
              unfold x_X2_pass
              rw [if_pos v1, v2]
              by_cases cc : ck (cn (stb tx) q3) = 13
              · have cc' : (ck (cn (stb tx) q3)).toInt = 12 + ((1 : Nat) : Int) := by rw [cc]; decide
                rw [if_pos cc, if_neg (fun z => (f2.mp z) cc')]
                simp only [lt, Option.bind_some]
                rw [if_neg (show ¬ (1 : Int32) = 0 by decide)]
                unfold x_X8_atom_b71
                simp only [lt]
                have h7 := x1.2.2.2.2.2.2
                have pq := PRE_28 x1 (v := T'.1 0 28 - 1) (o2 := o) (by rw [sub_l h7 (k := 1) (by decide) (by omega)]; omega)
                have es : ((up T'.1 0 (upd (T'.1 0) 28 (T'.1 0 28 - 1)), T'.2) : SM) = st0 T' 28 (T'.1 0 28 - 1) := rfl
                obtain ⟨T2, q4, y1, y2, y3, y4, y5⟩ := step_both hN pq (by rw [cc]; decide) (by rw [cc]; decide)
                rw [if_pos (show up T'.1 0 (upd (T'.1 0) 28 (T'.1 0 28 - 1)) 0 29 = 0 from pq.2.1.2.1), es, y1]
                obtain ⟨b1, b2', p3, w1, w2, b3, b4, b5, b6, b7, b8, b9, b10, b11, b12⟩ := d3
                rw [hr1_7] at b6
                have epq : cn (stb tx) p3 = cn (stb tx) q3 := by have := x1.2.2.2.2.1; omega
                have eh2 : (up G 3 (upd (G 3) 4 (G 3 4 + 1)) : Sg) = hr1 G := rfl
                rw [eh2]
                refine Or.inl ⟨hr1 G, T2, u, rfl, rfl, Fc_t (Fc_t (hr1_f g) b1) (hr1_f G), Fm_t (Fm_t (Fm_t s2 b2') (Fm_0 T' 28 _ (by omega))) y2, q4, w1, w2, y5.2.1, y5.2.2.2.2.1, ?_, b6, by rw [hr1_7]; exact b7, b8, by omega, by omega, fun i hi => ?_, ?_⟩
                · rw [y3, st0_s, b5, s3]
                  exact Int32.add_sub_cancel _ _
                · rw [hr1_j _ (by omega), b11 i hi, hr1_j _ (by omega)]
                · rw [hr1_j _ (by omega)]
                  exact EV_n b12 (fun k hk => s2.2 _ (by omega))
              · have cc' : ¬ (ck (cn (stb tx) q3)).toInt = 12 + ((1 : Nat) : Int) := fun z => cc (i_eq.mpr (by rw [z]; decide))
                rw [if_neg cc, if_pos (f2.mpr cc')]
                simp only [Option.bind_some, if_true]
                obtain ⟨T2, y1, y2, y3, y4, y5⟩ := m_fail (N := N) x1.2.1.2.1
                rw [y1]
                simp only [Option.bind_some]
                unfold x_X8_atom_b71
                simp only [lt]
                have n29 : ¬ up T2.1 0 (upd (T2.1 0) 28 (T2.1 0 28 - 1)) 0 29 = 0 := fun z => by
                  rw [up_s, upd_n _ _ (by omega), y3] at z
                  exact absurd z (by decide)
                rw [if_neg n29]
                refine Or.inr ⟨G, st0 T2 28 (T2.1 0 28 - 1), u, rfl, rfl, Fc_t (hr1_f g) d3.1, Fm_t (Fm_t (Fm_t s2 d3.2.1) y2) (Fm_0 T2 28 _ (by omega)), n29, q3, At_q x1.2.1, x1.2.1.2.2.2.1, x1.2.2.2.2.1, ?_⟩
                rw [st0_n _ _ _ (by omega), y4]
                exact x1.2.1.2.2.1
            · rw [d1, d2]
              simp only [Option.bind_some, if_true]
              obtain ⟨f1, f2, f3, q', f4, f5, f6, f7⟩ := d3
              rw [bad_sign f3]
              simp only [Option.bind_some, if_true]
              rw [m_fail_bad f3]
              simp only [Option.bind_some]
              unfold x_X8_atom_b71
              simp only [lt]
              have n29 : ¬ up T'.1 0 (upd (T'.1 0) 28 (T'.1 0 28 - 1)) 0 29 = 0 := fun z => by
                rw [up_s, upd_n _ _ (by omega)] at z
                exact f3 z
              rw [if_neg n29]
              refine Or.inr ⟨G, st0 T' 28 (T'.1 0 28 - 1), _, rfl, rfl, Fc_t (hr1_f g) f1, Fm_t (Fm_t s2 f2) (Fm_0 T' 28 _ (by omega)), n29, q', f4, f5, f6, ?_⟩
              rw [st0_n _ _ _ (by omega)]; exact f7
          · rw [if_neg (by omega)]
            have h7 := hp.2.2.2.2.2.2
            have e5 : S.1 0 28 = 5 := i_eq.mpr (by rw [h7, i5]; omega)
            refine res_fail (N := N) (v := 0) hp rfl ?_
            rw [m_opens5 e5]
            cases x_X8_fail N S with
            | none => rfl
            | some T => rfl
        · have cp' : ¬ (ck (cn (stb tx) q)).toInt = 12 + ((0 : Nat) : Int) := fun z => cp (i_eq.mpr (by rw [z]; decide))
          rw [if_neg cp, if_pos (p2.mpr cp'), if_pos hb, if_neg (fun z => c100 (k1.mp z))]
          unfold x_X8_atom_b123 x_X8_atom_b157
          rw [if_pos hb]
          refine res_fail (N := N) (v := 0) hp rfl ?_
          by_cases cw : S.1 0 25 = 1
          · rw [if_pos cw, n2 c611]
            obtain ⟨T, y1, y2, y3, y4, y5⟩ := m_fail (N := N) hb
            rw [y1]
            simp only [Option.bind_some]
            rw [if_neg (by rw [y3]; decide)]
          · rw [if_neg cw]
