/-! one part of a text, both sides -/
def partC (N : Nat) (w : Int32) (g : Sg) : Option (Int32 × Sg) := (x_X2_pass N w g).bind fun q15 => (if q15.1 = 0 then some (0, q15.2) else (gr_R N 100 0 (0 : Int32) (0 : Int32) 0 q15.2).bind fun q18 => (if q18.1 = 0 then some (0, q18.2) else x_X2_pass N (14 : Int32) q18.2))
theorem bad_part {N : Nat} {T : SM} (hb : ¬ T.1 0 29 = 0) (v : Int32) : x_X8_part_b34 N v T = some (v, T) := by
  unfold x_X8_part_b34 x_X8_part_b48
  rw [bad_sign hb]
  simp only [Option.bind_some, if_true]
  rw [m_fail_bad hb]
  simp only [Option.bind_some]
  rw [if_neg hb]
theorem bad_part8 {N : Nat} {T : SM} (hb : ¬ T.1 0 29 = 0) : x_X8_part_b8 N T = some (0, T) := by
  unfold x_X8_part_b8 x_X8_part_b19
  rw [if_neg hb, if_neg hb]
  exact bad_part hb 0
theorem part_lk {N : Nat} (hN : 300 < N) {k : Nat} (hk3 : k < 3) {wI : Int32} (hw : wI.toInt = k) {ck pk tx : Nat → Int32} {sz q : Nat} {g : Sg} {S : SM} (hp : PRE ck pk tx sz q 0 g S) : RES tx sz q g S (partC N wI g) ((x_X8_isWord N (L8 k 0) (L8 k 1) (L8 k 2) (L8 k 3) (L8 k 4) (L8 k 5) (L8 k 6) (L8 k 7) S).bind fun q8 => x_X8_part N q8.1 q8.2) := by
  have i14 : (14 : Int32).toInt = 14 := by decide
  have h20 : (20 : Int32).toInt = 20 := by decide
  have h21 : (21 : Int32).toInt = 21 := by decide
  obtain ⟨t1, t2⟩ := tok_g hp
  obtain ⟨v, a1, a2⟩ := at_word (N := N) hp.1 hp.2.1 (k := k) (by omega)
  rw [a1]
  simp only [Option.bind_some]
  unfold partC x_X8_part
  by_cases c0 : ck (cn (stb tx) q) = wI
  · have c0' : (ck (cn (stb tx) q)).toInt = k := by rw [c0]; exact hw
    have pg : x_X2_pass N wI g = some (1, hr1 g) := by
      unfold x_X2_pass
      rw [if_pos t1, t2, if_pos c0]
      rfl
    rw [pg, if_neg (fun z => (a2.mp z) c0')]
    simp only [Option.bind_some]
    rw [if_neg (show ¬ (1 : Int32) = 0 by decide)]
    unfold x_X8_part_b8
    rw [if_pos hp.2.1.2.1]
    obtain ⟨T, q2, s1, s2, s3, s4, s5⟩ := step_both (N := N) hN hp (fun z => by rw [z, h20] at c0'; omega) (fun z => by rw [z, h21] at c0'; omega)
    rw [s1]
    simp only [Option.bind_some]
    unfold x_X8_part_b19
    rw [if_pos s5.2.1.2.1]
    have rr := lk_top hN ck pk tx sz q2 (hr1 g) T 0 0 rfl rfl s5
    rw [if_neg (show ¬ 0 = 5 by omega)] at rr
    rcases rr with ⟨G, T', u, d1, d2, d3⟩ | ⟨G, T', u, d1, d2, d3⟩
    · rw [d1, d2]
      simp only [Option.bind_some]
      rw [if_neg (show ¬ (1 : Int32) = 0 by decide)]
      obtain ⟨q3, x1, x2⟩ := good_pre s5 d3
      obtain ⟨v1, v2⟩ := tok_g x1
      obtain ⟨f, f1, f2⟩ := at_sign (N := N) x1.1 x1.2.1 (k := 2) (by omega) (s := 59) rfl
      unfold x_X8_part_b34
      rw [f1]
      simp only [Option.bind_some]
      unfold x_X2_pass
      rw [if_pos v1, v2]
      by_cases cc : ck (cn (stb tx) q3) = 14
      · have cc' : (ck (cn (stb tx) q3)).toInt = 12 + ((2 : Nat) : Int) := by rw [cc]; decide
        rw [if_pos cc, if_neg (fun z => (f2.mp z) cc')]
        simp only [lt]
        unfold x_X8_part_b48
        rw [if_pos x1.2.1.2.1]
        obtain ⟨T2, q4, y1, y2, y3, y4, y5⟩ := step_both (N := N) hN x1 (by rw [cc]; decide) (by rw [cc]; decide)
        rw [y1]
        simp only [Option.bind_some]
        obtain ⟨b1, b2', p3, w1, w2, b3, b4, b5, b6, b7, b8, b9, b10, b11, b12⟩ := d3
        rw [hr1_7] at b6
        have epq : cn (stb tx) p3 = cn (stb tx) q3 := by have := x1.2.2.2.2.1; omega
        have eh2 : (up G 3 (upd (G 3) 4 (G 3 4 + 1)) : Sg) = hr1 G := rfl
        rw [eh2]
        refine Or.inl ⟨hr1 G, T2, u, rfl, rfl, Fc_t (Fc_t (hr1_f g) b1) (hr1_f G), Fm_t (Fm_t s2 b2') y2, q4, w1, w2, y5.2.1, y5.2.2.2.2.1, ?_, b6, by rw [hr1_7]; exact b7, b8, by omega, by omega, fun i hi => ?_, ?_⟩
        · rw [y3, b5, s3]
        · rw [hr1_j _ (by omega), b11 i hi, hr1_j _ (by omega)]
        · rw [hr1_j _ (by omega)]
          exact EV_n b12 (fun k hk => s2.2 _ (by omega))
      · have cc' : ¬ (ck (cn (stb tx) q3)).toInt = 12 + ((2 : Nat) : Int) := fun z => cc (i_eq.mpr (by rw [z]; decide))
        rw [if_neg cc, if_pos (f2.mpr cc')]
        obtain ⟨T2, y1, y2, y3, y4, y5⟩ := m_fail (N := N) x1.2.1.2.1
        rw [y1]
        simp only [Option.bind_some]
        have n29 : ¬ T2.1 0 29 = 0 := by rw [y3]; decide
        unfold x_X8_part_b48
        rw [if_neg n29]
        refine Or.inr ⟨G, T2, u, rfl, rfl, Fc_t (hr1_f g) d3.1, Fm_t (Fm_t s2 d3.2.1) y2, n29, q3, At_q x1.2.1, x1.2.1.2.2.2.1, x1.2.2.2.2.1, ?_⟩
        rw [y4]
        exact x1.2.1.2.2.1
    · rw [d1, d2]
      simp only [Option.bind_some, if_true]
      obtain ⟨f1, f2, f3, q', f4, f5, f6, f7⟩ := d3
      rw [bad_part f3]
      exact Or.inr ⟨G, T', u, rfl, rfl, Fc_t (hr1_f g) f1, Fm_t s2 f2, f3, q', f4, f5, f6, f7⟩
  · have c0' : ¬ (ck (cn (stb tx) q)).toInt = k := fun z => c0 (i_eq.mpr (by rw [z, hw]))
    have pg : x_X2_pass N wI g = some (0, g) := by
      unfold x_X2_pass
      rw [if_pos t1, t2, if_neg c0]
    rw [pg, if_pos (a2.mpr c0')]
    simp only [Option.bind_some, if_true]
    refine res_fail (N := N) (v := 0) hp rfl ?_
    obtain ⟨T, y1, y2, y3, y4, y5⟩ := m_fail (N := N) hp.2.1.2.1
    rw [y1]
    simp only [Option.bind_some]
    exact bad_part8 (by rw [y3]; decide)
