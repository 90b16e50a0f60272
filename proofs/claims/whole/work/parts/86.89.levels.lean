theorem at_sval {ck pk tx : Nat → Int32} {sz q k : Nat} {S : SM} (hk : Tks ck pk tx sz) (h : At tx sz q S) (hk8 : k < 8) (hc : (ck (cn (stb tx) q)).toInt = 12 + k) : S.2.toInt = (bySIGNS.getD k 0).toInt := by
  obtain ⟨hR, hb, h26, hs, hn⟩ := id h
  have hq := At_q h
  have ht := tok_c hk hq hs
  have h20 : (20 : Int32).toInt = 20 := by decide
  have h21 : (21 : Int32).toInt = 21 := by decide
  rcases ht with ⟨a, b⟩ | ⟨_, b⟩
  · have hso : so (tx q) = 3 := by
      rcases TC_c b with c | c | c | c
      · omega
      · exact c.2.2
      · rw [c, h20] at hc; omega
      · omega
    rcases b with ⟨_, ⟨m, m1, m2, m3⟩ | ⟨_, m1⟩⟩ | ⟨c, _⟩ | ⟨c, _⟩
    · have em : m = k := by omega
      subst em
      rcases hn with ⟨a1, _⟩ | ⟨_, a2, _⟩ | ⟨_, a2, _⟩ | ⟨_, _, _, _, a5, _⟩ | ⟨_, _, a3, _⟩
      · omega
      · omega
      · omega
      · rw [a5, m2]
      · exfalso
        refine a3 ?_
        rw [m2]
        have : m = 0 ∨ m = 1 ∨ m = 2 ∨ m = 3 ∨ m = 4 ∨ m = 5 ∨ m = 6 ∨ m = 7 := by omega
        rcases this with rfl | rfl | rfl | rfl | rfl | rfl | rfl | rfl
        · exact Or.inl rfl
        · exact Or.inr (Or.inl rfl)
        · exact Or.inr (Or.inr (Or.inl rfl))
        · exact Or.inr (Or.inr (Or.inr (Or.inl rfl)))
        · exact Or.inr (Or.inr (Or.inr (Or.inr (Or.inl rfl))))
        · exact Or.inr (Or.inr (Or.inr (Or.inr (Or.inr (Or.inl rfl)))))
        · exact Or.inr (Or.inr (Or.inr (Or.inr (Or.inr (Or.inr (Or.inl rfl))))))
        · exact Or.inr (Or.inr (Or.inr (Or.inr (Or.inr (Or.inr (Or.inr rfl))))))
    · rw [m1, h20] at hc; omega
    · omega
    · omega
  · rw [b, h21] at hc; omega
/-- a level, from the one below it -/
theorem lv_gen {N : Nat} (hN : 300 < N) {lev o ec er : Nat} (hl : lev ≤ 4) (hl2 : ¬ lev = 2) (hk : LK N (lev + 1) o ec er) {F : (Int32 × SM → Option (Int32 × SM)) → Int32 × SM → Option (Int32 × SM)} (hF : ∀ S, gr_E N (er + 1) lev 0 0 0 S = (gr_E N er (lev + 1) 0 0 0 S).bind fun q => lp F N (q.1, q.2)) (Fstop : ∀ (ck pk tx : Nat → Int32) (sz : Nat) h v S q, Tks ck pk tx sz → At tx sz q S → ¬ (lvl (ck (cn (stb tx) q))).toInt = lev → F h (v, S) = some (v, S)) (Fbad : ∀ h v S, ¬ S.1 0 29 = 0 → F h (v, S) = some (v, S)) (Fgo : ∀ (ck pk tx : Nat → Int32) (sz : Nat) h v S q T, Tks ck pk tx sz → At tx sz q S → (lvl (ck (cn (stb tx) q))).toInt = lev → x_X8_next N S = some T → F h (v, S) = (gr_E N er (lev + 1) 0 0 0 T).bind fun p => h (jn (ck (cn (stb tx) q)) v p.1, p.2)) : LK N lev o (ec + 2) (er + 1) := by
  intro ck pk tx sz q g S oI lI ho hL hp
  rw [if_neg (show ¬ lev = 5 by omega), hF]
  have e : gr_R N (ec + 2) 0 lI oI 0 g = x_X2_expression N (gr_R N (ec + 1)) lI oI g := rfl
  rw [e]
  have n2 : ¬ lI = 2 := fun z => by
    rw [i_eq, hL] at z
    have : (2 : Int32).toInt = 2 := by decide
    omega
  unfold x_X2_expression x_X2_expression_b26
  rw [if_neg n2]
  rcases op_lk hl hk ho hL hp with ⟨G, T, v, d1, d2, d3⟩ | ⟨G, T, v, d1, d2, d3⟩
  · rw [d1, d2]
    simp only [Option.bind_some]
    rw [if_neg (by decide), if_neg n2]
    unfold x_X2_expression_b49
    have z00 : (0 : Int32).toInt = 0 := by decide
    obtain ⟨q', p1, p2⟩ := good_pre hp d3
    have cq := cn_le (stb tx) q'
    obtain ⟨z1, z2, z3⟩ := cn_sz p2
    exact loop_lk hN hl hl2 hk ho hL (fun h v S q => Fstop ck pk tx sz h v S q) Fbad (fun h v S q T => Fgo ck pk tx sz h v S q T) 161 N N q q' g G S T v 0 (by omega) (by omega) (by omega) hp d3 p1 ⟨by decide, by rw [z00]; omega⟩
  · rw [d1, d2]
    simp only [Option.bind_some, if_true]
    obtain ⟨N', rfl⟩ : ∃ k, N = k + 1 := ⟨N - 1, by omega⟩
    exact Or.inr ⟨G, T, v, rfl, Fbad (lp F N') v T d3.2.2.1, d3⟩
theorem lvl_4 {c : Int32} : (lvl c).toInt = ((4 : Nat) : Int) ↔ c.toInt = 12 + ((5 : Nat) : Int) := by
  unfold lvl
  have e : ∀ k : Int32, c = k ↔ c.toInt = k.toInt := fun k => i_eq
  constructor
  · intro h
    split at h
    · exact absurd h (by decide)
    split at h
    · exact absurd h (by decide)
    split at h
    · exact absurd h (by decide)
    split at h
    · exact absurd h (by decide)
    split at h
    · rename_i z; rw [z]; decide
    split at h
    · exact absurd h (by decide)
    split at h
    · exact absurd h (by decide)
    · exact absurd h (by decide)
  · intro h
    have : c = 17 := i_eq.mpr (by rw [h]; decide)
    rw [this]; decide
theorem lvl_3 {c : Int32} : (lvl c).toInt = ((3 : Nat) : Int) ↔ (c.toInt = 12 + ((3 : Nat) : Int) ∨ c.toInt = 12 + ((4 : Nat) : Int)) := by
  unfold lvl
  constructor
  · intro h
    split at h
    · exact absurd h (by decide)
    split at h
    · exact absurd h (by decide)
    split at h
    · rename_i z; rw [z]; decide
    split at h
    · rename_i z; rw [z]; decide
    split at h
    · exact absurd h (by decide)
    split at h
    · exact absurd h (by decide)
    split at h
    · exact absurd h (by decide)
    · exact absurd h (by decide)
  · intro h
    rcases h with h | h
    · have : c = 15 := i_eq.mpr (by rw [h]; decide)
      rw [this]; decide
    · have : c = 16 := i_eq.mpr (by rw [h]; decide)
      rw [this]; decide
theorem lvl_0 {c : Int32} : (lvl c).toInt = ((0 : Nat) : Int) ↔ c.toInt = ((3 : Nat) : Int) := by
  unfold lvl
  constructor
  · intro h
    split at h
    · rename_i z; rw [z]; decide
    split at h
    · exact absurd h (by decide)
    split at h
    · exact absurd h (by decide)
    split at h
    · exact absurd h (by decide)
    split at h
    · exact absurd h (by decide)
    split at h
    · exact absurd h (by decide)
    split at h
    · exact absurd h (by decide)
    · exact absurd h (by decide)
  · intro h
    have : c = 3 := i_eq.mpr (by rw [h]; decide)
    rw [this]; decide
theorem lvl_1 {c : Int32} : (lvl c).toInt = ((1 : Nat) : Int) ↔ c.toInt = ((4 : Nat) : Int) := by
  unfold lvl
  constructor
  · intro h
    split at h
    · exact absurd h (by decide)
    split at h
    · rename_i z; rw [z]; decide
    split at h
    · exact absurd h (by decide)
    split at h
    · exact absurd h (by decide)
    split at h
    · exact absurd h (by decide)
    split at h
    · exact absurd h (by decide)
    split at h
    · exact absurd h (by decide)
    · exact absurd h (by decide)
  · intro h
    have : c = 4 := i_eq.mpr (by rw [h]; decide)
    rw [this]; decide
theorem lk_4 {N : Nat} (hN : 300 < N) {o ec er : Nat} (hk : LK N 5 o ec er) : LK N 4 o (ec + 2) (er + 1) := by
  refine lv_gen hN (F := x_X8_term_B5 N (gr_E N er)) (by omega) (by omega) hk (fun S => rfl) (fun ck pk tx sz h v S q hT hA hc => ?_) (fun h v S hb => ?_) (fun ck pk tx sz h v S q T hT hA hc hn => ?_)
  · unfold x_X8_term_B5
    obtain ⟨w, w1, w2⟩ := at_sign (N := N) hT hA (k := 5) (by omega) (s := 42) rfl
    rw [w1]
    simp only [Option.bind_some]
    rw [if_pos (w2.mpr (fun z => hc (lvl_4.mpr z)))]
  · unfold x_X8_term_B5
    simp only []
    rw [bad_sign hb]
    simp only [Option.bind_some, if_true]
  · unfold x_X8_term_B5
    obtain ⟨w, w1, w2⟩ := at_sign (N := N) hT hA (k := 5) (by omega) (s := 42) rfl
    rw [w1]
    simp only [Option.bind_some]
    rw [if_neg (fun z => (w2.mp z) (lvl_4.mp hc)), hn]
    have ec : ck (cn (stb tx) q) = 17 := i_eq.mpr (by rw [lvl_4.mp hc]; decide)
    rw [ec]
    rfl
theorem lk_3 {N : Nat} (hN : 300 < N) {o ec er : Nat} (hk : LK N 4 o ec er) : LK N 3 o (ec + 2) (er + 1) := by
  have c43 : (bySIGNS.getD 3 0).toInt = 43 := by decide
  have c45 : (bySIGNS.getD 4 0).toInt = 45 := by decide
  have l43 : (43 : Int64).toInt = 43 := by decide
  refine lv_gen hN (F := x_X8_added_B5 N (gr_E N er)) (by omega) (by omega) hk (fun S => rfl) (fun ck pk tx sz h v S q hT hA hc => ?_) (fun h v S hb => ?_) (fun ck pk tx sz h v S q T hT hA hc hn => ?_)
  · unfold x_X8_added_B5
    obtain ⟨w, w1, w2⟩ := at_sign (N := N) hT hA (k := 3) (by omega) (s := 43) rfl
    rw [w1]
    simp only [Option.bind_some]
    rw [if_pos (w2.mpr (fun z => hc (lvl_3.mpr (Or.inl z))))]
    obtain ⟨w, w1, w2⟩ := at_sign (N := N) hT hA (k := 4) (by omega) (s := 45) rfl
    rw [w1]
    simp only [Option.bind_some]
    rw [if_pos (w2.mpr (fun z => hc (lvl_3.mpr (Or.inr z))))]
  · unfold x_X8_added_B5
    simp only []
    rw [bad_sign hb]
    simp only [Option.bind_some, if_true]
    rw [bad_sign hb]
    simp only [Option.bind_some, if_true]
  · unfold x_X8_added_B5
    obtain ⟨w, w1, w2⟩ := at_sign (N := N) hT hA (k := 3) (by omega) (s := 43) rfl
    rw [w1]
    simp only [Option.bind_some]
    unfold x_X8_added_b23 x_X8_added_b39 x_X8_added_b62
    simp only [cmp_0, l43]
    rcases lvl_3.mp hc with d | d
    · rw [if_neg (fun z => (w2.mp z) d), if_pos (by rw [at_sval hT hA (by omega) d, c43]), hn]
      have ec : ck (cn (stb tx) q) = 15 := i_eq.mpr (by rw [d]; decide)
      rw [ec]
      rfl
    · rw [if_pos (w2.mpr (fun z => by omega))]
      obtain ⟨w, w1, w2⟩ := at_sign (N := N) hT hA (k := 4) (by omega) (s := 45) rfl
      rw [w1]
      simp only [Option.bind_some]
      rw [if_neg (fun z => (w2.mp z) d), if_neg (by rw [at_sval hT hA (by omega) d, c45]; decide), hn]
      have ec : ck (cn (stb tx) q) = 16 := i_eq.mpr (by rw [d]; decide)
      rw [ec]
      rfl
theorem jn_3 (v p : Int32) : jn 3 v p = if v = 0 then (if p = 0 then 0 else 1) else 1 := rfl
theorem jn_4 (v p : Int32) : jn 4 v p = if v = 0 then 0 else (if p = 0 then 0 else 1) := rfl
theorem lk_1 {N : Nat} (hN : 300 < N) {o ec er : Nat} (hk : LK N 2 o ec er) : LK N 1 o (ec + 2) (er + 1) := by
  have ew : ∀ S, x_X8_isWord N (97 : Int32) (110 : Int32) (100 : Int32) (0 : Int32) (0 : Int32) (0 : Int32) (0 : Int32) (0 : Int32) S = x_X8_isWord N (L8 4 0) (L8 4 1) (L8 4 2) (L8 4 3) (L8 4 4) (L8 4 5) (L8 4 6) (L8 4 7) S := fun S => by
    rw [show L8 4 0 = 97 from by decide, show L8 4 1 = 110 from by decide, show L8 4 2 = 100 from by decide, show L8 4 3 = 0 from by decide, show L8 4 4 = 0 from by decide, show L8 4 5 = 0 from by decide, show L8 4 6 = 0 from by decide, show L8 4 7 = 0 from by decide]
  refine lv_gen hN (F := x_X8_both_B5 N (gr_E N er)) (by omega) (by omega) hk (fun S => rfl) (fun ck pk tx sz h v S q hT hA hc => ?_) (fun h v S hb => ?_) (fun ck pk tx sz h v S q T hT hA hc hn => ?_)
  · unfold x_X8_both_B5
    obtain ⟨w, w1, w2⟩ := at_word (N := N) hT hA (k := 4) (by omega)
    rw [ew, w1]
    simp only [Option.bind_some]
    rw [if_pos (w2.mpr (fun z => hc (lvl_1.mpr z)))]
  · unfold x_X8_both_B5
    simp only []
    rw [bad_word hb]
    simp only [Option.bind_some, if_true]
  · unfold x_X8_both_B5
    obtain ⟨w, w1, w2⟩ := at_word (N := N) hT hA (k := 4) (by omega)
    rw [ew, w1]
    simp only [Option.bind_some]
    rw [if_neg (fun z => (w2.mp z) (lvl_1.mp hc)), hn]
    have ec : ck (cn (stb tx) q) = 4 := i_eq.mpr (by rw [lvl_1.mp hc]; decide)
    rw [ec]
    simp only [Option.bind_some]
    refine congrArg (fun z => Option.bind (gr_E N er 2 0 0 0 T) z) (funext (fun p => ?_))
    unfold x_X8_both_b44 x_X8_both_b45
    rw [jn_4]
    by_cases a : v = 0
    · rw [if_pos a, if_pos a]
    · rw [if_neg a, if_neg a]
      by_cases b : p.1 = 0
      · rw [if_pos b, if_pos b]
      · rw [if_neg b, if_neg b]
theorem lk_0 {N : Nat} (hN : 300 < N) {o ec er : Nat} (hk : LK N 1 o ec er) : LK N 0 o (ec + 2) (er + 1) := by
  have ew : ∀ S, x_X8_isWord N (111 : Int32) (114 : Int32) (0 : Int32) (0 : Int32) (0 : Int32) (0 : Int32) (0 : Int32) (0 : Int32) S = x_X8_isWord N (L8 3 0) (L8 3 1) (L8 3 2) (L8 3 3) (L8 3 4) (L8 3 5) (L8 3 6) (L8 3 7) S := fun S => by
    rw [show L8 3 0 = 111 from by decide, show L8 3 1 = 114 from by decide, show L8 3 2 = 0 from by decide, show L8 3 3 = 0 from by decide, show L8 3 4 = 0 from by decide, show L8 3 5 = 0 from by decide, show L8 3 6 = 0 from by decide, show L8 3 7 = 0 from by decide]
  refine lv_gen hN (F := x_X8_either_B5 N (gr_E N er)) (by omega) (by omega) hk (fun S => rfl) (fun ck pk tx sz h v S q hT hA hc => ?_) (fun h v S hb => ?_) (fun ck pk tx sz h v S q T hT hA hc hn => ?_)
  · unfold x_X8_either_B5
    obtain ⟨w, w1, w2⟩ := at_word (N := N) hT hA (k := 3) (by omega)
    rw [ew, w1]
    simp only [Option.bind_some]
    rw [if_pos (w2.mpr (fun z => hc (lvl_0.mpr z)))]
  · unfold x_X8_either_B5
    simp only []
    rw [bad_word hb]
    simp only [Option.bind_some, if_true]
  · unfold x_X8_either_B5
    obtain ⟨w, w1, w2⟩ := at_word (N := N) hT hA (k := 3) (by omega)
    rw [ew, w1]
    simp only [Option.bind_some]
    rw [if_neg (fun z => (w2.mp z) (lvl_0.mp hc)), hn]
    have ec : ck (cn (stb tx) q) = 3 := i_eq.mpr (by rw [lvl_0.mp hc]; decide)
    rw [ec]
    simp only [Option.bind_some]
    refine congrArg (fun z => Option.bind (gr_E N er 1 0 0 0 T) z) (funext (fun p => ?_))
    unfold x_X8_either_b39 x_X8_either_b44
    rw [jn_3]
    by_cases a : v = 0
    · rw [if_pos a, if_pos a]
      by_cases b : p.1 = 0
      · rw [if_pos b, if_pos b]
      · rw [if_neg b, if_neg b]
    · rw [if_neg a, if_neg a]
