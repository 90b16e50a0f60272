/-! the reference at a token -/
theorem Run_u {tx : Nat → Int32} {sz k q e e' : Nat} (h : Run tx sz k q e) (h' : Run tx sz k q e') : e = e' := by
  obtain ⟨a1, a2, a3, a4⟩ := h
  obtain ⟨b1, b2, b3, b4⟩ := h'
  rcases Nat.lt_trichotomy e e' with c | c | c
  · rcases a4 with d | d
    · omega
    · exact absurd (b3 e a1 c) d
  · exact c
  · rcases b4 with d | d
    · omega
    · exact absurd (a3 e' b1 c) d
def Kn (tx : Nat → Int32) (sz q : Nat) (T : SM) : Prop := (q = sz ∧ T.1 0 25 = 0 ∧ (T.1 0 24).toInt = q) ∨ (q < sz ∧ so (tx q) = 0 ∧ T.1 0 25 = 1 ∧ ∃ e : Nat, Run tx sz 0 q e ∧ (T.1 0 24).toInt = e) ∨ (q < sz ∧ so (tx q) = 1 ∧ ∃ e : Nat, Run tx sz 1 q e ∧ (T.1 0 24).toInt = e ∧ T.1 0 25 = (if e - q ≤ 4 then 2 else 4) ∧ (e - q ≤ 4 → T.2.toInt = numv tx q (e - q))) ∨ (q < sz ∧ so (tx q) = 3 ∧ sg (tx q) ∧ T.1 0 25 = 3 ∧ T.2.toInt = (tx q).toInt ∧ (T.1 0 24).toInt = q + 1) ∨ (q < sz ∧ so (tx q) = 3 ∧ ¬ sg (tx q) ∧ T.1 0 25 = 4)
/-- at the token at q, all good so far -/
def At (tx : Nat → Int32) (sz q : Nat) (S : SM) : Prop := RT S tx sz ∧ S.1 0 29 = 0 ∧ (S.1 0 26).toInt = q ∧ (q < sz → stb tx q = true) ∧ Kn tx sz q S
def Tks (ck pk : Nat → Int32) (tx : Nat → Int32) (sz : Nat) : Prop := (∀ p : Nat, p < sz → stb tx p = true → TC tx sz p (ck (cn (stb tx) p)) ∧ (pk (cn (stb tx) p)).toInt = p) ∧ ck (cn (stb tx) sz) = 21 ∧ (pk (cn (stb tx) sz)).toInt = sz
theorem At_q {tx : Nat → Int32} {sz q : Nat} {S : SM} (h : At tx sz q S) : q ≤ sz := by
  rcases h.2.2.2.2 with a | a | a | a | a
  · omega
  · omega
  · omega
  · omega
  · omega
/-- what codes there are -/
theorem TC_c {tx : Nat → Int32} {sz q : Nat} {c : Int32} (h : TC tx sz q c) : (0 ≤ c.toInt ∧ c.toInt ≤ 11 ∧ so (tx q) = 0) ∨ (12 ≤ c.toInt ∧ c.toInt ≤ 19 ∧ so (tx q) = 3) ∨ c = 20 ∨ (100 ≤ c.toInt ∧ c.toInt ≤ 10099 ∧ so (tx q) = 1) := by
  rcases h with ⟨a, ⟨k, k1, _, k3⟩ | ⟨_, b⟩⟩ | ⟨a, e, r, ⟨b1, b2⟩ | ⟨_, b⟩⟩ | ⟨a, e, r, ⟨k, k1, _, k3⟩ | ⟨_, b⟩⟩
  · exact Or.inr (Or.inl ⟨by omega, by omega, a⟩)
  · exact Or.inr (Or.inr (Or.inl b))
  · obtain ⟨n1, n2⟩ := numv_b (tx := tx) (q := q) (e - q) b1 (fun j ja jb => r.2.2.1 j ja (by omega))
    have p10 : (10 : Int) ^ (e - q) ≤ 10000 := by
      have : e - q = 0 ∨ e - q = 1 ∨ e - q = 2 ∨ e - q = 3 ∨ e - q = 4 := by omega
      rcases this with e | e | e | e | e <;> rw [e] <;> decide
    exact Or.inr (Or.inr (Or.inr ⟨by omega, by omega, a⟩))
  · exact Or.inr (Or.inr (Or.inl b))
  · exact Or.inl ⟨by omega, by omega, a⟩
  · exact Or.inr (Or.inr (Or.inl b))
theorem tok_c {ck pk tx : Nat → Int32} {sz q : Nat} (hk : Tks ck pk tx sz) (hq : q ≤ sz) (hs : q < sz → stb tx q = true) : (q < sz ∧ TC tx sz q (ck (cn (stb tx) q))) ∨ (q = sz ∧ ck (cn (stb tx) q) = 21) := by
  by_cases c : q < sz
  · exact Or.inl ⟨c, (hk.1 q c (hs c)).1⟩
  · have : q = sz := by omega
    subst this
    exact Or.inr ⟨rfl, hk.2.1⟩
theorem pk_c {ck pk tx : Nat → Int32} {sz q : Nat} (hk : Tks ck pk tx sz) (hq : q ≤ sz) (hs : q < sz → stb tx q = true) : (pk (cn (stb tx) q)).toInt = q := by
  by_cases c : q < sz
  · exact (hk.1 q c (hs c)).2
  · have : q = sz := by omega
    subst this
    exact hk.2.2
/-- a word at hand: the code says which -/
theorem at_word {N : Nat} {ck pk tx : Nat → Int32} {sz q k : Nat} {S : SM} (hk : Tks ck pk tx sz) (h : At tx sz q S) (hk12 : k < 12) : ∃ v, x_X8_isWord N (L8 k 0) (L8 k 1) (L8 k 2) (L8 k 3) (L8 k 4) (L8 k 5) (L8 k 6) (L8 k 7) S = some (v, S) ∧ (v = 0 ↔ ¬ (ck (cn (stb tx) q)).toInt = k) := by
  obtain ⟨hR, hb, h26, hs, hn⟩ := id h
  have hq := At_q h
  have ht := tok_c hk hq hs
  have h20 : (20 : Int32).toInt = 20 := by decide
  have h21 : (21 : Int32).toInt = 21 := by decide
  have notw : ¬ S.1 0 25 = 1 → (¬ (ck (cn (stb tx) q)).toInt = k) → ∃ v, x_X8_isWord N (L8 k 0) (L8 k 1) (L8 k 2) (L8 k 3) (L8 k 4) (L8 k 5) (L8 k 6) (L8 k 7) S = some (v, S) ∧ (v = 0 ↔ ¬ (ck (cn (stb tx) q)).toInt = k) := fun a b => by
    unfold x_X8_isWord
    rw [if_pos hb, if_neg a]
    exact ⟨0, rfl, ⟨fun _ => b, fun _ => rfl⟩⟩
  rcases hn with ⟨a1, a2, _⟩ | ⟨a1, a2, a3, e, a4, a5⟩ | ⟨a1, a2, e, a4, a5, a6, _⟩ | ⟨a1, a2, _, a4, _⟩ | ⟨a1, a2, _, a4⟩
  · refine notw (by rw [a2]; decide) ?_
    rcases ht with ⟨b, _⟩ | ⟨_, b⟩
    · omega
    · rw [b, h21]; omega
  · obtain ⟨v, v1, v2⟩ := m_isWord (N := N) hR hk12 hb a3 h26 a5 a4
    refine ⟨v, v1, v2.trans (not_congr ?_)⟩
    rcases ht with ⟨_, b⟩ | ⟨b, _⟩
    · rcases b with ⟨c, _⟩ | ⟨c, _⟩ | ⟨_, e', r, ⟨m, m1, m2, m3⟩ | ⟨m1, m2⟩⟩
      · omega
      · omega
      · rw [Run_u r a4] at m2
        constructor
        · intro w
          rw [m3, wm_u m1 hk12 m2 w]
        · intro w
          have : m = k := by omega
          rw [← this]; exact m2
      · rw [Run_u r a4] at m1
        rw [m2, h20]
        exact ⟨fun w => absurd w (m1 k hk12), fun w => by omega⟩
    · omega
  · refine notw (by rw [a6]; split <;> decide) ?_
    rcases ht with ⟨_, b⟩ | ⟨b, _⟩
    · rcases TC_c b with c | c | c | c
      · omega
      · omega
      · rw [c, h20]; omega
      · omega
    · omega
  · refine notw (by rw [a4]; decide) ?_
    rcases ht with ⟨_, b⟩ | ⟨b, _⟩
    · rcases TC_c b with c | c | c | c
      · omega
      · omega
      · rw [c, h20]; omega
      · omega
    · omega
  · refine notw (by rw [a4]; decide) ?_
    rcases ht with ⟨_, b⟩ | ⟨b, _⟩
    · rcases TC_c b with c | c | c | c
      · omega
      · omega
      · rw [c, h20]; omega
      · omega
    · omega
/-- a sign at hand -/
theorem at_sign {N : Nat} {ck pk tx : Nat → Int32} {sz q k : Nat} {S : SM} (hk : Tks ck pk tx sz) (h : At tx sz q S) (hk8 : k < 8) {s : Int32} (es : s = bySIGNS.getD k 0) : ∃ v, x_X8_isSign N s S = some (v, S) ∧ (v = 0 ↔ ¬ (ck (cn (stb tx) q)).toInt = 12 + k) := by
  obtain ⟨hR, hb, h26, hs, hn⟩ := id h
  have hq := At_q h
  have ht := tok_c hk hq hs
  have h20 : (20 : Int32).toInt = 20 := by decide
  have h21 : (21 : Int32).toInt = 21 := by decide
  have uni : ∀ a : Nat, a < 8 → ∀ b : Nat, b < 8 → bySIGNS.getD a 0 = bySIGNS.getD b 0 → a = b := by decide +kernel
  have sgk : ∀ a : Nat, a < 8 → sg (bySIGNS.getD a 0) := fun a ha => by
    have : a = 0 ∨ a = 1 ∨ a = 2 ∨ a = 3 ∨ a = 4 ∨ a = 5 ∨ a = 6 ∨ a = 7 := by omega
    rcases this with rfl | rfl | rfl | rfl | rfl | rfl | rfl | rfl
    · exact Or.inl rfl
    · exact Or.inr (Or.inl rfl)
    · exact Or.inr (Or.inr (Or.inl rfl))
    · exact Or.inr (Or.inr (Or.inr (Or.inl rfl)))
    · exact Or.inr (Or.inr (Or.inr (Or.inr (Or.inl rfl))))
    · exact Or.inr (Or.inr (Or.inr (Or.inr (Or.inr (Or.inl rfl)))))
    · exact Or.inr (Or.inr (Or.inr (Or.inr (Or.inr (Or.inr (Or.inl rfl))))))
    · exact Or.inr (Or.inr (Or.inr (Or.inr (Or.inr (Or.inr (Or.inr rfl))))))
  unfold x_X8_isSign
  rw [if_pos hb]
  have nots : ¬ S.1 0 25 = 3 → (¬ (ck (cn (stb tx) q)).toInt = 12 + k) → ∃ v : Int32, (if S.1 0 25 = 3 then (if lg_cmp S.2 s.toInt64 = 0 then some ((1 : Int32), S) else some ((0 : Int32), S)) else some ((0 : Int32), S)) = some (v, S) ∧ (v = 0 ↔ ¬ (ck (cn (stb tx) q)).toInt = 12 + k) := fun a b => by
    rw [if_neg a]
    exact ⟨0, rfl, ⟨fun _ => b, fun _ => rfl⟩⟩
  rcases hn with ⟨a1, a2, _⟩ | ⟨a1, a2, a3, e, a4, a5⟩ | ⟨a1, a2, e, a4, a5, a6, _⟩ | ⟨a1, a2, a3, a4, a5, _⟩ | ⟨a1, a2, a3, a4⟩
  · refine nots (by rw [a2]; decide) ?_
    rcases ht with ⟨b, _⟩ | ⟨_, b⟩
    · omega
    · rw [b, h21]; omega
  · refine nots (by rw [a3]; decide) ?_
    rcases ht with ⟨_, b⟩ | ⟨b, _⟩
    · rcases TC_c b with c | c | c | c
      · omega
      · omega
      · rw [c, h20]; omega
      · omega
    · omega
  · refine nots (by rw [a6]; split <;> decide) ?_
    rcases ht with ⟨_, b⟩ | ⟨b, _⟩
    · rcases TC_c b with c | c | c | c
      · omega
      · omega
      · rw [c, h20]; omega
      · omega
    · omega
  · rw [if_pos a4]
    have eq : (ck (cn (stb tx) q)).toInt = 12 + k ↔ tx q = s := by
      rcases ht with ⟨_, b⟩ | ⟨b, _⟩
      · rcases b with ⟨_, ⟨m, m1, m2, m3⟩ | ⟨m1, _⟩⟩ | ⟨c, _⟩ | ⟨c, _⟩
        · rw [m2, es, m3]
          constructor
          · intro w
            have : m = k := by omega
            rw [this]
          · intro w
            rw [uni m m1 k hk8 w]
        · exact absurd a3 m1
        · omega
        · omega
      · omega
    by_cases c : tx q = s
    · rw [if_pos (cmp_0.mpr (by rw [i_l64, a5, c]))]
      exact ⟨1, rfl, ⟨fun z => absurd z (by decide), fun z => absurd (eq.mpr c) z⟩⟩
    · rw [if_neg (fun z => c (i_eq.mpr (by have := cmp_0.mp z; rw [i_l64, a5] at this; exact this)))]
      exact ⟨0, rfl, ⟨fun _ w => c (eq.mp w), fun _ => rfl⟩⟩
  · refine nots (by rw [a4]; decide) ?_
    rcases ht with ⟨_, b⟩ | ⟨b, _⟩
    · rcases b with ⟨_, ⟨m, m1, m2, m3⟩ | ⟨_, m1⟩⟩ | ⟨c, _⟩ | ⟨c, _⟩
      · exact absurd (by rw [m2]; exact sgk m m1) a3
      · rw [m1, h20]; omega
      · omega
      · omega
    · omega
/-- on to the next token -/
theorem at_next {N : Nat} (hN : 300 < N) {ck pk tx : Nat → Int32} {sz q : Nat} {S : SM} (hk : Tks ck pk tx sz) (h : At tx sz q S) (hc : ¬ ck (cn (stb tx) q) = 20) (hc2 : ¬ ck (cn (stb tx) q) = 21) : ∃ T q2, x_X8_next N S = some T ∧ Fr3 S T ∧ At tx sz q2 T ∧ cn (stb tx) q2 = cn (stb tx) q + 1 := by
  obtain ⟨hR, hb, h26, hs, hn⟩ := id h
  have hq := At_q h
  have ht := tok_c hk hq hs
  -- where the token ends
  have hend : ∃ e : Nat, (S.1 0 24).toInt = e ∧ q < e ∧ e ≤ sz ∧ (∀ j, q < j → j < e → stb tx j = false) ∧ (e < sz → ¬ so (tx e) = 2 → stb tx e = true) := by
    have run : ∀ (k e : Nat), (k = 0 ∨ k = 1) → so (tx q) = k → q < sz → Run tx sz k q e → q < e ∧ e ≤ sz ∧ (∀ j, q < j → j < e → stb tx j = false) ∧ (e < sz → ¬ so (tx e) = 2 → stb tx e = true) := by
      intro k e hk01 hsq hlt ⟨r1, r2, r3, r4⟩
      have hqe : q < e := by
        rcases Nat.lt_or_ge q e with c | c
        · exact c
        · have : e = q := by omega
          subst this
          rcases r4 with r4 | r4
          · omega
          · exact absurd hsq r4
      refine ⟨hqe, r2, fun j ja jb => ?_, fun he h2 => ?_⟩
      · unfold stb
        rw [decide_eq_false_iff_not]
        rintro ⟨_, w⟩
        refine w ⟨by omega, ?_, ?_⟩
        · rw [r3 j (by omega) jb]; omega
        · rw [r3 j (by omega) jb, r3 (j - 1) (by omega) (by omega)]
      · unfold stb
        rw [decide_eq_true_eq]
        refine ⟨h2, ?_⟩
        rintro ⟨_, _, w⟩
        rw [r3 (e - 1) (by omega) (by omega)] at w
        rcases r4 with r4 | r4
        · omega
        · exact r4 w
    rcases hn with ⟨a1, a2, _⟩ | ⟨a1, a2, a3, e, a4, a5⟩ | ⟨a1, a2, e, a4, a5, a6, _⟩ | ⟨a1, a2, a3, a4, a5, a6⟩ | ⟨a1, a2, a3, a4⟩
    · rcases ht with ⟨b, _⟩ | ⟨_, b⟩
      · omega
      · exact absurd b hc2
    · exact ⟨e, a5, run 0 e (Or.inl rfl) a2 a1 a4⟩
    · exact ⟨e, a5, run 1 e (Or.inr rfl) a2 a1 a4⟩
    · refine ⟨q + 1, by rw [a6]; omega, by omega, by omega, fun j ja jb => by omega, fun he h2 => ?_⟩
      unfold stb
      rw [decide_eq_true_eq]
      refine ⟨h2, ?_⟩
      rintro ⟨_, w1, w2⟩
      rw [show q + 1 - 1 = q by omega, a2] at w2
      exact w1 w2
    · rcases ht with ⟨_, b⟩ | ⟨b, _⟩
      · rcases b with ⟨_, ⟨m, m1, m2, m3⟩ | ⟨_, m1⟩⟩ | ⟨c, _⟩ | ⟨c, _⟩
        · exfalso
          refine a3 ?_
          rw [m2]
          have : m = 0 ∨ m = 1 ∨ m = 2 ∨ m = 3 ∨ m = 4 ∨ m = 5 ∨ m = 6 ∨ m = 7 := by omega
          rcases this with rfl | rfl | rfl | rfl | rfl | rfl | rfl | rfl
          · exact Or.inl rfl
          · exact Or.inr (Or.inl rfl)
          · exact Or.inr (Or.inr (Or.inl rfl))
          · exact Or.inr (Or.inr (Or.inr (Or.inl rfl)))
          · exact Or.inr (Or.inr (Or.inr (Or.inr (Or.inl rfl))))
          · exact Or.inr (Or.inr (Or.inr (Or.inr (Or.inr (Or.inl rfl)))))
          · exact Or.inr (Or.inr (Or.inr (Or.inr (Or.inr (Or.inr (Or.inl rfl))))))
          · exact Or.inr (Or.inr (Or.inr (Or.inr (Or.inr (Or.inr (Or.inr rfl))))))
        · exact absurd m1 hc
        · omega
        · omega
      · omega
  obtain ⟨e, e1, e2, e3, e4, e5⟩ := hend
  obtain ⟨T, t1, t2, q2, p1, p2, p3, p4, p5⟩ := m_next hN hR e1 e3
  have hq1 : q < sz := by omega
  have hstq := hs hq1
  have s2 : q2 < sz → stb tx q2 = true := by
    intro hlt
    have n2 : ¬ so (tx q2) = 2 := by
      rcases p5 with a | a | a | a | a
      · omega
      · rw [a.2.1]; omega
      · rw [a.2.1]; omega
      · rw [a.2.1]; omega
      · rw [a.2.1]; omega
    by_cases c : q2 = e
    · rw [c] at n2 hlt ⊢; exact e5 hlt n2
    · unfold stb
      rw [decide_eq_true_eq]
      refine ⟨n2, ?_⟩
      rintro ⟨_, _, w⟩
      rw [p3 (q2 - 1) (by omega) (by omega)] at w
      exact n2 w
  have none : ∀ j, q + 1 ≤ j → j < q2 → stb tx j = false := by
    intro j ja jb
    by_cases c : j < e
    · exact e4 j (by omega) c
    · unfold stb
      rw [decide_eq_false_iff_not]
      rintro ⟨w, _⟩
      exact w (p3 j (by omega) jb)
  have count : cn (stb tx) q2 = cn (stb tx) q + 1 := by
    have h1 := cn_a (stb tx) (q + 1) (q2 - (q + 1))
    rw [show q + 1 + (q2 - (q + 1)) = q2 by omega] at h1
    have h2 : cn (fun z => stb tx (q + 1 + z)) (q2 - (q + 1)) = 0 := cn_0 _ (fun i hi => none (q + 1 + i) (by omega) (by omega))
    have h3 : cn (stb tx) (q + 1) = cn (stb tx) q + (if stb tx q then 1 else 0) := rfl
    rw [if_pos hstq] at h3
    omega
  exact ⟨T, q2, t1, t2, ⟨RT_f hR t2, by rw [t2.2 29 (by omega)]; exact hb, p4, s2, p5⟩, count⟩
