theorem cn_pos {P : Nat → Bool} {i : Nat} (h : P i = true) : ∀ n, i < n → 1 ≤ cn P n := by
  intro n
  induction n with
  | zero => intro hi; omega
  | succ n ih =>
    intro hi
    unfold cn
    by_cases e : i = n
    · subst e; rw [if_pos h]; omega
    · have := ih (by omega); omega
theorem cn_0 {P : Nat → Bool} : ∀ n, (∀ i, i < n → P i = false) → cn P n = 0 := by
  intro n
  induction n with
  | zero => intro _; rfl
  | succ n ih =>
    intro h
    unfold cn
    rw [ih (fun i hi => h i (by omega)), if_neg (by rw [h n (by omega)]; decide)]
theorem mxq_ge {h : Nat → Nat} {q : Nat} : ∀ n, q < n → h q ≤ mxq h n := by
  intro n
  induction n with
  | zero => intro hq; omega
  | succ n ih =>
    intro hq
    show h q ≤ max (mxq h n) (h n)
    by_cases e : q = n
    · subst e; omega
    · have := ih (by omega); omega
theorem mxq_0 {h : Nat → Nat} (h0 : ∀ q, h q = 0) : ∀ n, mxq h n = 0 := by
  intro n
  induction n with
  | zero => rfl
  | succ n ih => show max (mxq h n) (h n) = 0; rw [ih, h0]; rfl
theorem AL_pos {kd nb rn : Nat → Int32} {P : Nat → Bool} {x f : Nat} (hf : f < 100) (hP : P f = true) : 0 < AL kd nb rn P x := by
  have sb := sy_b (kd (x / 20)).toInt (nb (x / 20)).toInt (Ln kd nb rn x - f)
  have sb : -2 ≤ Sy kd nb rn x f ∧ Sy kd nb rn x f ≤ 2 := sb
  have h1 : 1 ≤ cv kd nb rn P x ((((Sy kd nb rn x f + 2).toNat : Nat) : Int) - 2) 100 := by
    refine cn_pos (i := f) ?_ 100 hf
    rw [hP, Bool.true_and]
    exact decide_eq_true (by omega)
  exact Nat.lt_of_lt_of_le h1 (mxq_ge (h := fun q => cv kd nb rn P x ((q : Int) - 2) 100) (q := (Sy kd nb rn x f + 2).toNat) 5 (by omega))
theorem AL_0 {kd nb rn : Nat → Int32} {P : Nat → Bool} {x : Nat} (hP : ∀ f, f < 100 → P f = false) : AL kd nb rn P x = 0 :=
  mxq_0 (fun q => cn_0 100 (fun f hf => by show (P f && _) = false; rw [hP f hf, Bool.false_and])) 5
theorem rc_mono1 {kd nb rn : Nat → Int32} {x : Nat} (hk : 0 ≤ (kd (x / 20)).toInt ∧ (kd (x / 20)).toInt ≤ 5) (a : Int) : rc kd nb rn x (a + 1) ≤ rc kd nb rn x a := by
  have b1 := rc_b (kd := kd) (nb := nb) (rn := rn) (x := x) (a := a + 1)
  have b0 := rc_b (kd := kd) (nb := nb) (rn := rn) (x := x) (a := a)
  by_cases c : 0 ≤ rc kd nb rn x (a + 1)
  · have h1 := (rc_ge (nb := nb) (rn := rn) (a := a + 1) (f := rc kd nb rn x (a + 1)) hk ⟨c, b1.2⟩).mp (Int.le_refl _)
    exact (rc_ge (nb := nb) (rn := rn) (a := a) (f := rc kd nb rn x (a + 1)) hk ⟨c, b1.2⟩).mpr (by omega)
  · omega
theorem rc_3 {kd nb rn : Nat → Int32} {x : Nat} : rc kd nb rn x 3 = -1 := by
  unfold rc
  rw [if_neg (by decide), if_pos (by decide)]
theorem ar1 {lo hi R R' c w : Int} (hl : 0 ≤ lo ∧ lo ≤ 100) (hh : -1 ≤ hi ∧ hi ≤ 99) (h1 : -1 ≤ R) (h2 : R ≤ R') (h3 : R' ≤ 99) (hc : c = max (lo - 1) (min hi R)) (hw : w = max 0 (min (min hi R' + 1) ((100 : Nat) : Int) - max lo (R + 1))) : w = max 0 (min hi R' - c) ∧ max c (min hi R') = max (lo - 1) (min hi R') := by
  omega
theorem ar2 {m d w : Int} (h : 0 ≤ m) (hw : w = max 0 d) : max m d = max m w := by omega
theorem ar3 (w0 w1 w2 w3 w4 : Nat) : max (max (max (max (max (0 : Int) w4) w3) w2) w1) w0 = ((max (max (max (max (max 0 w0) w1) w2) w3) w4 : Nat) : Int) := by omega
theorem c_al_st {N : Nat} {h31 : Int32 × Int32 × Int32 × Int32 × Int32 × Sg → Option (Int32 × Sg)} {k s m c a : Int32} {g : Sg} {hi r : Int} (hk : 0 ≤ k.toInt ∧ k.toInt ≤ 5) (hs : -500 ≤ s.toInt ∧ s.toInt ≤ 500) (ha : -2 ≤ a.toInt ∧ a.toInt ≤ 2) (e1 : (g 6 1).toInt = hi) (hhi : -1 ≤ hi ∧ hi ≤ 99) (er : (if a.toInt ≤ -2 then 99 else if 2 < a.toInt then -1 else max (-1) (min 99 (s.toInt - bd k.toInt a.toInt))) = r) (hr : -1 ≤ r ∧ r ≤ 99) (hm : 0 ≤ m.toInt ∧ m.toInt ≤ 1000) (hc : -1 ≤ c.toInt ∧ c.toInt ≤ 100) : ∃ m' c' : Int32, x_X4_mostAlike_B31 N h31 (k, s, m, c, a, g) = h31 (k, s, m', c', a + -1, g) ∧ m'.toInt = max m.toInt (min hi r - c.toInt) ∧ c'.toInt = max c.toInt (min hi r) := by
  unfold x_X4_mostAlike_B31
  simp only [i_lt, Int32.reduceToInt]
  rw [if_neg (show ¬ a.toInt < -2 by omega), c_reach0 hk hs (by omega), er]
  simp only [Option.bind_some, lt]
  have v := of_i (z := r) (by omega) (by omega)
  have f1 := min_i (g 6 1) (Int32.ofInt r)
  rw [e1, v] at f1
  generalize mnI (g 6 1) (Int32.ofInt r) = t at f1 ⊢
  have f2 : (t - c).toInt = min hi r - c.toInt := by rw [i_sub, f1] <;> omega
  exact ⟨_, _, rfl, by rw [max_i, f2], by rw [max_i, f1]⟩
theorem c_alike {N : Nat} (hN : 200 < N) {a : Int32} {g : Sg} {lo hi mk : Int} (h : Rg (g 12) (g 13) (g 14) mk) (hm : mk ≤ 5) (ha : 0 ≤ a.toInt ∧ a.toInt < 20 * mk) (hb : SpB lo hi) (e0 : (g 6 0).toInt = lo) (e1 : (g 6 1).toInt = hi) : x_X4_mostAlike N a g = some (Int32.ofInt (AL (g 12) (g 13) (g 14) (inS lo hi) a.toInt.toNat), g) := by
  obtain ⟨M, rfl⟩ : ∃ M, N = M + 6 := ⟨N - 6, by omega⟩
  have e := d20 ha.1
  have en := n20 ha.1
  obtain ⟨h1, h2, h3⟩ := h (a.toInt.toNat / 20) (by omega)
  have lb := Ln_b h (x := a.toInt.toNat) (by omega)
  obtain ⟨s, s1, s2⟩ := c_seeming (N := M + 6) h hm ha
  have gb := gv_b (k := (g 12 (a.toInt.toNat / 20)).toInt) h2
  unfold x_X4_mostAlike
  rw [if_pos (show inb (a / 20) 5 = true from i_inb.mpr ⟨by omega, by omega⟩), en, s1]
  simp only [Option.bind_some, lt]
  have eR : ∀ w : Int, rc (g 12) (g 13) (g 14) a.toInt.toNat w = if w ≤ -2 then 99 else if 2 < w then -1 else max (-1) (min 99 (s.toInt - bd (g 12 (a.toInt.toNat / 20)).toInt w)) := by
    intro w
    rw [s2]; rfl
  obtain ⟨k, hk⟩ : ∃ k, k = g 12 (a.toInt.toNat / 20) := ⟨_, rfl⟩
  rw [← hk] at h1 eR ⊢
  obtain ⟨hl, hh⟩ := hb
  have hs : -500 ≤ s.toInt ∧ s.toInt ≤ 500 := by rw [s2]; omega
  have rb := fun w => rc_b (kd := g 12) (nb := g 13) (rn := g 14) (x := a.toInt.toNat) (a := w)
  have ec : (g 6 0 - 1).toInt = lo - 1 := sub_l e0 (by decide) (by omega)
  obtain ⟨m1, c1, p1, p2, p3⟩ := c_al_st (N := M + 6) (h31 := lp (x_X4_mostAlike_B31 (M + 6)) (M + 5)) (k := k) (s := s) (m := 0) (c := g 6 0 - 1) (a := 2) (g := g) h1 hs (by decide) e1 hh (eR 2).symm (rb 2) (by decide) (by omega)
  have z0 : (0 : Int32).toInt = 0 := by decide
  rw [z0, ec] at p2
  rw [ec] at p3
  have b2 := rb 2
  obtain ⟨m2, c2, p4, p5, p6⟩ := c_al_st (N := M + 6) (h31 := lp (x_X4_mostAlike_B31 (M + 6)) (M + 4)) (k := k) (s := s) (m := m1) (c := c1) (a := 1) (g := g) h1 hs (by decide) e1 hh (eR 1).symm (rb 1) (by omega) (by omega)
  have b1 := rb 1
  obtain ⟨m3, c3, p7, p8, p9⟩ := c_al_st (N := M + 6) (h31 := lp (x_X4_mostAlike_B31 (M + 6)) (M + 3)) (k := k) (s := s) (m := m2) (c := c2) (a := 0) (g := g) h1 hs (by decide) e1 hh (eR 0).symm (rb 0) (by omega) (by omega)
  have b0 := rb 0
  obtain ⟨m4, c4, p10, p11, p12⟩ := c_al_st (N := M + 6) (h31 := lp (x_X4_mostAlike_B31 (M + 6)) (M + 2)) (k := k) (s := s) (m := m3) (c := c3) (a := -1) (g := g) h1 hs (by decide) e1 hh (r := rc (g 12) (g 13) (g 14) a.toInt.toNat (-1)) (by rw [show (-1 : Int32).toInt = -1 from by decide]; exact (eR (-1)).symm) (rb (-1)) (by omega) (by omega)
  have bm := rb (-1)
  obtain ⟨m5, c5, p13, p14, p15⟩ := c_al_st (N := M + 6) (h31 := lp (x_X4_mostAlike_B31 (M + 6)) (M + 1)) (k := k) (s := s) (m := m4) (c := c4) (a := -2) (g := g) h1 hs (by decide) e1 hh (r := rc (g 12) (g 13) (g 14) a.toInt.toNat (-2)) (by rw [show (-2 : Int32).toInt = -2 from by decide]; exact (eR (-2)).symm) (rb (-2)) (by omega) (by omega)
  have l1 : lp (x_X4_mostAlike_B31 (M + 6)) (M + 6) (k, s, 0, g 6 0 - 1, 2, g) = some (m5, g) := by
    show x_X4_mostAlike_B31 (M + 6) (lp (x_X4_mostAlike_B31 (M + 6)) (M + 5)) (k, s, 0, g 6 0 - 1, 2, g) = _
    rw [p1]
    show x_X4_mostAlike_B31 (M + 6) (lp (x_X4_mostAlike_B31 (M + 6)) (M + 4)) (k, s, m1, c1, 1, g) = _
    rw [p4]
    show x_X4_mostAlike_B31 (M + 6) (lp (x_X4_mostAlike_B31 (M + 6)) (M + 3)) (k, s, m2, c2, 0, g) = _
    rw [p7]
    show x_X4_mostAlike_B31 (M + 6) (lp (x_X4_mostAlike_B31 (M + 6)) (M + 2)) (k, s, m3, c3, -1, g) = _
    rw [p10]
    show x_X4_mostAlike_B31 (M + 6) (lp (x_X4_mostAlike_B31 (M + 6)) (M + 1)) (k, s, m4, c4, -2, g) = _
    rw [p13]
    rfl
  rw [l1]
  refine congrArg (fun z => some (z, g)) (eq_of ?_)
  have cvv : ∀ w : Int, ((cv (g 12) (g 13) (g 14) (inS lo hi) a.toInt.toNat w 100 : Nat) : Int) = max 0 (min (min hi (rc (g 12) (g 13) (g 14) a.toInt.toNat w) + 1) 100 - max lo (rc (g 12) (g 13) (g 14) a.toInt.toNat (w + 1) + 1)) := by
    intro w
    have sp : SpB (max lo (rc (g 12) (g 13) (g 14) a.toInt.toNat (w + 1) + 1)) (min hi (rc (g 12) (g 13) (g 14) a.toInt.toNat w)) := SpB_n ⟨hl, hh⟩
    have := cn_S sp 100 (by omega)
    unfold cv
    rw [← cn_c (P := inS (max lo (rc (g 12) (g 13) (g 14) a.toInt.toNat (w + 1) + 1)) (min hi (rc (g 12) (g 13) (g 14) a.toInt.toNat w))) 100 (fun f hf => inS_n (by rw [← hk]; exact h1) hf)]
    exact this
  have hk12 : 0 ≤ (g 12 (a.toInt.toNat / 20)).toInt ∧ (g 12 (a.toInt.toNat / 20)).toInt ≤ 5 := by rw [← hk]; exact h1
  have mono := fun w => rc_mono1 (nb := g 13) (rn := g 14) (x := a.toInt.toNat) hk12 w
  have a4 := ar1 hl hh (R := rc (g 12) (g 13) (g 14) a.toInt.toNat 3) (c := lo - 1) (rb _).1 (mono 2) (rb _).2 (by rw [rc_3]; omega) (cvv 2)
  have a3 := ar1 hl hh (R := rc (g 12) (g 13) (g 14) a.toInt.toNat 2) (c := c1.toInt) (rb _).1 (mono 1) (rb _).2 (p3.trans a4.2) (cvv 1)
  have a2 := ar1 hl hh (R := rc (g 12) (g 13) (g 14) a.toInt.toNat 1) (c := c2.toInt) (rb _).1 (mono 0) (rb _).2 (p6.trans a3.2) (cvv 0)
  have a1 := ar1 hl hh (R := rc (g 12) (g 13) (g 14) a.toInt.toNat 0) (c := c3.toInt) (rb _).1 (mono (-1)) (rb _).2 (p9.trans a2.2) (cvv (-1))
  have a0 := ar1 hl hh (R := rc (g 12) (g 13) (g 14) a.toInt.toNat (-1)) (c := c4.toInt) (rb _).1 (mono (-2)) (rb _).2 (p12.trans a1.2) (cvv (-2))
  have q1 : m1.toInt = max (0 : Int) (cv (g 12) (g 13) (g 14) (inS lo hi) a.toInt.toNat 2 100 : Nat) := p2.trans (ar2 (Int.le_refl 0) a4.1)
  have q2 := p5.trans (ar2 (show 0 ≤ m1.toInt by omega) a3.1)
  have q3 := p8.trans (ar2 (show 0 ≤ m2.toInt by omega) a2.1)
  have q4 := p11.trans (ar2 (show 0 ≤ m3.toInt by omega) a1.1)
  have q5 := p14.trans (ar2 (show 0 ≤ m4.toInt by omega) a0.1)
  rw [q5, q4, q3, q2, q1]
  exact ar3 _ _ _ _ _
