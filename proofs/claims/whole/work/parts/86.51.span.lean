/-! spans of feet -/
def inS (lo hi : Int) (f : Nat) : Bool := decide (lo ≤ (f : Int) ∧ (f : Int) ≤ hi)
def SpB (lo hi : Int) : Prop := (0 ≤ lo ∧ lo ≤ 100) ∧ -1 ≤ hi ∧ hi ≤ 99
theorem Sy_rc {kd nb rn : Nat → Int32} {x : Nat} {s f : Int} (hk : 0 ≤ (kd (x / 20)).toInt ∧ (kd (x / 20)).toInt ≤ 5) (hf : 0 ≤ f ∧ f ≤ 99) : Sy kd nb rn x f = s ↔ rc kd nb rn x (s + 1) + 1 ≤ f ∧ f ≤ rc kd nb rn x s := by
  have h1 := rc_ge (nb := nb) (rn := rn) (a := s + 1) (f := f) hk hf
  have h0 := rc_ge (nb := nb) (rn := rn) (a := s) (f := f) hk hf
  omega
theorem cn_S {lo hi : Int} (h : SpB lo hi) : ∀ n : Nat, n ≤ 100 → ((cn (inS lo hi) n : Nat) : Int) = max 0 (min (hi + 1) n - lo) := by
  obtain ⟨h1, h2⟩ := h
  intro n
  induction n with
  | zero => intro _; show (0 : Int) = _; omega
  | succ n ih =>
    intro hn
    have ih := ih (by omega)
    show ((cn (inS lo hi) n + (if inS lo hi n then 1 else 0) : Nat) : Int) = _
    unfold inS at ih ⊢
    by_cases c : lo ≤ (n : Int) ∧ (n : Int) ≤ hi
    · rw [if_pos (decide_eq_true c)]; omega
    · rw [if_neg (by rw [decide_eq_true_eq]; exact c)]; omega
theorem c_widen (N : Nat) (g : Sg) : ∃ G, x_X4_widen N g = some G ∧ (∀ i, i ≠ 6 → G i = g i) ∧ (G 6 0).toInt = 0 ∧ (G 6 1).toInt = 99 := by
  refine ⟨_, rfl, fun i hi => ?_, ?_, ?_⟩
  · rw [up_n _ _ hi, up_n _ _ hi]
  · rw [up_s]; rfl
  · rw [up_s]; rfl
theorem c_size {N : Nat} {g : Sg} {lo hi : Int} (h : SpB lo hi) (e0 : (g 6 0).toInt = lo) (e1 : (g 6 1).toInt = hi) : x_X4_size N g = some (Int32.ofInt (cn (inS lo hi) 100), g) := by
  have hc := cn_S h 100 (by omega)
  obtain ⟨h1, h2⟩ := h
  unfold x_X4_size
  simp only [lt]
  refine congrArg (fun z => some (z, g)) (eq_of ?_)
  have f1 : (g 6 1 - g 6 0).toInt = hi - lo := by rw [i_sub, e0, e1] <;> omega
  have f2 : (g 6 1 - g 6 0 + 1).toInt = hi - lo + 1 := add_l f1 (by decide) (by omega)
  rw [max_i, f2, hc]
  show max (0 : Int) (hi - lo + 1) = _
  omega
theorem c_narrow {N : Nat} {a s : Int32} {g : Sg} {lo hi mk : Int} (h : Rg (g 12) (g 13) (g 14) mk) (hm : mk ≤ 5) (ha : 0 ≤ a.toInt ∧ a.toInt < 20 * mk) (hs : -2 ≤ s.toInt ∧ s.toInt ≤ 2) (hb : SpB lo hi) (e0 : (g 6 0).toInt = lo) (e1 : (g 6 1).toInt = hi) : ∃ G, x_X4_narrow N a s g = some G ∧ (∀ i, i ≠ 6 → G i = g i) ∧ (G 6 0).toInt = max lo (rc (g 12) (g 13) (g 14) a.toInt.toNat (s.toInt + 1) + 1) ∧ (G 6 1).toInt = min hi (rc (g 12) (g 13) (g 14) a.toInt.toNat s.toInt) := by
  obtain ⟨h1, h2⟩ := hb
  have es : (s + 1).toInt = s.toInt + 1 := inc1 (by omega)
  have b1 := rc_b (kd := g 12) (nb := g 13) (rn := g 14) (x := a.toInt.toNat) (a := s.toInt + 1)
  have b0 := rc_b (kd := g 12) (nb := g 13) (rn := g 14) (x := a.toInt.toNat) (a := s.toInt)
  have v1 := of_i (z := rc (g 12) (g 13) (g 14) a.toInt.toNat (s.toInt + 1)) (by omega) (by omega)
  have v0 := of_i (z := rc (g 12) (g 13) (g 14) a.toInt.toNat s.toInt) (by omega) (by omega)
  unfold x_X4_narrow
  rw [c_reach h hm ha (by omega), es]
  simp only [Option.bind_some, lt]
  have f1 : (Int32.ofInt (rc (g 12) (g 13) (g 14) a.toInt.toNat (s.toInt + 1)) + 1).toInt = rc (g 12) (g 13) (g 14) a.toInt.toNat (s.toInt + 1) + 1 := add_l v1 (by decide) (by omega)
  have f2 := max_i (g 6 0) (Int32.ofInt (rc (g 12) (g 13) (g 14) a.toInt.toNat (s.toInt + 1)) + 1)
  rw [f1, e0] at f2
  generalize mxI (g 6 0) (Int32.ofInt (rc (g 12) (g 13) (g 14) a.toInt.toNat (s.toInt + 1)) + 1) = L at f2 ⊢
  have hR : Rg (up g 6 (upd (g 6) 0 L) 12) (up g 6 (upd (g 6) 0 L) 13) (up g 6 (upd (g 6) 0 L) 14) mk := h
  rw [c_reach hR hm ha (by omega)]
  simp only [Option.bind_some]
  refine ⟨_, rfl, fun i hi => ?_, ?_, ?_⟩
  · rw [up_n _ _ hi, up_n _ _ hi]
  · exact f2
  · show (mnI (g 6 1) (Int32.ofInt (rc (g 12) (g 13) (g 14) a.toInt.toNat s.toInt))).toInt = _
    rw [min_i, e1, v0]
theorem inS_n {kd nb rn : Nat → Int32} {x f : Nat} {lo hi s : Int} (hk : 0 ≤ (kd (x / 20)).toInt ∧ (kd (x / 20)).toInt ≤ 5) (hf : f < 100) : inS (max lo (rc kd nb rn x (s + 1) + 1)) (min hi (rc kd nb rn x s)) f = (inS lo hi f && decide (Sy kd nb rn x f = s)) := by
  have e := Sy_rc (nb := nb) (rn := rn) (s := s) (f := f) hk (by omega)
  unfold inS
  refine Bool.eq_iff_iff.mpr ?_
  rw [Bool.and_eq_true, decide_eq_true_eq, decide_eq_true_eq, decide_eq_true_eq, e]
  omega
theorem SpB_n {kd nb rn : Nat → Int32} {x : Nat} {lo hi s : Int} (h : SpB lo hi) : SpB (max lo (rc kd nb rn x (s + 1) + 1)) (min hi (rc kd nb rn x s)) := by
  have b1 := rc_b (kd := kd) (nb := nb) (rn := rn) (x := x) (a := s + 1)
  have b0 := rc_b (kd := kd) (nb := nb) (rn := rn) (x := x) (a := s)
  obtain ⟨h1, h2⟩ := h
  exact ⟨by omega, by omega⟩
/-- which feet the rows leave -/
def rwP (kd nb rn C D : Nat → Int32) (m f : Nat) : Bool := al (rwo kd nb rn C D (-1) (Int32.ofInt f)) m
theorem rwP_1 {kd nb rn C D : Nat → Int32} {m f : Nat} (hf : f < 100) : rwP kd nb rn C D (m + 1) f = (rwP kd nb rn C D m f && decide (Sy kd nb rn (C m).toInt.toNat f = (D m).toInt)) := by
  show (al _ m && rwo kd nb rn C D (-1) (Int32.ofInt f) m) = (al _ m && _)
  unfold rwo
  rw [decide_eq_true (p := (-1 : Int32) = -1 ∨ C m / 20 = -1) (Or.inl rfl), of_i (by omega) (by omega)]
  rfl
theorem c_rows {N : Nat} (hN : 200 < N) {a : Int32} {g : Sg} {m : Nat} (ha : 0 ≤ a.toInt ∧ a.toInt ≤ 3) (hR : Rg (g 12) (g 13) (g 14) (g 1 4).toInt) (hm : (g 1 4).toInt ≤ 5) (hw : Rw g a.toInt.toNat m) : ∃ G lo hi, x_X7_narrowByRows N a g = some G ∧ (∀ i, i ≠ 6 → G i = g i) ∧ SpB lo hi ∧ (G 6 0).toInt = lo ∧ (G 6 1).toInt = hi ∧ ∀ f : Nat, f < 100 → inS lo hi f = rwP (g 12) (g 13) (g 14) (fun p => g (33 + a.toInt.toNat) (2 * p)) (fun p => g (33 + a.toInt.toNat) (2 * p + 1)) m f := by
  obtain ⟨k, hk⟩ : ∃ k, k = a.toInt.toNat := ⟨_, rfl⟩
  rw [← hk] at hw ⊢
  obtain ⟨⟨w1, w2, w3⟩, w4⟩ := hw
  have b4 : inb a 4 = true := i_inb.mpr ⟨ha.1, by omega⟩
  have hk' : a.toNatClampNeg = k := by rw [i_nat, hk]
  obtain ⟨g1, e1, o1, z0, z1⟩ := c_widen N g
  unfold x_X7_narrowByRows
  rw [e1]
  simp only [Option.bind_some]
  obtain ⟨r, e, lo, hi, p1, p2, p3, p4, p5⟩ := lp_tot (F := x_X7_narrowByRows_B9 N) (fun x => 50 - x.2.1.toInt.toNat) (fun x => x.1 = a ∧ (∀ i, i ≠ 6 → x.2.2 i = g i) ∧ ∃ (p : Nat) (lo hi : Int), x.2.1.toInt = 2 * p ∧ p ≤ m ∧ SpB lo hi ∧ (x.2.2 6 0).toInt = lo ∧ (x.2.2 6 1).toInt = hi ∧ ∀ f : Nat, f < 100 → inS lo hi f = rwP (g 12) (g 13) (g 14) (fun p => g (33 + k) (2 * p)) (fun p => g (33 + k) (2 * p + 1)) p f) (fun _ G => ∃ lo hi, (∀ i, i ≠ 6 → G i = g i) ∧ SpB lo hi ∧ (G 6 0).toInt = lo ∧ (G 6 1).toInt = hi ∧ ∀ f : Nat, f < 100 → inS lo hi f = rwP (g 12) (g 13) (g 14) (fun p => g (33 + k) (2 * p)) (fun p => g (33 + k) (2 * p + 1)) m f) (by
    intro hh ⟨y1, i, X⟩ ⟨j1, j2, p, lo, hi, j3, j4, j5, j6, j7, j8⟩ ih
    have i1 : y1 = a := j1
    have i2 : ∀ i, i ≠ 6 → X i = g i := j2
    have i3 : i.toInt = 2 * p := j3
    have i6 : (X 6 0).toInt = lo := j6
    have i7 : (X 6 1).toInt = hi := j7
    clear j1 j2 j3 j6 j7
    subst i1
    have ei := inc1 (x := i) (by omega)
    unfold x_X7_narrowByRows_B9
    simp only [b4, if_true, hk', i_le, ei]
    rw [i2 31 (by omega), i2 (33 + k) (by omega)]
    by_cases c1 : p = m
    · rw [if_pos (show (g 31 k).toInt ≤ i.toInt + 1 by omega)]
      subst c1
      exact ⟨_, rfl, lo, hi, i2, j5, i6, i7, j8⟩
    · rw [if_neg (show ¬ (g 31 k).toInt ≤ i.toInt + 1 by omega)]
      have n4 : (i + 1).toNatClampNeg = 2 * p + 1 := by rw [i_nat, ei]; omega
      have n5 : i.toNatClampNeg = 2 * p := by rw [i_nat]; omega
      have q12 := i2 12 (by omega)
      have q13 := i2 13 (by omega)
      have q14 := i2 14 (by omega)
      obtain ⟨u1, u2⟩ := w4 p (by omega)
      rw [if_pos (show inb i 40 = true from i_inb.mpr ⟨by omega, by omega⟩), if_pos (show inb (i + 1) 40 = true from i_inb.mpr ⟨by omega, by omega⟩), n4, n5]
      obtain ⟨G, e3, o3, z3, z4⟩ := c_narrow (N := N) (a := g (33 + k) (2 * p)) (s := g (33 + k) (2 * p + 1)) (g := X) (mk := (g 1 4).toInt) (by rw [q12, q13, q14]; exact hR) hm u1 u2 j5 i6 i7
      rw [e3]
      simp only [Option.bind_some, lt]
      rw [q12, q13, q14] at z3 z4
      have e5 : (i + 2).toInt = i.toInt + 2 := add_l rfl (by decide) (by omega)
      refine ih (y1, i + 2, G) ⟨rfl, fun q hq => (o3 q hq).trans (i2 q hq), p + 1, _, _, by show (i + 2).toInt = _; omega, by omega, SpB_n j5, z3, z4, fun f hf => ?_⟩ (by show 50 - (i + 2).toInt.toNat < 50 - i.toInt.toNat; omega)
      rw [rwP_1 hf, ← j8 f hf]
      exact inS_n (hR _ (by omega)).1 hf) N (a, 0, g1) ⟨rfl, o1, 0, 0, 99, rfl, Nat.zero_le _, ⟨by omega, by omega⟩, z0, z1, fun f hf => by
        show inS 0 99 f = true
        unfold inS
        exact decide_eq_true (by omega)⟩ (by show 50 - _ < N; omega)
  exact ⟨r, lo, hi, e, p1, p2, p3, p4, p5⟩
