/-! rubs and prices -/
def RBv (val : Vl) (g : Sg) (x a : Int32) : Int32 := wi 99 (val 1 (rmI x 20) (x / 20) (abI (Int32.ofInt (Ln (g 12) (g 13) (g 14) x.toInt.toNat) - FNv val g a)) (g 13 (x / 20).toNatClampNeg) a (g 1 2))
def PRv (val : Vl) (g : Sg) (x : Int32) : Int32 := wi 99 (val 2 (rmI x 20) (x / 20) 0 (g 13 (x / 20).toNatClampNeg) 0 (g 1 2))
theorem wi_b (v : Int32) : 0 ≤ (wi 99 v).toInt ∧ (wi 99 v).toInt ≤ 99 := by
  have e : (wi 99 v).toInt = max 0 (min 99 v.toInt) := by
    unfold wi
    rw [max_i, min_i]; rfl
  omega
def Cg (g G : Sg) : Prop := ∀ j : Nat, ¬ (j = 7 ∨ j = 8 ∨ j = 9 ∨ j = 28 ∨ j = 29) → G j = g j
def Cs (S T : SM) : Prop := (∀ j : Nat, j ≠ 0 → T.1 j = S.1 j) ∧ ∀ k : Nat, ¬ ((16 ≤ k ∧ k ≤ 30) ∨ k = 38) → T.1 0 k = S.1 0 k
theorem c_rub {N : Nat} {val : Vl} {g : Sg} {S : SM} (h : Inv (TXs N) g S) (hr : Rl N val g S) {g' : Sg} (hc : Cg g g') {x a : Int32} (hx : 0 ≤ x.toInt ∧ x.toInt < 20 * (g 1 4).toInt) : ∃ G, x_X7_rubbing N x a (FNv val g a) g' = some (RBv val g x a, G) ∧ ∀ j, j ≠ 28 → j ≠ 29 → G j = g' j := by
  obtain ⟨k1, k2, k3⟩ := mk5 h
  have e := d20 hx.1
  have q1 := hc 1 (by omega)
  have q12 := hc 12 (by omega)
  have q13 := hc 13 (by omega)
  have q14 := hc 14 (by omega)
  unfold x_X7_rubbing
  simp only [lt]
  rw [c_len (mk := (g 1 4).toInt) (by rw [q12, q13, q14]; exact Rg_c h) k3 hx, q12, q13, q14]
  simp only [Option.bind_some]
  rw [if_pos (show inb (x / 20) 5 = true from i_inb.mpr ⟨by omega, by omega⟩), q13, q1]
  obtain ⟨G1, n1, n2, n3, n4, n5, n6, n7, n8⟩ := c_name N (rmI x 20) (x / 20) (abI (Int32.ofInt (Ln (g 12) (g 13) (g 14) x.toInt.toNat) - FNv val g a)) (g 13 (x / 20).toNatClampNeg) a (g 1 2) g'
  rw [n1]
  simp only [Option.bind_some]
  obtain ⟨G2, v1, v2⟩ := hr.1 G1 1 ((n2 26 (by omega)).trans (hc 26 (by omega))) ((n2 27 (by omega)).trans (hc 27 (by omega))) (by decide)
  rw [n2 1 (by omega), q1, v1, n3, n4, n5, n6, n7, n8]
  simp only [Option.bind_some, c_within]
  exact ⟨G2, rfl, fun j h1 h2 => (v2 j h2).trans (n2 j h1)⟩
theorem c_price {N : Nat} {val : Vl} {g : Sg} {S : SM} (h : Inv (TXs N) g S) (hr : Rl N val g S) {g' : Sg} (hc : Cg g g') {x : Int32} (hx : 0 ≤ x.toInt ∧ x.toInt < 20 * (g 1 4).toInt) : ∃ G, x_X7_priceOf N x g' = some (PRv val g x, G) ∧ ∀ j, j ≠ 28 → j ≠ 29 → G j = g' j := by
  obtain ⟨k1, k2, k3⟩ := mk5 h
  have e := d20 hx.1
  have q1 := hc 1 (by omega)
  have q13 := hc 13 (by omega)
  unfold x_X7_priceOf
  simp only [lt]
  rw [if_pos (show inb (x / 20) 5 = true from i_inb.mpr ⟨by omega, by omega⟩), q13, q1]
  obtain ⟨G1, n1, n2, n3, n4, n5, n6, n7, n8⟩ := c_name N (rmI x 20) (x / 20) 0 (g 13 (x / 20).toNatClampNeg) 0 (g 1 2) g'
  rw [n1]
  simp only [Option.bind_some]
  obtain ⟨G2, v1, v2⟩ := hr.1 G1 2 ((n2 26 (by omega)).trans (hc 26 (by omega))) ((n2 27 (by omega)).trans (hc 27 (by omega))) (by decide)
  rw [n2 1 (by omega), q1, v1, n3, n4, n5, n6, n7, n8]
  simp only [Option.bind_some, c_within]
  exact ⟨G2, rfl, fun j h1 h2 => (v2 j h2).trans (n2 j h1)⟩
theorem m_asks {N : Nat} {val : Vl} {g : Sg} {S : SM} (h : Inv (TXs N) g S) (hr : Rl N val g S) {S' : SM} (hc : Cs S S') {w x p a : Int32} (hw : 0 ≤ w.toInt ∧ w.toInt ≤ 2) (hx : 0 ≤ x.toInt ∧ x.toInt < 20 * (g 1 4).toInt) : ∃ T, x_X8_asksFor N w x p a S' = some (wi 99 (val w (rmI x 20) (x / 20) p (g 13 (x / 20).toNatClampNeg) a (g 1 2)), T) ∧ FrN S' T := by
  obtain ⟨k1, k2, k3⟩ := mk5 h
  obtain ⟨s1, s2, s3, s4, _⟩ := h.1
  have e := d20 hx.1
  have b5 : inb (x / 20) 5 = true := i_inb.mpr ⟨by omega, by omega⟩
  have ee : x_X8_asksFor N w x p a S' = (if inb (x / 20) 5 = true then (x_X8_read N ((nm6 S' (rmI x 20) (x / 20) p (S'.1 6 (x / 20).toNatClampNeg) a).1 0 4) w (nm6 S' (rmI x 20) (x / 20) p (S'.1 6 (x / 20).toNatClampNeg) a)).bind fun q8 => (x_X8_within N q8.1 (0 : Int32) (99 : Int32) q8.2).bind fun q9 => some (q9.1, q9.2) else none) := rfl
  rw [ee, if_pos b5]
  have en : S'.1 6 (x / 20).toNatClampNeg = g 13 (x / 20).toNatClampNeg := by
    rw [hc.1 6 (by omega)]
    exact (h.2.2.1 (x / 20).toNatClampNeg (by rw [i_nat]; omega)).1.1.symm
  rw [en]
  obtain ⟨n1, n2, n3, n4, n5, n6⟩ := nm6_v S' (rmI x 20) (x / 20) p (g 13 (x / 20).toNatClampNeg) a
  have nj : ∀ j, j ≠ 0 → (nm6 S' (rmI x 20) (x / 20) p (g 13 (x / 20).toNatClampNeg) a).1 j = S'.1 j := fun j hj => nm6_j _ _ _ _ _ _ hj
  have nk : ∀ k, ¬ (16 ≤ k ∧ k ≤ 21) → (nm6 S' (rmI x 20) (x / 20) p (g 13 (x / 20).toNatClampNeg) a).1 0 k = S'.1 0 k := fun k hk => nm6_k _ _ _ _ _ _ hk
  generalize nm6 S' (rmI x 20) (x / 20) p (g 13 (x / 20).toNatClampNeg) a = W at *
  have k4 : W.1 0 4 = g 1 3 := by rw [nk 4 (by omega), hc.2 4 (by omega)]; exact s4.1.symm
  obtain ⟨T, t1, t2⟩ := hr.2 W w ((nj 1 (by omega)).trans (hc.1 1 (by omega))) ((nj 2 (by omega)).trans (hc.1 2 (by omega))) hw
  rw [k4, t1, n1, n2, n3, n4, n5, n6, hc.2 9 (by omega), ← s3.1]
  simp only [Option.bind_some]
  rw [m_within N _ 99 T (by decide)]
  exact ⟨T, rfl, fun j hj => (t2.1 j hj).trans (nj j hj), fun k hk => (t2.2 k (by omega)).trans (nk k (by omega))⟩
theorem m_plain (N : Nat) (v : Int32) (S : SM) : x_X8_plain N v S = some (abI v, S) := by
  unfold x_X8_plain abI
  by_cases c : 0 ≤ v
  · rw [if_pos c, if_pos c]
  · rw [if_neg c, if_neg c, Int32.zero_sub]
theorem FrN_Cs {S T U : SM} (h : Cs S T) (f : FrN T U) : Cs S U := ⟨fun j hj => (f.1 j hj).trans (h.1 j hj), fun k hk => (f.2 k (by omega)).trans (h.2 k hk)⟩
theorem m_rub {N : Nat} {val : Vl} {g : Sg} {S : SM} (h : Inv (TXs N) g S) (hr : Rl N val g S) {S' : SM} (hc : Cs S S') {x a : Int32} (hx : 0 ≤ x.toInt ∧ x.toInt < 20 * (g 1 4).toInt) : ∃ T, x_X8_rubsOf N x a S' = some (RBv val g x a, T) ∧ FrN S' T := by
  obtain ⟨k1, k2, k3⟩ := mk5 h
  unfold x_X8_rubsOf
  have q5 := hc.1 5 (by omega)
  have q6 := hc.1 6 (by omega)
  have q7 := hc.1 7 (by omega)
  rw [m_len (mk := (g 1 4).toInt) (by rw [q5, q6, q7]; exact Rg_m h) k3 hx, q5, q6, q7, Ln_cm h (by omega)]
  simp only [Option.bind_some]
  obtain ⟨T, t1, t2⟩ := m_foot h hr S' a (hc.1 1 (by omega)) (hc.1 2 (by omega)) (fun k hk => hc.2 k (by omega))
  rw [t1]
  simp only [Option.bind_some, m_plain]
  obtain ⟨U, u1, u2⟩ := m_asks h hr (FrN_Cs hc t2) (w := 1) (p := abI (Int32.ofInt (Ln (g 12) (g 13) (g 14) x.toInt.toNat) - FNv val g a)) (a := a) (by decide) hx
  rw [u1]
  exact ⟨U, rfl, fun j hj => (u2.1 j hj).trans (t2.1 j hj), fun k hk => (u2.2 k hk).trans (t2.2 k hk)⟩
/-! the three that rub least -/
theorem ft_1 (B : Nat → Bool) (h : Nat → Nat) (n : Nat) : ft B h (n + 1) = if B n then (match ft B h n with | none => some n | some y => if h n < h y then some n else some y) else ft B h n := rfl
theorem FtV_o {B : Nat → Bool} {h : Nat → Nat} {n : Nat} {r m r' m' s v : Int32} (i4 : FtV (ft B h n) h 1000000 r m) (hb : B n = true) (es : s.toInt = n) (ev : v.toInt = h n) (hl : h n ≤ 1000) (o5 : m.toInt ≤ v.toInt → r' = r ∧ m' = m) (o6 : v.toInt < m.toInt → r' = s ∧ m' = v) : FtV (ft B h (n + 1)) h 1000000 r' m' := by
  rw [ft_1, if_pos hb]
  cases hf : ft B h n with
  | none =>
    rw [hf] at i4
    have w := i4.1 rfl
    have w2 := o6 (by rw [w.2]; show v.toInt < 1000000; omega)
    exact FtV_s (by rw [w2.1]; exact es) (by rw [w2.2]; exact ev)
  | some y =>
    rw [hf] at i4
    obtain ⟨w1, w2⟩ := i4.2 y rfl
    show FtV (if h n < h y then some n else some y) h _ _ _
    by_cases c4 : h n < h y
    · rw [if_pos c4]
      have w3 := o6 (by omega)
      exact FtV_s (by rw [w3.1]; exact es) (by rw [w3.2]; exact ev)
    · rw [if_neg c4]
      have w3 := o5 (by omega)
      rw [w3.1, w3.2]; exact i4
theorem c_clear8 (N : Nat) (g : Sg) : ∃ G, x_X1_clear_8 N g = some G ∧ (∀ i, i ≠ 8 → G i = g i) ∧ G 8 0 = -1 ∧ G 8 1 = 1000000 := by
  refine ⟨_, rfl, fun i hi => ?_, ?_, ?_⟩
  · rw [up_n _ _ hi, up_n _ _ hi]
  · rw [up_s]; show up g 8 _ 8 0 = -1; rw [up_s]; rfl
  · rw [up_s]; rfl
theorem c_clear9 (N : Nat) (g : Sg) : ∃ G, x_X1_clear_9 N g = some G ∧ (∀ i, i ≠ 9 → G i = g i) ∧ G 9 0 = -1 ∧ G 9 1 = 1000000 := by
  refine ⟨_, rfl, fun i hi => ?_, ?_, ?_⟩
  · rw [up_n _ _ hi, up_n _ _ hi]
  · rw [up_s]; show up g 9 _ 9 0 = -1; rw [up_s]; rfl
  · rw [up_s]; rfl
theorem c_offer8 (N : Nat) (a b : Int32) (g : Sg) : ∃ G, x_X1_offer_8 N a b g = some G ∧ (∀ i, i ≠ 8 → G i = g i) ∧ ((g 8 1).toInt ≤ b.toInt → G = g) ∧ (b.toInt < (g 8 1).toInt → G 8 0 = a ∧ G 8 1 = b) := by
  unfold x_X1_offer_8
  simp only [i_le]
  by_cases h1 : (g 8 1).toInt ≤ b.toInt
  · rw [if_pos h1]
    exact ⟨g, rfl, fun _ _ => rfl, fun _ => rfl, fun z => by omega⟩
  · rw [if_neg h1]
    refine ⟨_, rfl, fun i hi => ?_, fun z => absurd z h1, fun _ => ⟨?_, ?_⟩⟩
    · rw [up_n _ _ hi, up_n _ _ hi]
    · rw [up_s]; show up g 8 _ 8 0 = a; rw [up_s]; rfl
    · rw [up_s]; rfl
theorem c_offer9 (N : Nat) (a b : Int32) (g : Sg) : ∃ G, x_X1_offer_9 N a b g = some G ∧ (∀ i, i ≠ 9 → G i = g i) ∧ ((g 9 1).toInt ≤ b.toInt → G = g) ∧ (b.toInt < (g 9 1).toInt → G 9 0 = a ∧ G 9 1 = b) := by
  unfold x_X1_offer_9
  simp only [i_le]
  by_cases h1 : (g 9 1).toInt ≤ b.toInt
  · rw [if_pos h1]
    exact ⟨g, rfl, fun _ _ => rfl, fun _ => rfl, fun z => by omega⟩
  · rw [if_neg h1]
    refine ⟨_, rfl, fun i hi => ?_, fun z => absurd z h1, fun _ => ⟨?_, ?_⟩⟩
    · rw [up_n _ _ hi, up_n _ _ hi]
    · rw [up_s]; show up g 9 _ 9 0 = a; rw [up_s]; rfl
    · rw [up_s]; rfl
/-- how a shoe rubs, as a number: on a side, on both -/
def hb (val : Vl) (g : Sg) (w : Nat) (x : Nat) : Nat := (if w = 1 then 0 else (RBv val g (Int32.ofInt x) 0).toInt.toNat) + (if w = 0 then 0 else (RBv val g (Int32.ofInt x) 1).toInt.toNat)
theorem hb_l (val : Vl) (g : Sg) (w x : Nat) : hb val g w x ≤ 1000 := by
  have h1 : 0 ≤ (RBv val g (Int32.ofInt x) 0).toInt ∧ (RBv val g (Int32.ofInt x) 0).toInt ≤ 99 := wi_b _
  have h2 : 0 ≤ (RBv val g (Int32.ofInt x) 1).toInt ∧ (RBv val g (Int32.ofInt x) 1).toInt ≤ 99 := wi_b _
  unfold hb
  split <;> split <;> omega
theorem c_tryAll {N : Nat} (hN : 200 < N) {val : Vl} {g : Sg} {S : SM} (h : Inv (TXs N) g S) (hr : Rl N val g S) : ∃ G, x_X7_tryAllOn N g = some G ∧ Cg g G ∧ FtV (ft (Sb (g 15)) (hb val g 2) (20 * (g 1 4).toInt.toNat)) (hb val g 2) 1000000 (G 7 0) (G 7 1) ∧ FtV (ft (Sb (g 15)) (hb val g 0) (20 * (g 1 4).toInt.toNat)) (hb val g 0) 1000000 (G 8 0) (G 8 1) ∧ FtV (ft (Sb (g 15)) (hb val g 1) (20 * (g 1 4).toInt.toNat)) (hb val g 1) 1000000 (G 9 0) (G 9 1) := by
  obtain ⟨k1, k2, k3⟩ := mk5 h
  unfold x_X7_tryAllOn
  obtain ⟨g1, a1, a2, a3, a4⟩ := c_clear7 N g
  rw [a1]
  simp only [Option.bind_some]
  obtain ⟨g2, b1, b2', b3, b4⟩ := c_clear8 N g1
  rw [b1]
  simp only [Option.bind_some]
  obtain ⟨g3, d1, d2', d3', d4⟩ := c_clear9 N g2
  rw [d1]
  simp only [Option.bind_some]
  have c3 : ∀ j, ¬ (j = 7 ∨ j = 8 ∨ j = 9) → g3 j = g j := fun j hj => by rw [d2' j (by omega), b2' j (by omega), a2 j (by omega)]
  obtain ⟨g4, f1, f2⟩ := c_foot hr g3 0 (c3 1 (by omega)) (c3 26 (by omega)) (c3 27 (by omega))
  rw [f1]
  simp only [Option.bind_some]
  obtain ⟨g5, f3, f4⟩ := c_foot hr g4 1 ((f2 1 (by omega) (by omega)).trans (c3 1 (by omega))) ((f2 26 (by omega) (by omega)).trans (c3 26 (by omega))) ((f2 27 (by omega) (by omega)).trans (c3 27 (by omega)))
  rw [f3]
  simp only [Option.bind_some]
  have e5 : ∀ j, j ≠ 28 → j ≠ 29 → g5 j = g3 j := fun j h1 h2 => (f4 j h1 h2).trans (f2 j h1 h2)
  have i7 : g5 7 0 = -1 ∧ g5 7 1 = 1000000 := by rw [e5 7 (by omega) (by omega), d2' 7 (by omega), b2' 7 (by omega)]; exact ⟨a3, a4⟩
  have i8 : g5 8 0 = -1 ∧ g5 8 1 = 1000000 := by rw [e5 8 (by omega) (by omega), d2' 8 (by omega)]; exact ⟨b3, b4⟩
  have i9 : g5 9 0 = -1 ∧ g5 9 1 = 1000000 := by rw [e5 9 (by omega) (by omega)]; exact ⟨d3', d4⟩
  refine lp_tot (F := x_X7_tryAllOn_B35 N) (fun y => 101 - y.2.2.1.toInt.toNat) (fun y => y.1 = FNv val g 0 ∧ y.2.1 = FNv val g 1 ∧ 0 ≤ y.2.2.1.toInt ∧ y.2.2.1.toInt ≤ 20 * (g 1 4).toInt ∧ Cg g y.2.2.2 ∧ FtV (ft (Sb (g 15)) (hb val g 2) y.2.2.1.toInt.toNat) (hb val g 2) 1000000 (y.2.2.2 7 0) (y.2.2.2 7 1) ∧ FtV (ft (Sb (g 15)) (hb val g 0) y.2.2.1.toInt.toNat) (hb val g 0) 1000000 (y.2.2.2 8 0) (y.2.2.2 8 1) ∧ FtV (ft (Sb (g 15)) (hb val g 1) y.2.2.1.toInt.toNat) (hb val g 1) 1000000 (y.2.2.2 9 0) (y.2.2.2 9 1)) (fun _ G => Cg g G ∧ FtV (ft (Sb (g 15)) (hb val g 2) (20 * (g 1 4).toInt.toNat)) (hb val g 2) 1000000 (G 7 0) (G 7 1) ∧ FtV (ft (Sb (g 15)) (hb val g 0) (20 * (g 1 4).toInt.toNat)) (hb val g 0) 1000000 (G 8 0) (G 8 1) ∧ FtV (ft (Sb (g 15)) (hb val g 1) (20 * (g 1 4).toInt.toNat)) (hb val g 1) 1000000 (G 9 0) (G 9 1)) ?_ N (FNv val g 0, FNv val g 1, 0, g5) ⟨rfl, rfl, Int.le_refl 0, by show (0 : Int32).toInt ≤ _; simp only [Int32.reduceToInt]; omega, fun j hj => (e5 j (by omega) (by omega)).trans (c3 j (by omega)), by show FtV none _ _ (g5 7 0) (g5 7 1); rw [i7.1, i7.2]; exact FtV_n, by show FtV none _ _ (g5 8 0) (g5 8 1); rw [i8.1, i8.2]; exact FtV_n, by show FtV none _ _ (g5 9 0) (g5 9 1); rw [i9.1, i9.2]; exact FtV_n⟩ (by show 101 - _ < N; omega)
  intro hh ⟨y1, y2, s, X⟩ ⟨j1, j2, j3, j4, j5, j6, j7, j8⟩ ih
  have i1 : y1 = FNv val g 0 := j1
  have i2 : y2 = FNv val g 1 := j2
  have i3 : 0 ≤ s.toInt := j3
  have i4 : s.toInt ≤ 20 * (g 1 4).toInt := j4
  have i5 : Cg g X := j5
  have i6 : FtV (ft (Sb (g 15)) (hb val g 2) s.toInt.toNat) (hb val g 2) 1000000 (X 7 0) (X 7 1) := j6
  have i7 : FtV (ft (Sb (g 15)) (hb val g 0) s.toInt.toNat) (hb val g 0) 1000000 (X 8 0) (X 8 1) := j7
  have i8 : FtV (ft (Sb (g 15)) (hb val g 1) s.toInt.toNat) (hb val g 1) 1000000 (X 9 0) (X 9 1) := j8
  clear j1 j2 j3 j4 j5 j6 j7 j8
  subst i1; subst i2
  have q1 := i5 1 (by omega)
  have q15 := i5 15 (by omega)
  unfold x_X7_tryAllOn_B35
  obtain ⟨b, b1, b2⟩ := c_shoes (N := N) (g := X) (by rw [q1]; exact ⟨k2, k3⟩)
  simp only [b1, Option.bind_some, i_le, b2]
  rw [q1]
  by_cases c1 : 20 * (g 1 4).toInt ≤ s.toInt
  · rw [if_pos c1]
    rw [show s.toInt.toNat = 20 * (g 1 4).toInt.toNat by omega] at i6 i7 i8
    exact ⟨_, rfl, i5, i6, i7, i8⟩
  · have e3 := inc1 (x := s) (by omega)
    have hs : 0 ≤ s.toInt ∧ s.toInt < 20 * (g 1 4).toInt := by omega
    rw [if_neg c1, c_stk (by rw [q1]; exact ⟨k2, k3⟩) (by rw [q15]; exact Kg_c h) (by rw [q1]; exact hs), q15]
    simp only [Option.bind_some, b2_0]
    have go : ∀ X' : Sg, Cg g X' → FtV (ft (Sb (g 15)) (hb val g 2) (s.toInt.toNat + 1)) (hb val g 2) 1000000 (X' 7 0) (X' 7 1) → FtV (ft (Sb (g 15)) (hb val g 0) (s.toInt.toNat + 1)) (hb val g 0) 1000000 (X' 8 0) (X' 8 1) → FtV (ft (Sb (g 15)) (hb val g 1) (s.toInt.toNat + 1)) (hb val g 1) 1000000 (X' 9 0) (X' 9 1) → ∃ r, x_X7_tryAllOn_b108 N hh (FNv val g 0) (FNv val g 1) s X' = some r ∧ Cg g r ∧ FtV (ft (Sb (g 15)) (hb val g 2) (20 * (g 1 4).toInt.toNat)) (hb val g 2) 1000000 (r 7 0) (r 7 1) ∧ FtV (ft (Sb (g 15)) (hb val g 0) (20 * (g 1 4).toInt.toNat)) (hb val g 0) 1000000 (r 8 0) (r 8 1) ∧ FtV (ft (Sb (g 15)) (hb val g 1) (20 * (g 1 4).toInt.toNat)) (hb val g 1) 1000000 (r 9 0) (r 9 1) := by
      intro X' t1 t2 t3 t4
      unfold x_X7_tryAllOn_b108
      simp only [lt]
      have en : (s + 1).toInt.toNat = s.toInt.toNat + 1 := by omega
      refine ih (FNv val g 0, FNv val g 1, s + 1, X') ⟨rfl, rfl, by show 0 ≤ (s + 1).toInt; omega, by show (s + 1).toInt ≤ _; omega, t1, ?_, ?_, ?_⟩ (by show 101 - (s + 1).toInt.toNat < 101 - s.toInt.toNat; omega)
      · show FtV (ft _ _ (s + 1).toInt.toNat) _ _ _ _
        rw [en]; exact t2
      · show FtV (ft _ _ (s + 1).toInt.toNat) _ _ _ _
        rw [en]; exact t3
      · show FtV (ft _ _ (s + 1).toInt.toNat) _ _ _ _
        rw [en]; exact t4
    by_cases c2 : Sb (g 15) s.toInt.toNat = true
    · rw [if_neg (fun z => z c2)]
      obtain ⟨X1, r1, r2⟩ := c_rub h hr i5 (x := s) (a := 0) hs
      rw [r1]
      simp only [Option.bind_some]
      have z1 : Cg g X1 := fun j hj => (r2 j (by omega) (by omega)).trans (i5 j hj)
      obtain ⟨X2, r3, r4⟩ := c_rub h hr z1 (x := s) (a := 1) hs
      rw [r3]
      simp only [Option.bind_some]
      have z2 : Cg g X2 := fun j hj => (r4 j (by omega) (by omega)).trans (z1 j hj)
      have w0 : 0 ≤ (RBv val g s 0).toInt ∧ (RBv val g s 0).toInt ≤ 99 := wi_b _
      have w1 : 0 ≤ (RBv val g s 1).toInt ∧ (RBv val g s 1).toInt ≤ 99 := wi_b _
      have es := ofI_i i3
      have h2 : (RBv val g s 0 + RBv val g s 1).toInt = hb val g 2 s.toInt.toNat := by
        unfold hb
        rw [es, i_add (by omega) (by omega), if_neg (by decide), if_neg (by decide)]; omega
      have h0 : (RBv val g s 0).toInt = hb val g 0 s.toInt.toNat := by
        unfold hb
        rw [es, if_neg (by decide), if_pos rfl]; omega
      have h1 : (RBv val g s 1).toInt = hb val g 1 s.toInt.toNat := by
        unfold hb
        rw [es, if_pos rfl, if_neg (by decide)]; omega
      generalize RBv val g s 0 = p at *
      generalize RBv val g s 1 = q at *
      obtain ⟨X3, o1, o2, o3, o4⟩ := c_offer7 N s (p + q) X2
      rw [o1]
      simp only [Option.bind_some]
      obtain ⟨X4, o5, o6, o7, o8⟩ := c_offer8 N s p X3
      rw [o5]
      simp only [Option.bind_some]
      obtain ⟨X5, o9, o10, o11, o12⟩ := c_offer9 N s q X4
      rw [o9]
      simp only [Option.bind_some]
      have x7 : X2 7 = X 7 := (r4 7 (by omega) (by omega)).trans (r2 7 (by omega) (by omega))
      have x8 : X3 8 = X 8 := (o2 8 (by omega)).trans ((r4 8 (by omega) (by omega)).trans (r2 8 (by omega) (by omega)))
      have x9 : X4 9 = X 9 := (o6 9 (by omega)).trans ((o2 9 (by omega)).trans ((r4 9 (by omega) (by omega)).trans (r2 9 (by omega) (by omega))))
      have y7 : X5 7 = X3 7 := (o10 7 (by omega)).trans (o6 7 (by omega))
      have y8 : X5 8 = X4 8 := o10 8 (by omega)
      rw [x7] at o3 o4
      rw [x8] at o7 o8
      rw [x9] at o11 o12
      have sn : s.toInt = (s.toInt.toNat : Nat) := by omega
      refine go X5 (fun j hj => ?_) ?_ ?_ ?_
      · rw [o10 j (by omega), o6 j (by omega), o2 j (by omega)]; exact z2 j hj
      · rw [y7]
        exact FtV_o i6 c2 sn h2 (hb_l _ _ _ _) (fun z => by rw [o3 z, x7]; exact ⟨rfl, rfl⟩) o4
      · rw [y8]
        exact FtV_o i7 c2 sn h0 (hb_l _ _ _ _) (fun z => by rw [o7 z, x8]; exact ⟨rfl, rfl⟩) o8
      · exact FtV_o i8 c2 sn h1 (hb_l _ _ _ _) (fun z => by rw [o11 z, x9]; exact ⟨rfl, rfl⟩) o12
    · rw [if_pos c2]
      refine go X i5 ?_ ?_ ?_
      · rw [ft_1, if_neg c2]; exact i6
      · rw [ft_1, if_neg c2]; exact i7
      · rw [ft_1, if_neg c2]; exact i8
