def wmi (tx : Nat → Int32) (q e k i : Nat) : Bool := decide ((if q + i < e then tx (q + i) else 32) = Wd k i)
theorem c_wdRow {N : Nat} (hN : 300 < N) {h2 : Int32 × Int32 × Int32 × Sg → Option (Int32 × Sg)} {R : Int32 × Sg → Prop} {g : Sg} {tx : Nat → Int32} {sz q e k : Nat} (h : CT g tx sz) (hqe : q ≤ e) (he : e ≤ sz) (hk : k < 12) {a b kI : Int32} (ha : a.toInt = q) (hb : b.toInt = e) (hkI : kI.toInt = k) (y : al (wmi tx q e k) 6 = true → R (kI, g)) (nx : al (wmi tx q e k) 6 = false → ∃ r, h2 (a, b, kI + 1, g) = some r ∧ R r) : ∃ r, lp (x_X2_wordOf_B22 N h2) N (a, b, kI, 1, 0, g) = some r ∧ R r := by
  obtain ⟨h1, h2', h3⟩ := h
  have one0 : ¬ (1 : Int32) = 0 := by decide
  refine lp_tot (F := x_X2_wordOf_B22 N h2) (fun y => 7 - y.2.2.2.2.1.toInt.toNat) (fun y => y.1 = a ∧ y.2.1 = b ∧ y.2.2.1 = kI ∧ 0 ≤ y.2.2.2.2.1.toInt ∧ y.2.2.2.2.1.toInt ≤ 6 ∧ y.2.2.2.2.2 = g ∧ (y.2.2.2.1 = 0 ↔ al (wmi tx q e k) y.2.2.2.2.1.toInt.toNat = false)) (fun _ r => R r) ?_ N (a, b, kI, 1, 0, g) ⟨rfl, rfl, rfl, Int.le_refl 0, by show (0 : Int32).toInt ≤ 6; decide, rfl, ⟨fun z => absurd z one0, fun z => Bool.noConfusion z⟩⟩ (by show 7 - _ < N; omega)
  intro hh ⟨y1, y2, y3, s, i, X⟩ ⟨j1, j2, j3, j4, j5, j6, j7⟩ ih
  have i1 : y1 = a := j1
  have i2 : y2 = b := j2
  have i3 : y3 = kI := j3
  have i4 : 0 ≤ i.toInt := j4
  have i5 : i.toInt ≤ 6 := j5
  have i6 : X = g := j6
  have i7 : s = 0 ↔ al (wmi tx q e k) i.toInt.toNat = false := j7
  clear j1 j2 j3 j4 j5 j6 j7
  subst i1; subst i2; subst i3; subst i6
  unfold x_X2_wordOf_B22
  simp only [i_le, Int32.reduceToInt]
  by_cases c1 : 6 ≤ i.toInt
  · rw [if_pos c1]
    rw [show i.toInt.toNat = 6 by omega] at i7
    by_cases c2 : s = 0
    · rw [if_pos c2]
      simp only [lt]
      exact nx (i7.mp c2)
    · rw [if_neg c2]
      refine ⟨_, rfl, y ?_⟩
      cases hc : al (wmi tx q e k) 6 with
      | true => rfl
      | false => exact absurd (i7.mpr hc) c2
  · have e5 := inc1 (x := i) (by omega)
    have ai : (y1 + i).toInt = ((q + i.toInt.toNat : Nat) : Int) := by rw [i_add, ha] <;> omega
    rw [if_neg c1, hb, ai]
    -- from the letter on
    have go : ∀ l : Int32, l = (if q + i.toInt.toNat < e then tx (q + i.toInt.toNat) else 32) → ∃ r, x_X2_wordOf_b51 N h2 hh y1 y2 y3 s i l X = some r ∧ R r := by
      intro l el
      have step : ∀ t : Int32, (t = 0 ↔ al (wmi tx q e k) (i.toInt.toNat + 1) = false) → ∃ r, x_X2_wordOf_b80 N h2 hh y1 y2 y3 i t X = some r ∧ R r := by
        intro t ht
        unfold x_X2_wordOf_b80
        simp only [lt]
        exact ih (y1, y2, y3, t, i + 1, X) ⟨rfl, rfl, rfl, by show 0 ≤ (i + 1).toInt; omega, by show (i + 1).toInt ≤ 6; omega, rfl, by show t = 0 ↔ al _ (i + 1).toInt.toNat = false; rw [show (i + 1).toInt.toNat = i.toInt.toNat + 1 by omega]; exact ht⟩ (by show 7 - (i + 1).toInt.toNat < 7 - i.toInt.toNat; omega)
      have al1 : al (wmi tx q e k) (i.toInt.toNat + 1) = (al (wmi tx q e k) i.toInt.toNat && wmi tx q e k i.toInt.toNat) := rfl
      unfold x_X2_wordOf_b51 x_X2_wordOf_b79
      by_cases c2 : s = 0
      · rw [if_pos c2]
        refine step 0 ⟨fun _ => ?_, fun _ => rfl⟩
        rw [al1, i7.mp c2]; rfl
      · rw [if_neg c2]
        have k6 : (y3 * 6 + i).toInt = ((6 * k + i.toInt.toNat : Nat) : Int) := by
          have h6 : (6 : Int32).toInt = 6 := by decide
          have m6 : (y3 * 6).toInt = 6 * (k : Int) := by rw [i_mul, hkI, h6] <;> (try rw [hkI, h6]) <;> omega
          rw [i_add, m6] <;> omega
        rw [c_char hk (show i.toInt.toNat < 6 by omega) k6]
        simp only [Option.bind_some]
        have tr : al (wmi tx q e k) i.toInt.toNat = true := by
          cases hc : al (wmi tx q e k) i.toInt.toNat with
          | true => rfl
          | false => exact absurd (i7.mpr hc) c2
        have ew : wmi tx q e k i.toInt.toNat = decide (l = Wd k i.toInt.toNat) := by unfold wmi; rw [← el]
        by_cases c3 : l = Wd k i.toInt.toNat
        · rw [if_pos c3]
          refine step 1 ⟨fun z => absurd z one0, fun z => ?_⟩
          rw [al1, tr, ew, decide_eq_true c3] at z
          cases z
        · rw [if_neg c3]
          refine step 0 ⟨fun _ => ?_, fun _ => rfl⟩
          rw [al1, tr, ew, decide_eq_false c3]; rfl
    by_cases c2 : q + i.toInt.toNat < e
    · rw [if_neg (by omega), if_pos (show inb (y1 + i) 160 = true from i_inb.mpr ⟨by omega, by omega⟩), show (y1 + i).toNatClampNeg = q + i.toInt.toNat by rw [i_nat, ai]; rfl, (h3 _ (by omega)).1]
      exact go _ (by rw [if_pos c2])
    · rw [if_pos (by omega)]
      exact go _ (by rw [if_neg c2])
theorem c_wordOf {N : Nat} (hN : 300 < N) {g : Sg} {tx : Nat → Int32} {sz q e : Nat} (h : CT g tx sz) (hqe : q ≤ e) (he : e ≤ sz) {a b : Int32} (ha : a.toInt = q) (hb : b.toInt = e) : ∃ c, x_X2_wordOf N a b g = some (c, g) ∧ ((∃ k : Nat, k < 12 ∧ wm tx q e k ∧ c.toInt = k) ∨ ((∀ k : Nat, k < 12 → ¬ wm tx q e k) ∧ c = 20)) := by
  have h160 := h.2.1
  have ed : (b - a).toInt = (e : Int) - q := by rw [i_sub, hb, ha] <;> omega
  have n6 : (6 : Int32).toInt = 6 := by decide
  unfold x_X2_wordOf
  obtain ⟨⟨c, G⟩, t1, t2, t3⟩ := lp_tot (F := x_X2_wordOf_B2 N) (fun x => 13 - x.2.2.1.toInt.toNat) (fun x => x.1 = a ∧ x.2.1 = b ∧ x.2.2.2 = g ∧ ∃ k : Nat, x.2.2.1.toInt = k ∧ k ≤ 12 ∧ ∀ m : Nat, m < k → ¬ wm tx q e m) (fun _ r => r.2 = g ∧ ((∃ k : Nat, k < 12 ∧ wm tx q e k ∧ r.1.toInt = k) ∨ ((∀ k : Nat, k < 12 → ¬ wm tx q e k) ∧ r.1 = 20))) (by
    intro hh ⟨y1, y2, kI, X⟩ ⟨j1, j2, j3, k, j4, j5, j6⟩ ih
    have i1 : y1 = a := j1
    have i2 : y2 = b := j2
    have i3 : X = g := j3
    have i4 : kI.toInt = k := j4
    clear j1 j2 j3 j4
    subst i1; subst i2; subst i3
    unfold x_X2_wordOf_B2
    simp only [i_le, i_lt, Int32.reduceToInt]
    rw [ed, i4]
    by_cases c1 : (12 : Int) ≤ k
    · rw [if_pos c1]
      exact ⟨_, rfl, rfl, Or.inr ⟨fun m hm => j6 m (by omega), rfl⟩⟩
    · rw [if_neg c1]
      by_cases c2 : (6 : Int) < (e : Int) - q
      · rw [if_pos c2]
        exact ⟨_, rfl, rfl, Or.inr ⟨fun m _ w => by have := w.1; omega, rfl⟩⟩
      · rw [if_neg c2]
        have wa : al (wmi tx q e k) 6 = true ↔ wm tx q e k := by
          rw [al_iff]
          constructor
          · intro w
            exact ⟨by omega, fun i hi => of_decide_eq_true (w i hi)⟩
          · intro w i hi
            exact decide_eq_true (w.2 i hi)
        have e5 := inc1 (x := kI) (by omega)
        refine c_wdRow hN h hqe he (show k < 12 by omega) ha hb i4 (fun w => ⟨rfl, Or.inl ⟨k, by omega, wa.mp w, i4⟩⟩) (fun w => ?_)
        exact ih (y1, y2, kI + 1, X) ⟨rfl, rfl, rfl, k + 1, by show (kI + 1).toInt = _; omega, by omega, fun m hm => by
          by_cases d : m = k
          · rw [d]; exact fun z => by rw [wa.mpr z] at w; cases w
          · exact j6 m (by omega)⟩ (by show 13 - (kI + 1).toInt.toNat < 13 - kI.toInt.toNat; omega)) N (a, b, 0, g) ⟨rfl, rfl, rfl, 0, rfl, by omega, fun m hm => absurd hm (Nat.not_lt_zero m)⟩ (by show 13 - _ < N; omega)
  have t2 : G = g := t2
  subst t2
  exact ⟨c, t1, t3⟩
theorem c_tokenAt {N : Nat} (hN : 300 < N) {g : Sg} {tx : Nat → Int32} {sz q : Nat} (h : CT g tx sz) (hq : q < sz) {a : Int32} (ha : a.toInt = q) (h2 : ¬ so (tx q) = 2) : ∃ c, x_X2_tokenAt N a (Int32.ofNat (so (tx q))) g = some (c, g) ∧ TC tx sz q c := by
  obtain ⟨h1, h160, h3⟩ := id h
  have s4 := so_c (tx q)
  have an : a.toNatClampNeg = q := by rw [i_nat, ha]; rfl
  unfold x_X2_tokenAt
  by_cases c3 : so (tx q) = 3
  · rw [c3, if_pos (show Int32.ofNat 3 = 3 from rfl), if_pos (show inb a 160 = true from i_inb.mpr ⟨by omega, by omega⟩), an, (h3 q hq).1]
    obtain ⟨r, r1, r2⟩ := c_signs hN (tx q) (h3 q hq).2 g
    rw [r1]
    simp only [Option.bind_some, i_le]
    have z0 : (0 : Int32).toInt = 0 := by decide
    rw [z0]
    rcases r2 with ⟨k, k1, k2, k3⟩ | ⟨k1, k2⟩
    · rw [if_pos (by omega)]
      refine ⟨_, rfl, Or.inl ⟨c3, Or.inl ⟨k, k1, k2, ?_⟩⟩⟩
      have h12 : (12 : Int32).toInt = 12 := by decide
      rw [i_add, h12, k3] <;> (try rw [h12, k3]) <;> omega
    · rw [if_neg (by rw [k2]; decide)]
      exact ⟨20, rfl, Or.inl ⟨c3, Or.inr ⟨k1, rfl⟩⟩⟩
  · have e4 : (Int32.ofNat (so (tx q))).toInt = so (tx q) := ofn (by omega)
    have n3 : ¬ Int32.ofNat (so (tx q)) = 3 := fun z => by
      rw [i_eq, e4] at z
      have : (3 : Int32).toInt = 3 := by decide
      omega
    rw [if_neg n3]
    obtain ⟨⟨c, G⟩, t1, t2, t3⟩ := lp_tot (F := x_X2_tokenAt_B34 N) (fun x => 200 - x.2.2.1.toInt.toNat) (fun x => x.1 = a ∧ x.2.1 = Int32.ofNat (so (tx q)) ∧ x.2.2.2 = g ∧ ∃ e : Nat, x.2.2.1.toInt = e ∧ q ≤ e ∧ e ≤ sz ∧ ∀ j, q ≤ j → j < e → so (tx j) = so (tx q)) (fun _ r => r.2 = g ∧ TC tx sz q r.1) (by
      intro hh ⟨y1, y2, eI, X⟩ ⟨j1, j2, j3, e, j4, j5, j6, j7⟩ ih
      have i1 : y1 = a := j1
      have i2 : y2 = Int32.ofNat (so (tx q)) := j2
      have i3 : X = g := j3
      have i4 : eI.toInt = e := j4
      clear j1 j2 j3 j4
      subst i1; subst i3
      have fin : (e = sz ∨ ¬ so (tx e) = so (tx q)) → ∃ r, x_X2_tokenAt_b61 N y1 y2 eI X = some r ∧ r.2 = X ∧ TC tx sz q r.1 := by
        intro hend
        unfold x_X2_tokenAt_b61
        rw [i2]
        by_cases c1 : so (tx q) = 1
        · rw [c1, if_pos (show Int32.ofNat 1 = 1 from rfl)]
          rw [c1] at j7 hend
          have run : Run tx sz 1 q e := ⟨j5, j6, j7, hend⟩
          obtain ⟨c, d1, d2⟩ := c_numberOf hN h run ha i4
          rw [d1]
          exact ⟨_, rfl, rfl, Or.inr (Or.inl ⟨c1, e, run, d2⟩)⟩
        · have c0 : so (tx q) = 0 := by omega
          rw [c0, if_neg (by decide)]
          rw [c0] at j7 hend
          have run : Run tx sz 0 q e := ⟨j5, j6, j7, hend⟩
          obtain ⟨c, d1, d2⟩ := c_wordOf hN h j5 j6 ha i4
          rw [d1]
          exact ⟨_, rfl, rfl, Or.inr (Or.inr ⟨c0, e, run, d2⟩)⟩
      unfold x_X2_tokenAt_B34
      simp only [i_le]
      rw [h1, i4]
      by_cases d : (sz : Int) ≤ e
      · rw [if_pos d]; exact fin (Or.inl (by omega))
      · rw [if_neg d, if_pos (show inb eI 160 = true from i_inb.mpr ⟨by omega, by omega⟩), show eI.toNatClampNeg = e by rw [i_nat, i4]; rfl, (h3 e (by omega)).1, c_sortOf]
        simp only [Option.bind_some]
        have se := so_c (tx e)
        have ee : (Int32.ofNat (so (tx e))).toInt = so (tx e) := ofn (by omega)
        by_cases c5 : Int32.ofNat (so (tx e)) = y2
        · rw [if_pos c5]
          simp only [lt]
          have e5 := inc1 (x := eI) (by omega)
          refine ih (y1, y2, eI + 1, X) ⟨rfl, i2, rfl, e + 1, by show (eI + 1).toInt = _; omega, by omega, by omega, fun j ja jb => ?_⟩ (by show 200 - (eI + 1).toInt.toNat < 200 - eI.toInt.toNat; omega)
          by_cases f : j = e
          · rw [f]
            rw [i2, i_eq, ee, e4] at c5
            omega
          · exact j7 j ja (by omega)
        · rw [if_neg c5]
          exact fin (Or.inr (fun z => c5 (by rw [i2, z])))) N (a, Int32.ofNat (so (tx q)), a, g) ⟨rfl, rfl, rfl, q, ha, Nat.le_refl _, by omega, fun j ja jb => by omega⟩ (by show 200 - _ < N; omega)
    have t2 : G = g := t2
    subst t2
    exact ⟨c, t1, t3⟩
/-- where a token starts -/
def stb (tx : Nat → Int32) (p : Nat) : Bool := decide (¬ so (tx p) = 2 ∧ ¬ (0 < p ∧ ¬ so (tx p) = 3 ∧ so (tx p) = so (tx (p - 1))))
def LX (g : Sg) (tx : Nat → Int32) (sz : Nat) : Prop := (∀ p : Nat, p < sz → stb tx p = true → TC tx sz p (g 22 (cn (stb tx) p)) ∧ (g 23 (cn (stb tx) p)).toInt = p) ∧ g 22 (cn (stb tx) sz) = 21 ∧ (g 23 (cn (stb tx) sz)).toInt = sz
theorem cn_mono {P : Nat → Bool} {m n : Nat} (h : m ≤ n) : cn P m ≤ cn P n := by
  have := cn_a P m (n - m)
  rw [show m + (n - m) = n by omega] at this
  omega
theorem c_split {N : Nat} (hN : 300 < N) {g : Sg} {tx : Nat → Int32} {sz : Nat} (h : CT g tx sz) : ∃ G, x_X2_split N g = some G ∧ (∀ j, ¬ (j = 22 ∨ j = 23) → G j = g j) ∧ LX G tx sz := by
  obtain ⟨h1, h160, h3⟩ := id h
  unfold x_X2_split
  refine lp_tot (F := x_X2_split_B4 N) (fun x => 200 - x.2.1.toInt.toNat) (fun x => ∃ p : Nat, x.2.1.toInt = p ∧ p ≤ sz ∧ x.1.toInt = cn (stb tx) p ∧ (∀ j, ¬ (j = 22 ∨ j = 23) → x.2.2 j = g j) ∧ ∀ q : Nat, q < p → stb tx q = true → TC tx sz q (x.2.2 22 (cn (stb tx) q)) ∧ (x.2.2 23 (cn (stb tx) q)).toInt = q) (fun _ G => (∀ j, ¬ (j = 22 ∨ j = 23) → G j = g j) ∧ LX G tx sz) ?_ N (0, 0, g) ⟨0, rfl, Nat.zero_le _, rfl, fun _ _ => rfl, fun q hq => absurd hq (Nat.not_lt_zero q)⟩ (by show 200 - _ < N; omega)
  intro hh ⟨n, at', X⟩ ⟨p, j1, j2, j3, j4, j5⟩ ih
  have i1 : at'.toInt = p := j1
  have i3 : n.toInt = cn (stb tx) p := j3
  have i4 : ∀ j, ¬ (j = 22 ∨ j = 23) → X j = g j := j4
  have i5 : ∀ q : Nat, q < p → stb tx q = true → TC tx sz q (X 22 (cn (stb tx) q)) ∧ (X 23 (cn (stb tx) q)).toInt = q := j5
  clear j1 j3 j4 j5
  have hX : CT X tx sz := ⟨by rw [i4 3 (by omega)]; exact h1, h160, fun q hq => by rw [i4 21 (by omega)]; exact h3 q hq⟩
  have hl := cn_le (stb tx) p
  unfold x_X2_split_B4
  simp only [i_le]
  rw [hX.1, i1]
  have b161 : inb n 161 = true := i_inb.mpr ⟨by omega, by omega⟩
  have nn : n.toNatClampNeg = cn (stb tx) p := by rw [i_nat, i3]; rfl
  by_cases c1 : (sz : Int) ≤ p
  · rw [if_pos c1, if_pos b161]
    simp only [lt]
    rw [if_pos b161, nn]
    have ep : p = sz := by omega
    have hlt : ∀ q, q < sz → stb tx q = true → cn (stb tx) q < cn (stb tx) sz := fun q hq hs => by
      have e1 : cn (stb tx) (q + 1) = cn (stb tx) q + 1 := by
        show cn (stb tx) q + (if stb tx q then 1 else 0) = _
        rw [if_pos hs]
      have := cn_mono (P := stb tx) (show q + 1 ≤ sz by omega)
      omega
    refine ⟨_, rfl, fun j hj => ?_, fun q hq hs => ?_, ?_, ?_⟩
    · rw [up_n _ _ (by omega), up_n _ _ (by omega)]; exact i4 j hj
    · have hl2 := hlt q hq hs
      obtain ⟨f1, f2⟩ := i5 q (by omega) hs
      refine ⟨?_, ?_⟩
      · show TC tx sz q (upd (X 22) (cn (stb tx) p) 21 (cn (stb tx) q))
        rw [upd_n _ _ (by rw [ep]; omega)]; exact f1
      · show (upd (X 23) (cn (stb tx) p) _ (cn (stb tx) q)).toInt = q
        rw [upd_n _ _ (by rw [ep]; omega)]; exact f2
    · show upd (X 22) (cn (stb tx) p) 21 (cn (stb tx) sz) = 21
      rw [ep, upd_s]
    · show (upd (X 23) (cn (stb tx) p) (X 3 1) (cn (stb tx) sz)).toInt = sz
      rw [ep, upd_s]; exact hX.1
  · have hp : p < sz := by omega
    have e5 := inc1 (x := at') (by omega)
    have an : at'.toNatClampNeg = p := by rw [i_nat, i1]; rfl
    rw [if_neg c1, if_pos (show inb at' 160 = true from i_inb.mpr ⟨by omega, by omega⟩), an, (hX.2.2 p hp).1, c_sortOf]
    simp only [Option.bind_some]
    have s4 := so_c (tx p)
    have es : (Int32.ofNat (so (tx p))).toInt = so (tx p) := ofn (by omega)
    have cs : cn (stb tx) (p + 1) = cn (stb tx) p + (if stb tx p then 1 else 0) := rfl
    -- no token here
    have skip : stb tx p = false → ∃ r, x_X2_split_b85 N hh n at' X = some r ∧ (∀ j, ¬ (j = 22 ∨ j = 23) → r j = g j) ∧ LX r tx sz := by
      intro hs
      unfold x_X2_split_b85
      simp only [lt]
      refine ih (n, at' + 1, X) ⟨p + 1, by show (at' + 1).toInt = _; omega, by omega, by show n.toInt = _; rw [cs, hs, if_neg (by decide)]; exact i3, i4, fun q hq hq2 => ?_⟩ (by show 200 - (at' + 1).toInt.toNat < 200 - at'.toInt.toNat; omega)
      by_cases d : q = p
      · rw [d, hs] at hq2; cases hq2
      · exact i5 q (by omega) hq2
    have b51 : ∀ t : Int32, (stb tx p = true ↔ ¬ so (tx p) = 2 ∧ t = 0) → ∃ r, x_X2_split_b51 N hh n at' (Int32.ofNat (so (tx p))) t X = some r ∧ (∀ j, ¬ (j = 22 ∨ j = 23) → r j = g j) ∧ LX r tx sz := by
      intro t ht
      unfold x_X2_split_b51
      have i2 : (2 : Int32).toInt = 2 := by decide
      by_cases c2 : so (tx p) = 2
      · rw [if_pos (show Int32.ofNat (so (tx p)) = 2 by rw [c2]; rfl)]
        exact skip (Bool.eq_false_iff.mpr (fun z => (ht.mp z).1 c2))
      · rw [if_neg (fun z => by rw [i_eq, es, i2] at z; omega)]
        by_cases c4 : t = 0
        · rw [if_pos c4]
          obtain ⟨c, d1, d2⟩ := c_tokenAt hN hX hp i1 c2
          have hs := ht.mpr ⟨c2, c4⟩
          rw [d1]
          simp only [Option.bind_some, lt]
          rw [if_pos b161, if_pos b161, nn]
          have e6 := inc1 (x := n) (by omega)
          unfold x_X2_split_b85
          simp only [lt]
          refine ih (n + 1, at' + 1, _) ⟨p + 1, by show (at' + 1).toInt = _; omega, by omega, by show (n + 1).toInt = _; rw [cs, hs, if_pos rfl]; omega, fun j hj => ?_, fun q hq hq2 => ?_⟩ (by show 200 - (at' + 1).toInt.toNat < 200 - at'.toInt.toNat; omega)
          · show up (up X 22 _) 23 _ j = _
            rw [up_n _ _ (by omega), up_n _ _ (by omega)]; exact i4 j hj
          · show TC tx sz q (upd (X 22) (cn (stb tx) p) c (cn (stb tx) q)) ∧ (upd (X 23) (cn (stb tx) p) at' (cn (stb tx) q)).toInt = q
            by_cases d : q = p
            · rw [d, upd_s, upd_s]; exact ⟨d2, i1⟩
            · have hlt : cn (stb tx) q < cn (stb tx) p := by
                have e1 : cn (stb tx) (q + 1) = cn (stb tx) q + 1 := by
                  show cn (stb tx) q + (if stb tx q then 1 else 0) = _
                  rw [if_pos hq2]
                have := cn_mono (P := stb tx) (show q + 1 ≤ p by omega)
                omega
              rw [upd_n _ _ (by omega), upd_n _ _ (by omega)]
              exact i5 q (by omega) hq2
        · rw [if_neg c4]
          exact skip (Bool.eq_false_iff.mpr (fun z => c4 (ht.mp z).2))
    unfold x_X2_split_b50
    have z0 : (0 : Int32).toInt = 0 := by decide
    have i3' : (3 : Int32).toInt = 3 := by decide
    have one0 : ¬ (1 : Int32) = 0 := by decide
    rw [z0]
    by_cases d1 : (p : Int) ≤ 0
    · rw [if_pos d1]
      refine b51 0 ?_
      unfold stb
      rw [decide_eq_true_eq]
      exact ⟨fun w => ⟨w.1, rfl⟩, fun w => ⟨w.1, fun z => by omega⟩⟩
    · rw [if_neg d1]
      by_cases d2 : so (tx p) = 3
      · rw [if_pos (show Int32.ofNat (so (tx p)) = 3 by rw [d2]; rfl)]
        refine b51 0 ?_
        unfold stb
        rw [decide_eq_true_eq]
        exact ⟨fun w => ⟨w.1, rfl⟩, fun w => ⟨w.1, fun z => z.2.1 d2⟩⟩
      · rw [if_neg (fun z => by rw [i_eq, es, i3'] at z; omega)]
        have em : (at' - 1).toInt = ((p - 1 : Nat) : Int) := by rw [sub_l i1 (k := 1) (by decide) (by omega)]; omega
        rw [if_pos (show inb (at' - 1) 160 = true from i_inb.mpr ⟨by omega, by omega⟩), show (at' - 1).toNatClampNeg = p - 1 by rw [i_nat, em]; rfl, (hX.2.2 (p - 1) (by omega)).1, c_sortOf]
        simp only [Option.bind_some]
        have sp := so_c (tx (p - 1))
        have ep : (Int32.ofNat (so (tx (p - 1)))).toInt = so (tx (p - 1)) := ofn (by omega)
        by_cases d3 : so (tx p) = so (tx (p - 1))
        · rw [if_pos (by rw [d3])]
          refine b51 1 ?_
          unfold stb
          rw [decide_eq_true_eq]
          exact ⟨fun w => absurd ⟨by omega, d2, d3⟩ w.2, fun w => absurd w.2 one0⟩
        · rw [if_neg (fun z => by rw [i_eq, es, ep] at z; omega)]
          refine b51 0 ?_
          unfold stb
          rw [decide_eq_true_eq]
          exact ⟨fun w => ⟨w.1, rfl⟩, fun w => ⟨w.1, fun z => d3 z.2.2⟩⟩
