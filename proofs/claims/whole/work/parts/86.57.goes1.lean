/-! in how many goes -/
def AF (kd nb rn sk : Nat → Int32) (n : Nat) (P : Nat → Bool) : Bool := an (fun x => Sb sk x && an (fun f => P f && fz kd nb rn x f) 100) n
def FT (kd nb rn sk : Nat → Int32) (n : Nat) (P : Nat → Bool) : Option Nat := ft (Sb sk) (AL kd nb rn P) n
def GO (kd nb rn sk : Nat → Int32) (n : Nat) : Nat → (Nat → Bool) → Nat → Int
  | 0, _, _ => -1
  | d + 1, P, f => if AF kd nb rn sk n P = true then (match FT kd nb rn sk n P with | none => -1 | some x => if Sy kd nb rn x f = 0 then 20 - d else GO kd nb rn sk n d (fun q => P q && decide (Sy kd nb rn x q = Sy kd nb rn x f)) f) else -1
/-- two kinds of tables alike below n -/
def Ag (kd nb rn sk kd2 nb2 rn2 sk2 : Nat → Int32) (n : Nat) : Prop := ∀ x : Nat, x < n → Sb sk x = Sb sk2 x ∧ ∀ f : Int, Sy kd nb rn x f = Sy kd2 nb2 rn2 x f
theorem AF_c {kd nb rn sk kd2 nb2 rn2 sk2 : Nat → Int32} {n : Nat} (h : Ag kd nb rn sk kd2 nb2 rn2 sk2 n) {P Q : Nat → Bool} (hP : ∀ f, f < 100 → P f = Q f) : AF kd nb rn sk n P = AF kd2 nb2 rn2 sk2 n Q := by
  refine an_c n (fun x hx => ?_)
  rw [(h x hx).1, an_c (P := fun f => P f && fz kd nb rn x f) (Q := fun f => Q f && fz kd2 nb2 rn2 x f) 100 (fun f hf => ?_)]
  unfold fz
  rw [hP f hf, (h x hx).2]
theorem FT_c {kd nb rn sk kd2 nb2 rn2 sk2 : Nat → Int32} {n : Nat} (h : Ag kd nb rn sk kd2 nb2 rn2 sk2 n) {P Q : Nat → Bool} (hP : ∀ f, f < 100 → P f = Q f) : FT kd nb rn sk n P = FT kd2 nb2 rn2 sk2 n Q :=
  (ft_c n (fun i hi => ⟨(h i hi).1, fun _ => AL_c (fun f hf => ⟨hP f hf, (h i hi).2 f⟩)⟩)).1
theorem FT_lt {kd nb rn sk : Nat → Int32} {n : Nat} {P : Nat → Bool} {x : Nat} (h : FT kd nb rn sk n P = some x) : x < n ∧ Sb sk x = true := ft_lt h
theorem GO_c {kd nb rn sk kd2 nb2 rn2 sk2 : Nat → Int32} {n : Nat} (h : Ag kd nb rn sk kd2 nb2 rn2 sk2 n) : ∀ (d : Nat) (P Q : Nat → Bool) (f : Nat), (∀ f, f < 100 → P f = Q f) → GO kd nb rn sk n d P f = GO kd2 nb2 rn2 sk2 n d Q f := by
  intro d
  induction d with
  | zero => intro P Q f _; rfl
  | succ d ih =>
    intro P Q f hP
    unfold GO
    rw [← AF_c h hP, ← FT_c h hP]
    by_cases c : AF kd nb rn sk n P = true
    · rw [if_pos c, if_pos c]
      cases hf : FT kd nb rn sk n P with
      | none => rfl
      | some x =>
        have hx := (FT_lt hf).1
        show (if Sy kd nb rn x f = 0 then _ else _) = (if Sy kd2 nb2 rn2 x f = 0 then _ else _)
        rw [(h x hx).2]
        by_cases c2 : Sy kd2 nb2 rn2 x f = 0
        · rw [if_pos c2, if_pos c2]
        · rw [if_neg c2, if_neg c2]
          refine ih _ _ f (fun q hq => ?_)
          show (P q && _) = (Q q && _)
          rw [hP q hq, (h x hx).2]
    · rw [if_neg c, if_neg c]
theorem Ag_r (kd nb rn sk : Nat → Int32) (n : Nat) : Ag kd nb rn sk kd nb rn sk n := fun _ _ => ⟨rfl, fun _ => rfl⟩
/-- nothing is split: never found -/
theorem GO_same {kd nb rn sk : Nat → Int32} {n : Nat} {P : Nat → Bool} {x : Nat} (hx : FT kd nb rn sk n P = some x) {f : Nat} (h0 : ¬ Sy kd nb rn x f = 0) (hs : ∀ q, q < 100 → P q = true → Sy kd nb rn x q = Sy kd nb rn x f) : ∀ d, GO kd nb rn sk n d P f = -1 := by
  intro d
  induction d with
  | zero => rfl
  | succ d ih =>
    unfold GO
    rw [hx]
    by_cases c : AF kd nb rn sk n P = true
    · rw [if_pos c]
      show (if Sy kd nb rn x f = 0 then _ else _) = _
      rw [if_neg h0]
      rw [GO_c (Ag_r kd nb rn sk n) d _ P f (fun q hq => ?_), ih]
      show (P q && decide (Sy kd nb rn x q = Sy kd nb rn x f)) = P q
      cases hp : P q with
      | false => rfl
      | true => rw [decide_eq_true (hs q hq hp)]; rfl
    · rw [if_neg c]
theorem cn_sub {P Q : Nat → Bool} : ∀ n, (∀ i, i < n → Q i = true → P i = true) → cn Q n ≤ cn P n ∧ (cn Q n = cn P n → ∀ i, i < n → P i = Q i) := by
  intro n
  induction n with
  | zero => intro _; exact ⟨Nat.le_refl 0, fun _ i hi => absurd hi (Nat.not_lt_zero i)⟩
  | succ n ih =>
    intro h
    obtain ⟨h1, h2⟩ := ih (fun i hi => h i (by omega))
    have hn := h n (by omega)
    show cn Q n + (if Q n then 1 else 0) ≤ cn P n + (if P n then 1 else 0) ∧ (cn Q n + (if Q n then 1 else 0) = cn P n + (if P n then 1 else 0) → _)
    cases hp : P n <;> cases hq : Q n
    · refine ⟨h1, fun e i hi => ?_⟩
      by_cases c : i = n
      · subst c; rw [hp, hq]
      · exact h2 e i (by omega)
    · rw [hp, hq] at hn; exact absurd (hn rfl) (by decide)
    · rw [if_neg (by decide), if_pos rfl]
      exact ⟨by omega, fun e => by omega⟩
    · rw [if_pos rfl]
      refine ⟨by omega, fun e i hi => ?_⟩
      by_cases c : i = n
      · subst c; rw [hp, hq]
      · exact h2 (by omega) i (by omega)
theorem ft_some {B : Nat → Bool} {h : Nat → Nat} {i : Nat} (hb : B i = true) : ∀ n, i < n → ft B h n ≠ none := by
  intro n
  induction n with
  | zero => intro hi; omega
  | succ n ih =>
    intro hi
    unfold ft
    by_cases c : B n = true
    · rw [if_pos c]
      cases ft B h n with
      | none => exact fun e => by cases e
      | some y =>
        show (if _ then _ else _) ≠ _
        split <;> exact fun e => by cases e
    · rw [if_neg c]
      by_cases e : i = n
      · subst e; exact absurd hb c
      · exact ih (by omega)
theorem AF_FT {kd nb rn sk : Nat → Int32} {n : Nat} {P : Nat → Bool} (h : AF kd nb rn sk n P = true) : ∃ x, FT kd nb rn sk n P = some x := by
  obtain ⟨i, hi, hp⟩ := (an_iff n).mp h
  rw [Bool.and_eq_true] at hp
  cases e : FT kd nb rn sk n P with
  | none => exact absurd e (ft_some hp.1 n hi)
  | some x => exact ⟨x, rfl⟩
theorem AF_ex {kd nb rn sk : Nat → Int32} {n : Nat} {P : Nat → Bool} (h : AF kd nb rn sk n P = true) : ∃ f, f < 100 ∧ P f = true := by
  obtain ⟨i, hi, hp⟩ := (an_iff n).mp h
  rw [Bool.and_eq_true] at hp
  obtain ⟨f, hf, hq⟩ := (an_iff 100).mp hp.2
  rw [Bool.and_eq_true] at hq
  exact ⟨f, hf, hq.1⟩
theorem c_anyFits {N : Nat} (hN : 200 < N) {g : Sg} {lo hi : Int} (hR : Rg (g 12) (g 13) (g 14) (g 1 4).toInt) (hm : 0 ≤ (g 1 4).toInt ∧ (g 1 4).toInt ≤ 5) (hk : Kg (g 15)) (hb : SpB lo hi) (e0 : (g 6 0).toInt = lo) (e1 : (g 6 1).toInt = hi) : x_X7_anyFits N g = some (b2 (AF (g 12) (g 13) (g 14) (g 15) (20 * (g 1 4).toInt.toNat) (inS lo hi) = true), g) := by
  obtain ⟨W, hW⟩ : ∃ W : Nat → Bool, W = fun x => Sb (g 15) x && an (fun f => inS lo hi f && fz (g 12) (g 13) (g 14) x f) 100 := ⟨_, rfl⟩
  unfold AF
  rw [← hW]
  unfold x_X7_anyFits
  obtain ⟨r, e, e2⟩ := lp_tot (F := x_X7_anyFits_B2 N) (fun x => 101 - x.1.toInt.toNat) (fun x => 0 ≤ x.1.toInt ∧ x.1.toInt ≤ 20 * (g 1 4).toInt ∧ x.2 = g ∧ an W x.1.toInt.toNat = false) (fun _ r => r = (b2 (an W (20 * (g 1 4).toInt.toNat) = true), g)) (by
    intro hh ⟨s, X⟩ ⟨j1, j2, j3, j4⟩ ih
    have i1 : 0 ≤ s.toInt := j1
    have i2 : s.toInt ≤ 20 * (g 1 4).toInt := j2
    have i3 : X = g := j3
    have i4 : an W s.toInt.toNat = false := j4
    clear j1 j2 j3 j4
    subst i3
    unfold x_X7_anyFits_B2
    obtain ⟨b, b1, b2'⟩ := c_shoes (N := N) (g := X) hm
    simp only [b1, Option.bind_some, i_le, b2']
    by_cases c1 : 20 * (X 1 4).toInt ≤ s.toInt
    · rw [if_pos c1]
      refine ⟨_, rfl, ?_⟩
      rw [show 20 * (X 1 4).toInt.toNat = s.toInt.toNat by omega, i4]; rfl
    · have e3 := inc1 (x := s) (by omega)
      have hs : 0 ≤ s.toInt ∧ s.toInt < 20 * (X 1 4).toInt := by omega
      rw [if_neg c1, c_stk hm hk hs]
      simp only [Option.bind_some, b2_0]
      have go : W s.toInt.toNat = false → ∃ r, x_X7_anyFits_b52 N hh s X = some r ∧ r = (b2 (an W (20 * (X 1 4).toInt.toNat) = true), X) := by
        intro hw
        unfold x_X7_anyFits_b52
        simp only [lt]
        refine ih (s + 1, X) ⟨by show 0 ≤ (s + 1).toInt; omega, by show (s + 1).toInt ≤ _; omega, rfl, ?_⟩ (by show 101 - (s + 1).toInt.toNat < 101 - s.toInt.toNat; omega)
        show an W (s + 1).toInt.toNat = false
        rw [show (s + 1).toInt.toNat = s.toInt.toNat + 1 by omega]
        show (an W s.toInt.toNat || W s.toInt.toNat) = false
        rw [i4, hw]; rfl
      by_cases c2 : Sb (X 15) s.toInt.toNat = true
      · rw [if_neg (fun z => z c2), c_least hR hm.2 hs]
        simp only [Option.bind_some]
        rw [c_greatest hR hm.2 hs]
        simp only [Option.bind_some]
        have r0 := rc_b (kd := X 12) (nb := X 13) (rn := X 14) (x := s.toInt.toNat) (a := 0)
        have r1 := rc_b (kd := X 12) (nb := X 13) (rn := X 14) (x := s.toInt.toNat) (a := 1)
        have v0 := of_i (z := rc (X 12) (X 13) (X 14) s.toInt.toNat 0) (by omega) (by omega)
        have v1 := of_i (z := rc (X 12) (X 13) (X 14) s.toInt.toNat 1 + 1) (by omega) (by omega)
        unfold x_X4_meets
        simp only [lt, i_lt, max_i, min_i, e0, e1, v0, v1]
        have eW : W s.toInt.toNat = true ↔ max lo (rc (X 12) (X 13) (X 14) s.toInt.toNat 1 + 1) ≤ min hi (rc (X 12) (X 13) (X 14) s.toInt.toNat 0) := by
          rw [hW]
          show (Sb (X 15) s.toInt.toNat && an _ 100) = true ↔ _
          rw [c2, Bool.true_and, an_iff]
          obtain ⟨l1, l2⟩ := hb
          constructor
          · rintro ⟨f, hf, hq⟩
            rw [Bool.and_eq_true, fz_rc (hR _ (by omega)).1 hf, decide_eq_true_eq] at hq
            unfold inS at hq
            rw [decide_eq_true_eq] at hq
            omega
          · intro hq
            refine ⟨(max lo (rc (X 12) (X 13) (X 14) s.toInt.toNat 1 + 1)).toNat, by omega, ?_⟩
            rw [Bool.and_eq_true, fz_rc (hR _ (by omega)).1 (by omega), decide_eq_true_eq]
            unfold inS
            rw [decide_eq_true_eq]
            omega
        by_cases c3 : W s.toInt.toNat = true
        · rw [if_neg (by rw [eW] at c3; omega)]
          simp only [Option.bind_some]
          rw [if_neg (by decide)]
          refine ⟨_, rfl, ?_⟩
          have : an W (20 * (X 1 4).toInt.toNat) = true := (an_iff _).mpr ⟨s.toInt.toNat, by omega, c3⟩
          rw [this]; rfl
        · rw [if_pos (by rw [eW] at c3; omega)]
          simp only [Option.bind_some]
          rw [if_pos trivial]
          exact go (Bool.eq_false_iff.mpr c3)
      · rw [if_pos c2]
        refine go ?_
        rw [hW]
        show (Sb (X 15) s.toInt.toNat && _) = false
        rw [Bool.eq_false_iff.mpr c2, Bool.false_and]) N (0, g) ⟨Int.le_refl 0, by show (0 : Int32).toInt ≤ _; simp only [Int32.reduceToInt]; omega, rfl, rfl⟩ (by show 101 - _ < N; omega)
  rw [e, e2]
