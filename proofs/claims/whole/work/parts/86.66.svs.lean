/-! who is served by a set of sizes -/
def SV (tw kd nb rn : Nat → Int32) (m s : Nat) : Int32 := ps tw (fun f => an (fun z => s.testBit z && fz kd nb rn (20 * m + z) f) 20) 100
theorem ps_bd {f : Nat → Int32} {P : Nat → Bool} (h : ∀ i : Nat, i < 100 → 0 ≤ (f i).toInt ∧ (f i).toInt ≤ 9) : ∀ n : Nat, n ≤ 100 → 0 ≤ (ps f P n).toInt ∧ (ps f P n).toInt ≤ 9 * n := by
  intro n
  induction n with
  | zero => intro _; show 0 ≤ (0 : Int32).toInt ∧ (0 : Int32).toInt ≤ _; simp only [Int32.reduceToInt]; omega
  | succ n ih =>
    intro hn
    obtain ⟨h1, h2⟩ := ih (by omega)
    obtain ⟨h3, h4⟩ := h n (by omega)
    rw [ps_1]
    by_cases c : P n = true
    · rw [if_pos c, i_add (by omega) (by omega)]; omega
    · rw [if_neg c, Int32.add_zero]; omega
theorem ps_or {f : Nat → Int32} {P Q R : Nat → Bool} : ∀ n, (∀ i, i < n → (R i = true ↔ P i = true ∨ Q i = true) ∧ ¬ (P i = true ∧ Q i = true)) → ps f R n = ps f P n + ps f Q n := by
  intro n
  induction n with
  | zero => intro _; rfl
  | succ n ih =>
    intro h
    have e := ih (fun i hi => h i (by omega))
    obtain ⟨h1, h2⟩ := h n (by omega)
    rw [ps_1, ps_1, ps_1, e]
    by_cases hp : P n = true
    · have hq : ¬ Q n = true := fun z => h2 ⟨hp, z⟩
      rw [if_pos (h1.mpr (Or.inl hp)), if_pos hp, if_neg hq, Int32.add_zero, Int32.add_assoc, Int32.add_assoc, Int32.add_comm (ps f Q n)]
    · by_cases hq : Q n = true
      · rw [if_pos (h1.mpr (Or.inr hq)), if_neg hp, if_pos hq, Int32.add_zero, Int32.add_assoc]
      · rw [if_neg (fun z => (h1.mp z).elim hp hq), if_neg hp, if_neg hq, Int32.add_zero, Int32.add_zero, Int32.add_zero]
theorem ln_up {k n r z z' : Int} (h0 : 0 ≤ z) (h : z ≤ z') : ln k n r z ≤ ln k n r z' := by
  unfold ln
  split
  · omega
  split
  · omega
  split
  · omega
  split <;> omega
theorem rc_up {kd nb rn : Nat → Int32} {m z z' : Nat} (a : Int) (h : z ≤ z') (h' : z' < 20) : rc kd nb rn (20 * m + z) a ≤ rc kd nb rn (20 * m + z') a := by
  have e1 : (20 * m + z) / 20 = m := by omega
  have e2 : (20 * m + z') / 20 = m := by omega
  have e3 : (20 * m + z) % 20 = z := by omega
  have e4 : (20 * m + z') % 20 = z' := by omega
  unfold rc Ln
  rw [e1, e2, e3, e4]
  have l := ln_up (k := (kd m).toInt) (n := (nb m).toInt) (r := (rn m).toInt) (z := z) (z' := z') (by omega) (by omega)
  split
  · omega
  split
  · omega
  · omega
theorem c_svs {N : Nat} (hN : 200 < N) {a s : Int32} {g : Sg} {mk : Int} (hR : Rg (g 12) (g 13) (g 14) mk) (hm : mk ≤ 5) (ha : 0 ≤ a.toInt ∧ a.toInt < mk) (hs : 0 ≤ s.toInt) : x_X7_servedBySet N a s g = some (SV (g 11) (g 12) (g 13) (g 14) a.toInt.toNat s.toInt.toNat, g) := by
  obtain ⟨M, hM⟩ : ∃ M, M = a.toInt.toNat := ⟨_, rfl⟩
  obtain ⟨B, hB⟩ : ∃ B : Nat → Bool, B = fun z => s.toInt.toNat.testBit z := ⟨_, rfl⟩
  obtain ⟨U, hU⟩ : ∃ U : Nat → Nat → Bool, U = fun k f => an (fun j => B (20 - k + j) && fz (g 12) (g 13) (g 14) (20 * M + (20 - k + j)) f) k := ⟨_, rfl⟩
  have hk : 0 ≤ (g 12 M).toInt ∧ (g 12 M).toInt ≤ 5 := (hR M (by omega)).1
  have hkz : ∀ z, z < 20 → 0 ≤ (g 12 ((20 * M + z) / 20)).toInt ∧ (g 12 ((20 * M + z) / 20)).toInt ≤ 5 := fun z hz => by rw [show (20 * M + z) / 20 = M by omega]; exact hk
  unfold x_X7_servedBySet
  -- who is served by the sizes from 20 - k on
  have hUi : ∀ (k f : Nat), k ≤ 20 → (U k f = true ↔ ∃ z, 20 - k ≤ z ∧ z < 20 ∧ B z = true ∧ fz (g 12) (g 13) (g 14) (20 * M + z) f = true) := by
    intro k f hk20
    rw [hU]
    show an _ k = true ↔ _
    rw [an_iff]
    constructor
    · rintro ⟨j, hj, hp⟩
      rw [Bool.and_eq_true] at hp
      exact ⟨20 - k + j, by omega, by omega, hp.1, hp.2⟩
    · rintro ⟨z, h1, h2, h3, h4⟩
      refine ⟨z - (20 - k), by omega, ?_⟩
      rw [Bool.and_eq_true, show 20 - k + (z - (20 - k)) = z by omega]
      exact ⟨h3, h4⟩
  have st0 : (0 : Int32) = ps (g 11) (U 0) 100 := by
    rw [ps_no (f := g 11) (P := U 0) 0 100 (by omega) (fun f _ _ => by rw [hU]; rfl)]
    rfl
  have st1 : 0 ≤ (100 : Int32).toInt ∧ (100 : Int32).toInt ≤ 100 := by decide
  have st2 : ∀ f : Nat, f < 100 → U 0 f = true → (100 : Int32).toInt ≤ (f : Int) := by
    intro f hf hu
    rw [hU] at hu
    cases hu
  have h100 : (100 : Int32).toInt = 100 := by decide
  have st3 : ∀ (z f : Nat), f < 100 → z + 0 < 20 → (100 : Int32).toInt ≤ (f : Int) → (f : Int) ≤ rc (g 12) (g 13) (g 14) (20 * M + z) 0 → U 0 f = true := by
    intro z f hf _ hl _
    omega
  have h19 : (19 : Int32).toInt = 19 := by decide
  have st4 : ((19 : Int32).toInt + 1).toNat < N := by omega
  obtain ⟨r, e, e2⟩ := lp_tot (F := x_X7_servedBySet_B10 N) (fun x => (x.2.2.2.2.1.toInt + 1).toNat) (fun x => x.1 = a ∧ x.2.1 = s ∧ x.2.2.2.2.2 = g ∧ ∃ k : Nat, k ≤ 20 ∧ x.2.2.2.2.1.toInt = 19 - (k : Int) ∧ x.2.2.1 = ps (g 11) (U k) 100 ∧ (0 ≤ x.2.2.2.1.toInt ∧ x.2.2.2.1.toInt ≤ 100) ∧ (∀ f : Nat, f < 100 → U k f = true → x.2.2.2.1.toInt ≤ f) ∧ ∀ (z f : Nat), f < 100 → z + k < 20 → x.2.2.2.1.toInt ≤ f → (f : Int) ≤ rc (g 12) (g 13) (g 14) (20 * M + z) 0 → U k f = true) (fun _ r => r = (ps (g 11) (U 20) 100, g)) (by
    intro hh ⟨y1, y2, p, lo, z, X⟩ ⟨j1, j2, j3, k, j4, j5, j6, j7, j8, j9⟩ ih
    have i1 : y1 = a := j1
    have i2 : y2 = s := j2
    have i3 : X = g := j3
    have i5 : z.toInt = 19 - (k : Int) := j5
    have i6 : p = ps (g 11) (U k) 100 := j6
    have i7 : 0 ≤ lo.toInt ∧ lo.toInt ≤ 100 := j7
    have i8 : ∀ f : Nat, f < 100 → U k f = true → lo.toInt ≤ f := j8
    have i9 : ∀ (z f : Nat), f < 100 → z + k < 20 → lo.toInt ≤ f → (f : Int) ≤ rc (g 12) (g 13) (g 14) (20 * M + z) 0 → U k f = true := j9
    clear j1 j2 j3 j5 j6 j7 j8 j9
    subst i1; subst i2; subst i3
    unfold x_X7_servedBySet_B10
    have z0 : (0 : Int32).toInt = 0 := by decide
    simp only [i_lt]
    rw [z0]
    by_cases c1 : z.toInt < 0
    · rw [if_pos c1]
      refine ⟨_, rfl, ?_⟩
      rw [i6, show k = 20 by omega]
    · rw [if_neg c1]
      obtain ⟨z', hz'⟩ : ∃ z' : Int32, z' = z + -1 := ⟨_, rfl⟩
      have ez : z'.toInt = z.toInt - 1 := by
        have en : (-1 : Int32).toInt = -1 := by decide
        rw [hz', i_add, en]
        · omega
        · rw [en]; omega
        · rw [en]; omega
      have hzn : z.toInt.toNat = 19 - k := by omega
      -- on to the next size
      have go : ∀ (p2 lo2 : Int32), p2 = ps (X 11) (U (k + 1)) 100 → (0 ≤ lo2.toInt ∧ lo2.toInt ≤ 100) → (∀ f : Nat, f < 100 → U (k + 1) f = true → lo2.toInt ≤ f) → (∀ (z f : Nat), f < 100 → z + (k + 1) < 20 → lo2.toInt ≤ f → (f : Int) ≤ rc (X 12) (X 13) (X 14) (20 * M + z) 0 → U (k + 1) f = true) → ∃ r, x_X7_servedBySet_b82 N hh y1 y2 p2 lo2 z X = some r ∧ r = (ps (X 11) (U 20) 100, X) := by
        intro p2 lo2 t1 t2 t3 t4
        unfold x_X7_servedBySet_b82
        rw [← hz']
        simp only [lt]
        exact ih (y1, y2, p2, lo2, z', X) ⟨rfl, rfl, rfl, k + 1, by omega, by show z'.toInt = 19 - ((k + 1 : Nat) : Int); omega, t1, t2, t3, t4⟩ (by show (z'.toInt + 1).toNat < (z.toInt + 1).toNat; omega)
      have e20 : ∀ f, (U (k + 1) f = true ↔ (B (19 - k) = true ∧ fz (X 12) (X 13) (X 14) (20 * M + (19 - k)) f = true) ∨ U k f = true) := by
        intro f
        rw [hUi (k + 1) f (by omega), hUi k f (by omega)]
        constructor
        · rintro ⟨q, h1, h2, h3, h4⟩
          by_cases c : q = 19 - k
          · subst c; exact Or.inl ⟨h3, h4⟩
          · exact Or.inr ⟨q, by omega, h2, h3, h4⟩
        · rintro (⟨h3, h4⟩ | ⟨q, h1, h2, h3, h4⟩)
          · exact ⟨19 - k, by omega, by omega, h3, h4⟩
          · exact ⟨q, by omega, h2, h3, h4⟩
      by_cases c2 : ((y2 >>> (z &&& 31)) &&& 1) = 1
      · rw [if_pos c2]
        rw [bit_i hs (by omega), hzn] at c2
        have hBz : B (19 - k) = true := by rw [hB]; exact c2
        simp only [lt]
        have f1 : (y1 * 20).toInt = 20 * y1.toInt := by rw [i_mul] <;> simp only [Int32.reduceToInt] <;> omega
        have f2 : (y1 * 20 + z).toInt = 20 * y1.toInt + z.toInt := by rw [i_add, f1] <;> omega
        have hx : 0 ≤ (y1 * 20 + z).toInt ∧ (y1 * 20 + z).toInt < 20 * mk := by rw [f2]; omega
        have hn : (y1 * 20 + z).toInt.toNat = 20 * M + (19 - k) := by rw [f2]; omega
        rw [c_least hR hm hx]
        simp only [Option.bind_some]
        rw [c_greatest hR hm hx, hn]
        simp only [Option.bind_some]
        have r0 := rc_b (kd := X 12) (nb := X 13) (rn := X 14) (x := 20 * M + (19 - k)) (a := 0)
        have r1 := rc_b (kd := X 12) (nb := X 13) (rn := X 14) (x := 20 * M + (19 - k)) (a := 1)
        have v0 := of_i (z := rc (X 12) (X 13) (X 14) (20 * M + (19 - k)) 0) (by omega) (by omega)
        have v1 := of_i (z := rc (X 12) (X 13) (X 14) (20 * M + (19 - k)) 1 + 1) (by omega) (by omega)
        have el : (lo - 1).toInt = lo.toInt - 1 := sub_l rfl (by decide) (by omega)
        have em := min_i (Int32.ofInt (rc (X 12) (X 13) (X 14) (20 * M + (19 - k)) 0)) (lo - 1)
        rw [v0, el] at em
        rw [c_people hN, v1, em]
        simp only [Option.bind_some]
        have fzr : ∀ f : Nat, f < 100 → (fz (X 12) (X 13) (X 14) (20 * M + (19 - k)) f = true ↔ rc (X 12) (X 13) (X 14) (20 * M + (19 - k)) 1 + 1 ≤ (f : Int) ∧ (f : Int) ≤ rc (X 12) (X 13) (X 14) (20 * M + (19 - k)) 0) := fun f hf => by
          rw [fz_rc (hkz _ (by omega)) hf, decide_eq_true_eq]
        have en := min_i lo (Int32.ofInt (rc (X 12) (X 13) (X 14) (20 * M + (19 - k)) 1 + 1))
        rw [v1] at en
        refine go _ _ ?_ (by omega) (fun f hf hu => ?_) (fun q f hf hq hl hg => ?_)
        · rw [i6]
          refine (ps_or 100 (fun f hf => ?_)).symm
          rw [e20 f, fzr f hf, decide_eq_true_eq]
          constructor
          · constructor
            · rintro (⟨_, h1, h2⟩ | h1)
              · by_cases c : lo.toInt ≤ f
                · exact Or.inl (i9 (19 - k) f hf (by omega) c h2)
                · exact Or.inr ⟨h1, by omega⟩
              · exact Or.inl h1
            · rintro (h1 | ⟨h1, h2⟩)
              · exact Or.inr h1
              · exact Or.inl ⟨hBz, h1, by omega⟩
          · rintro ⟨h1, h2, h3⟩
            have := i8 f hf h1
            omega
        · rw [e20 f, fzr f hf] at hu
          rcases hu with ⟨_, h1, h2⟩ | h1
          · omega
          · have := i8 f hf h1; omega
        · rw [e20 f, fzr f hf]
          by_cases c : lo.toInt ≤ f
          · exact Or.inr (i9 q f hf (by omega) c hg)
          · refine Or.inl ⟨hBz, by omega, ?_⟩
            have := rc_up (kd := X 12) (nb := X 13) (rn := X 14) (m := M) (z := q) (z' := 19 - k) 0 (by omega) (by omega)
            omega
      · rw [if_neg c2]
        rw [bit_i hs (by omega), hzn] at c2
        have hBz : ¬ B (19 - k) = true := by rw [hB]; exact c2
        have eU : ∀ f, U (k + 1) f = U k f := fun f => Bool.eq_iff_iff.mpr ((e20 f).trans ⟨fun w => w.elim (fun w => absurd w.1 hBz) id, Or.inr⟩)
        refine go p lo ?_ i7 (fun f hf hu => i8 f hf (by rw [← eU f]; exact hu)) (fun q f hf hq hl hg => by rw [eU f]; exact i9 q f hf (by omega) hl hg)
        rw [i6]
        exact ps_congr 100 (fun f _ => ⟨(eU f).symm, fun _ => rfl⟩)) N (a, s, 0, 100, 19, g) ⟨rfl, rfl, rfl, 0, by omega, rfl, st0, st1, st2, st3⟩ st4
  rw [e, e2]
  unfold SV
  refine congrArg (fun w => some (w, g)) (ps_congr 100 (fun f _ => ⟨?_, fun _ => rfl⟩))
  rw [hU, hB, ← hM]
  refine an_c 20 (fun j _ => ?_)
  show (_ && _) = (_ && _)
  rw [show 20 - 20 + j = j by omega]
