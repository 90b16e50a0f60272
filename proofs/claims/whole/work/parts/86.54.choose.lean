/-! the choice of the next shoe -/
def ft (B : Nat → Bool) (h : Nat → Nat) : Nat → Option Nat
  | 0 => none
  | n + 1 => if B n then (match ft B h n with | none => some n | some y => if h n < h y then some n else some y) else ft B h n
theorem ft_c {B B2 : Nat → Bool} {h h2 : Nat → Nat} : ∀ n, (∀ i, i < n → B i = B2 i ∧ (B i = true → h i = h2 i)) → ft B h n = ft B2 h2 n ∧ ∀ y, ft B h n = some y → y < n ∧ B y = true := by
  intro n
  induction n with
  | zero => intro _; exact ⟨rfl, fun y hy => by cases hy⟩
  | succ n ih =>
    intro hq
    obtain ⟨e1, e2⟩ := ih (fun i hi => hq i (by omega))
    obtain ⟨q1, q2⟩ := hq n (by omega)
    unfold ft
    rw [← e1, ← q1]
    by_cases hb : B n = true
    · rw [if_pos hb, if_pos hb]
      cases hf : ft B h n with
      | none =>
        refine ⟨rfl, fun y hy => ?_⟩
        have : n = y := Option.some.inj hy
        subst this
        exact ⟨by omega, hb⟩
      | some y =>
        obtain ⟨y1, y2⟩ := e2 y hf
        have r1 := q2 hb
        have r2 := (hq y (by omega)).2 y2
        show (if h n < h y then some n else some y) = (if h2 n < h2 y then some n else some y) ∧ ∀ z, (if h n < h y then some n else some y) = some z → _
        rw [← r1, ← r2]
        refine ⟨rfl, fun z hz => ?_⟩
        by_cases c : h n < h y
        · rw [if_pos c] at hz
          have : n = z := Option.some.inj hz
          subst this
          exact ⟨by omega, hb⟩
        · rw [if_neg c] at hz
          have : y = z := Option.some.inj hz
          subst this
          exact ⟨by omega, y2⟩
    · rw [if_neg hb, if_neg hb]
      exact ⟨rfl, fun y hy => ⟨by have := (e2 y hy).1; omega, (e2 y hy).2⟩⟩
theorem ft_lt {B : Nat → Bool} {h : Nat → Nat} {n y : Nat} (e : ft B h n = some y) : y < n ∧ B y = true := (ft_c (B2 := B) (h2 := h) n (fun _ _ => ⟨rfl, fun _ => rfl⟩)).2 y e
theorem ft_no {B : Nat → Bool} {h : Nat → Nat} : ∀ n, (∀ i, i < n → B i = false) → ft B h n = none := by
  intro n
  induction n with
  | zero => intro _; rfl
  | succ n ih =>
    intro hq
    unfold ft
    rw [if_neg (by rw [hq n (by omega)]; decide), ih (fun i hi => hq i (by omega))]
/-- what is chosen, as the two ints -/
def FtV (o : Option Nat) (h : Nat → Nat) (d r v : Int32) : Prop := (o = none → r = -1 ∧ v = d) ∧ ∀ y, o = some y → r.toInt = y ∧ v.toInt = h y
theorem FtV_n {h : Nat → Nat} {d : Int32} : FtV none h d (-1) d := ⟨fun _ => ⟨rfl, rfl⟩, fun y e => by cases e⟩
theorem FtV_s {h : Nat → Nat} {d r v : Int32} {y : Nat} (e1 : r.toInt = y) (e2 : v.toInt = h y) : FtV (some y) h d r v := ⟨fun e => by (cases e), fun z e => by (have : y = z := Option.some.inj e); subst this; exact ⟨e1, e2⟩⟩
theorem m_gRow {N : Nat} (hN : 200 < N) {h2 : Int32 × SM → Option SM} {R : SM → Prop} {a : Int32} {S : SM} {mk : Int} (h : Rg (S.1 5) (S.1 6) (S.1 7) mk) (hmk : mk ≤ 5) (hk : Kg (S.1 8)) (ha : 0 ≤ a.toInt ∧ a.toInt < 20 * mk) (nx : ∀ T : SM, (∀ j, j ≠ 9 → T.1 j = S.1 j) → (∀ q : Nat, (q < 100 * a.toInt.toNat ∨ 100 * a.toInt.toNat + 100 ≤ q) → T.1 9 q = S.1 9 q) → (Sb (S.1 8) a.toInt.toNat = true → ∀ f : Nat, f < 100 → T.1 9 (100 * a.toInt.toNat + f) = Int32.ofInt (Sy (S.1 5) (S.1 6) (S.1 7) a.toInt.toNat f)) → ∃ r, x_X8_gathers_b52 N h2 a T = some r ∧ R r) : ∃ r, lp (x_X8_gathers_B15 N h2) N (a, 0, S) = some r ∧ R r := by
  refine lp_tot (F := x_X8_gathers_B15 N h2) (fun x => 101 - x.2.1.toInt.toNat) (fun x => x.1 = a ∧ 0 ≤ x.2.1.toInt ∧ x.2.1.toInt ≤ 100 ∧ (∀ j, j ≠ 9 → x.2.2.1 j = S.1 j) ∧ (∀ q : Nat, (q < 100 * a.toInt.toNat ∨ 100 * a.toInt.toNat + 100 ≤ q) → x.2.2.1 9 q = S.1 9 q) ∧ ∀ f : Nat, f < x.2.1.toInt.toNat → x.2.2.1 9 (100 * a.toInt.toNat + f) = Int32.ofInt (Sy (S.1 5) (S.1 6) (S.1 7) a.toInt.toNat f)) (fun _ r => R r) ?_ N (a, 0, S) ⟨rfl, Int.le_refl 0, by show (0 : Int32).toInt ≤ 100; decide, fun _ _ => rfl, fun _ _ => rfl, fun q hq => absurd hq (Nat.not_lt_zero q)⟩ (by show 101 - _ < N; omega)
  intro hh ⟨y1, f, T⟩ ⟨j1, j2, j3, j4, j5, j6⟩ ih
  have i1 : y1 = a := j1
  have i2 : 0 ≤ f.toInt := j2
  have i3 : f.toInt ≤ 100 := j3
  have i4 : ∀ j, j ≠ 9 → T.1 j = S.1 j := j4
  have i5 : ∀ q : Nat, (q < 100 * a.toInt.toNat ∨ 100 * a.toInt.toNat + 100 ≤ q) → T.1 9 q = S.1 9 q := j5
  have i6 : ∀ q : Nat, q < f.toInt.toNat → T.1 9 (100 * a.toInt.toNat + q) = Int32.ofInt (Sy (S.1 5) (S.1 6) (S.1 7) a.toInt.toNat q) := j6
  clear j1 j2 j3 j4 j5 j6
  subst i1
  have q5 := i4 5 (by omega)
  have q6 := i4 6 (by omega)
  have q7 := i4 7 (by omega)
  have q8 := i4 8 (by omega)
  unfold x_X8_gathers_B15
  simp only [i_le, Int32.reduceToInt]
  by_cases c1 : 100 ≤ f.toInt
  · rw [if_pos c1]
    exact nx T i4 i5 (fun _ q hq => i6 q (by omega))
  · have e1 := inc1 (x := f) (by omega)
    rw [if_neg c1, m_stk (by rw [q8]; exact hk) (by omega), q8]
    simp only [Option.bind_some, b2_0]
    by_cases c2 : Sb (S.1 8) y1.toInt.toNat = true
    · have f1 : (100 * y1).toInt = 100 * y1.toInt := mul_l (by decide) rfl (by omega)
      have f2 : (100 * y1 + f).toInt = 100 * y1.toInt + f.toInt := by rw [i_add, f1] <;> omega
      have n2 : (100 * y1 + f).toNatClampNeg = 100 * y1.toInt.toNat + f.toInt.toNat := by rw [i_nat, f2]; omega
      rw [if_neg (fun z => z c2), m_saysOf (by rw [q5, q6, q7]; exact h) hmk ha (by omega), q5, q6, q7]
      simp only [Option.bind_some, lt]
      rw [if_pos (show inb (100 * y1 + f) 10000 = true from i_inb.mpr ⟨by omega, by omega⟩), n2]
      refine ih (y1, f + 1, _) ⟨rfl, by show 0 ≤ (f + 1).toInt; omega, by show (f + 1).toInt ≤ 100; omega, fun j hj => ?_, fun q hq => ?_, fun q hq => ?_⟩ (by show 101 - (f + 1).toInt.toNat < 101 - f.toInt.toNat; omega)
      · show up T.1 9 _ j = _
        rw [up_n _ _ hj]; exact i4 j hj
      · show upd (T.1 9) _ _ q = _
        rw [upd_n _ _ (by omega)]; exact i5 q hq
      · have hq : q < (f + 1).toInt.toNat := hq
        show upd (T.1 9) (100 * y1.toInt.toNat + f.toInt.toNat) _ (100 * y1.toInt.toNat + q) = _
        by_cases c3 : q = f.toInt.toNat
        · rw [c3, upd_s, show ((f.toInt.toNat : Nat) : Int) = f.toInt by omega]
        · rw [upd_n _ _ (by omega)]; exact i6 q (by omega)
    · rw [if_pos c2]
      exact nx T i4 i5 (fun z => absurd z c2)
/-- the table as it must be -/
def Tb (S : SM) (n : Nat) : Prop := ∀ x : Nat, x < n → Sb (S.1 8) x = true → ∀ f : Nat, f < 100 → S.1 9 (100 * x + f) = Int32.ofInt (Sy (S.1 5) (S.1 6) (S.1 7) x f)
theorem m_gathers {N : Nat} (hN : 200 < N) {S : SM} (h : Rg (S.1 5) (S.1 6) (S.1 7) (S.1 0 15).toInt) (hmk : 0 ≤ (S.1 0 15).toInt ∧ (S.1 0 15).toInt ≤ 5) (hk : Kg (S.1 8)) : ∃ T, x_X8_gathers N S = some T ∧ (∀ j, j ≠ 9 → T.1 j = S.1 j) ∧ Tb T (20 * (S.1 0 15).toInt.toNat) := by
  have em : (20 * S.1 0 15).toInt = 20 * (S.1 0 15).toInt := mul_l (by decide) rfl (by omega)
  unfold x_X8_gathers
  refine lp_tot (F := x_X8_gathers_B2 N) (fun x => 101 - x.1.toInt.toNat) (fun x => 0 ≤ x.1.toInt ∧ x.1.toInt ≤ 20 * (S.1 0 15).toInt ∧ (∀ j, j ≠ 9 → x.2.1 j = S.1 j) ∧ Tb x.2 x.1.toInt.toNat) (fun _ T => (∀ j, j ≠ 9 → T.1 j = S.1 j) ∧ Tb T (20 * (S.1 0 15).toInt.toNat)) ?_ N (0, S) ⟨Int.le_refl 0, by show (0 : Int32).toInt ≤ _; simp only [Int32.reduceToInt]; omega, fun _ _ => rfl, fun q hq => absurd hq (Nat.not_lt_zero q)⟩ (by show 101 - _ < N; omega)
  intro hh ⟨s, T⟩ ⟨j1, j2, j3, j4⟩ ih
  have i1 : 0 ≤ s.toInt := j1
  have i2 : s.toInt ≤ 20 * (S.1 0 15).toInt := j2
  have i3 : ∀ j, j ≠ 9 → T.1 j = S.1 j := j3
  have i4 : Tb T s.toInt.toNat := j4
  clear j1 j2 j3 j4
  have q0 := i3 0 (by omega)
  have q5 := i3 5 (by omega)
  have q6 := i3 6 (by omega)
  have q7 := i3 7 (by omega)
  have q8 := i3 8 (by omega)
  unfold x_X8_gathers_B2
  simp only [i_le]
  rw [q0, em]
  by_cases c1 : 20 * (S.1 0 15).toInt ≤ s.toInt
  · rw [if_pos c1]
    refine ⟨_, rfl, i3, ?_⟩
    show Tb T _
    rw [show 20 * (S.1 0 15).toInt.toNat = s.toInt.toNat by omega]; exact i4
  · have e1 := inc1 (x := s) (by omega)
    rw [if_neg c1]
    refine m_gRow hN (mk := (S.1 0 15).toInt) (by rw [q5, q6, q7]; exact h) hmk.2 (by rw [q8]; exact hk) (by omega) (fun U u1 u2 u3 => ?_)
    unfold x_X8_gathers_b52
    simp only [lt]
    refine ih (s + 1, U) ⟨by show 0 ≤ (s + 1).toInt; omega, by show (s + 1).toInt ≤ _; omega, fun j hj => (u1 j hj).trans (i3 j hj), ?_⟩ (by show 101 - (s + 1).toInt.toNat < 101 - s.toInt.toNat; omega)
    show Tb U (s + 1).toInt.toNat
    intro x hx hb f hf
    rw [u1 8 (by omega)] at hb
    rw [u1 5 (by omega), u1 6 (by omega), u1 7 (by omega)]
    by_cases c2 : x = s.toInt.toNat
    · subst c2; exact u3 hb f hf
    · rw [u2 _ (by omega)]
      exact i4 x (by omega) hb f hf
theorem m_fetches {N : Nat} (hN : 200 < N) {P : Nat → Bool} {S : SM} (hmk : 0 ≤ (S.1 0 15).toInt ∧ (S.1 0 15).toInt ≤ 5) (hk : Kg (S.1 8)) (hT : Tb S (20 * (S.1 0 15).toInt.toNat)) (h10 : ∀ f : Nat, f < 100 → S.1 10 f = b2 (P f = true)) : ∃ r T, x_X8_fetches N S = some (r, T) ∧ FtV (ft (fun x => Sb (S.1 8) x && decide (0 < AL (S.1 5) (S.1 6) (S.1 7) P x)) (AL (S.1 5) (S.1 6) (S.1 7) P) (20 * (S.1 0 15).toInt.toNat)) (AL (S.1 5) (S.1 6) (S.1 7) P) (-1) r (T.1 0 34) ∧ (∀ j, j ≠ 0 → j ≠ 11 → T.1 j = S.1 j) ∧ ∀ k, k ≠ 34 → T.1 0 k = S.1 0 k := by
  have em : (20 * S.1 0 15).toInt = 20 * (S.1 0 15).toInt := mul_l (by decide) rfl (by omega)
  obtain ⟨H, hH⟩ : ∃ H, H = AL (S.1 5) (S.1 6) (S.1 7) P := ⟨_, rfl⟩
  obtain ⟨B, hB⟩ : ∃ B : Nat → Bool, B = fun x => Sb (S.1 8) x && decide (0 < H x) := ⟨_, rfl⟩
  rw [← hH, ← hB]
  unfold x_X8_fetches
  simp only [lt]
  obtain ⟨r, e, e2, e3, e4⟩ := lp_tot (F := x_X8_fetches_B9 N) (fun x => 101 - x.2.1.toInt.toNat) (fun x => 0 ≤ x.2.1.toInt ∧ x.2.1.toInt ≤ 20 * (S.1 0 15).toInt ∧ FtV (ft B H x.2.1.toInt.toNat) H (-1) x.1 (x.2.2.1 0 34) ∧ (∀ j, j ≠ 0 → j ≠ 11 → x.2.2.1 j = S.1 j) ∧ ∀ k, k ≠ 34 → x.2.2.1 0 k = S.1 0 k) (fun _ r => FtV (ft B H (20 * (S.1 0 15).toInt.toNat)) H (-1) r.1 (r.2.1 0 34) ∧ (∀ j, j ≠ 0 → j ≠ 11 → r.2.1 j = S.1 j) ∧ ∀ k, k ≠ 34 → r.2.1 0 k = S.1 0 k) (by
    intro hh ⟨b, s, T⟩ ⟨j1, j2, j3, j4, j5⟩ ih
    have i1 : 0 ≤ s.toInt := j1
    have i2 : s.toInt ≤ 20 * (S.1 0 15).toInt := j2
    have i3 : FtV (ft B H s.toInt.toNat) H (-1) b (T.1 0 34) := j3
    have i4 : ∀ j, j ≠ 0 → j ≠ 11 → T.1 j = S.1 j := j4
    have i5 : ∀ k, k ≠ 34 → T.1 0 k = S.1 0 k := j5
    clear j1 j2 j3 j4 j5
    unfold x_X8_fetches_B9
    simp only [i_le]
    rw [i5 15 (by omega), em]
    by_cases c1 : 20 * (S.1 0 15).toInt ≤ s.toInt
    · rw [if_pos c1]
      refine ⟨_, rfl, ?_, i4, i5⟩
      rw [show 20 * (S.1 0 15).toInt.toNat = s.toInt.toNat by omega]; exact i3
    · have e1 := inc1 (x := s) (by omega)
      have q8 := i4 8 (by omega) (by omega)
      rw [if_neg c1, m_stk (by rw [q8]; exact hk) (by omega), q8]
      simp only [Option.bind_some, b2_0]
      have st : ft B H (s.toInt.toNat + 1) = if B s.toInt.toNat then (match ft B H s.toInt.toNat with | none => some s.toInt.toNat | some y => if H s.toInt.toNat < H y then some s.toInt.toNat else some y) else ft B H s.toInt.toNat := rfl
      have go : ∀ (b' : Int32) (T' : SM), FtV (ft B H (s.toInt.toNat + 1)) H (-1) b' (T'.1 0 34) → (∀ j, j ≠ 0 → j ≠ 11 → T'.1 j = S.1 j) → (∀ k, k ≠ 34 → T'.1 0 k = S.1 0 k) → ∃ r, x_X8_fetches_b58 N hh b' s T' = some r ∧ FtV (ft B H (20 * (S.1 0 15).toInt.toNat)) H (-1) r.1 (r.2.1 0 34) ∧ (∀ j, j ≠ 0 → j ≠ 11 → r.2.1 j = S.1 j) ∧ ∀ k, k ≠ 34 → r.2.1 0 k = S.1 0 k := by
        intro b' T' t1 t2 t3
        unfold x_X8_fetches_b58
        simp only [lt]
        exact ih (b', s + 1, T') ⟨by show 0 ≤ (s + 1).toInt; omega, by show (s + 1).toInt ≤ _; omega, by show FtV (ft B H (s + 1).toInt.toNat) H (-1) b' _; rw [show (s + 1).toInt.toNat = s.toInt.toNat + 1 by omega]; exact t1, t2, t3⟩ (by show 101 - (s + 1).toInt.toNat < 101 - s.toInt.toNat; omega)
      by_cases c2 : Sb (S.1 8) s.toInt.toNat = true
      · rw [if_neg (fun z => z c2)]
        obtain ⟨U, u1, u2⟩ := m_alikeOf hN (P := P) (kd := S.1 5) (nb := S.1 6) (rn := S.1 7) (S := T) (a := s) (by omega) (by rw [i4 10 (by omega) (by omega)]; exact h10) (by rw [i4 9 (by omega) (by omega)]; exact hT _ (by omega) c2)
        rw [u1, ← hH]
        simp only [Option.bind_some]
        have hl : H s.toInt.toNat ≤ 100 := by rw [hH]; exact AL_le _ _ _ _ _
        have ev : (Int32.ofInt (H s.toInt.toNat : Nat)).toInt = H s.toInt.toNat := of_i (by omega) (by omega)
        have hBs : B s.toInt.toNat = decide (0 < H s.toInt.toNat) := by
          rw [hB]
          show (Sb (S.1 8) s.toInt.toNat && _) = _
          rw [c2, Bool.true_and]
        generalize Int32.ofInt (H s.toInt.toNat : Nat) = v at ev ⊢
        have k4 : ∀ j, j ≠ 0 → j ≠ 11 → U.1 j = S.1 j := fun j hj hj' => (u2 j hj').trans (i4 j hj hj')
        have k5 : ∀ k, k ≠ 34 → U.1 0 k = S.1 0 k := fun k hk => by rw [u2 0 (by omega)]; exact i5 k hk
        have k3 : FtV (ft B H s.toInt.toNat) H (-1) b (U.1 0 34) := by rw [u2 0 (by omega)]; exact i3
        have z0 : (0 : Int32).toInt = 0 := by decide
        rw [z0]
        by_cases c3 : v.toInt ≤ 0
        · rw [if_pos c3]
          refine go b U ?_ k4 k5
          rw [st, if_neg (by rw [hBs, decide_eq_true_eq]; omega)]; exact k3
        · rw [if_neg c3]
          rw [st, if_pos (by rw [hBs, decide_eq_true_eq]; omega)] at go
          have set : FtV (some s.toInt.toNat) H (-1) s v := FtV_s (by omega) ev
          have go2 : (FtV (match ft B H s.toInt.toNat with | none => some s.toInt.toNat | some y => if H s.toInt.toNat < H y then some s.toInt.toNat else some y) H (-1) s v) → ∃ r, x_X8_fetches_b51 N hh s v U = some r ∧ FtV (ft B H (20 * (S.1 0 15).toInt.toNat)) H (-1) r.1 (r.2.1 0 34) ∧ (∀ j, j ≠ 0 → j ≠ 11 → r.2.1 j = S.1 j) ∧ ∀ k, k ≠ 34 → r.2.1 0 k = S.1 0 k := by
            intro w
            unfold x_X8_fetches_b51
            simp only [lt]
            refine go s _ (by show FtV _ H (-1) s (upd (U.1 0) 34 v 34); rw [upd_s]; exact w) (fun j hj hj' => ?_) (fun k hk => ?_)
            · show up U.1 0 _ j = _
              rw [up_n _ _ hj]; exact k4 j hj hj'
            · show upd (U.1 0) 34 v k = _
              rw [upd_n _ _ hk]; exact k5 k hk
          cases hf : ft B H s.toInt.toNat with
          | none =>
            rw [hf] at k3 go go2
            have := k3.1 rfl
            rw [if_pos this.1]
            exact go2 set
          | some y =>
            rw [hf] at k3 go go2
            obtain ⟨w1, w2⟩ := k3.2 y rfl
            rw [if_neg (fun z => by rw [z] at w1; have : (-1 : Int32).toInt = -1 := by decide
                                    omega)]
            by_cases c4 : (U.1 0 34).toInt ≤ v.toInt
            · rw [if_pos c4]
              refine go b U ?_ k4 k5
              show FtV (if H s.toInt.toNat < H y then some s.toInt.toNat else some y) H (-1) b (U.1 0 34)
              rw [if_neg (by omega)]; exact k3
            · rw [if_neg c4]
              refine go2 ?_
              show FtV (if H s.toInt.toNat < H y then some s.toInt.toNat else some y) H (-1) s v
              rw [if_pos (by omega)]; exact set
      · rw [if_pos c2]
        refine go b T ?_ i4 i5
        rw [st, if_neg]
        · exact i3
        · rw [hB]
          show ¬ (Sb (S.1 8) s.toInt.toNat && _) = true
          rw [Bool.eq_false_iff.mpr c2, Bool.false_and]; decide) N (-1, 0, (up S.1 0 (upd (S.1 0) 34 (-1)), S.2)) ⟨Int.le_refl 0, by show (0 : Int32).toInt ≤ _; simp only [Int32.reduceToInt]; omega, by
        show FtV none H (-1) (-1) (upd (S.1 0) 34 (-1) 34)
        rw [upd_s]; exact FtV_n, fun j hj _ => by show up S.1 0 _ j = _; rw [up_n _ _ hj], fun k hk => by show upd (S.1 0) 34 _ k = _; rw [upd_n _ _ hk]⟩ (by show 101 - _ < N; omega)
  obtain ⟨b, T⟩ := r
  exact ⟨b, T, e, e2, e3, e4⟩
