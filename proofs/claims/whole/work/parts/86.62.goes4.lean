theorem splits_ok {N : Nat} (hN : 200 < N) {kd nb rn sk : Nat → Int32} {n : Nat} : ∀ (d e : Nat), SpOK N kd nb rn sk n d (d + 1 + e) := by
  intro d
  induction d with
  | zero =>
    intro e w gone S P hB hg hP hw0 hw hS hb h12
    rw [show 0 + 1 + e = e + 1 by omega]
    show ∃ T, x_X8_splits N (gr_S N e) w gone S = some T ∧ _
    refine m_one hN hP (fun T t1 t2 h2 f ef => ?_)
    unfold x_X8_splits_B2
    have eg : gone = 20 := i_eq.mpr (by rw [hg]; rfl)
    rw [if_pos (by show (100 : Int32) ≤ f; rw [ef]; decide), if_pos (show gone = 20 from eg)]
    refine ⟨_, rfl, ⟨fun j hj => t1 j (by omega), fun k _ => by rw [t1 0 (by omega)]⟩, fun q hq hp => ⟨?_, ?_⟩, fun q hq hp => ?_, fun q hq => ?_, ?_, ?_⟩
    · show T.1 12 q = _
      rw [t1 12 (by omega)]; exact h12 q hq hp
    · show _ ∨ T.1 13 q = w ∨ _
      rw [t1 13 (by omega)]; exact Or.inr (Or.inl ((hP q hq).mpr hp))
    · show T.1 12 q = _ ∧ T.1 13 q = _
      rw [t1 12 (by omega), t1 13 (by omega)]; exact ⟨rfl, rfl⟩
    · show (T.1 13 q).toInt < (T.1 0 37).toInt
      rw [t1 0 (by omega), t1 13 (by omega)]; exact hS q hq
    · show _ ≤ (T.1 0 37).toInt
      rw [t1 0 (by omega)]; exact Int.le_refl _
    · show (T.1 0 37).toInt ≤ _
      rw [t1 0 (by omega)]; omega
  | succ d ih =>
    intro e w gone S P hB hg hP hw0 hw hS hb h12
    rw [show d + 1 + 1 + e = (d + 1 + e) + 1 by omega]
    show ∃ T, x_X8_splits N (gr_S N (d + 1 + e)) w gone S = some T ∧ _
    refine m_one hN hP (fun T t1 t2 h2 f ef => ?_)
    unfold x_X8_splits_B2
    have ng : ¬ gone = 20 := fun z => by rw [z] at hg; have : (20 : Int32).toInt = 20 := by decide
                                         omega
    have fT : Fr S T := ⟨fun j hj => t1 j (by omega), fun k _ => by rw [t1 0 (by omega)]⟩
    have hBT := Bs_f hB fT
    rw [if_pos (by show (100 : Int32) ≤ f; rw [ef]; decide), if_neg (show ¬ gone = 20 from ng)]
    show ∃ r, ((x_X8_isAnyFit N T).bind fun q3 => _) = some r ∧ _
    rw [m_isAnyFit hN hBT t2]
    simp only [Option.bind_some, b2_0]
    by_cases c1 : AF kd nb rn sk n P = true
    · rw [if_neg (fun z => z c1)]
      obtain ⟨x, hx⟩ := AF_FT c1
      obtain ⟨f0, hf0, hp0⟩ := AF_ex c1
      obtain ⟨x1, x2⟩ := FT_lt hx
      obtain ⟨r, T2, u1, u2, u3, u4⟩ := m_fetches2 hN hBT t2 hf0 hp0 hx
      rw [u1]
      simp only [Option.bind_some, lt]
      have e37 : T2.1 0 37 = S.1 0 37 := by rw [u4 37 (by omega), t1 0 (by omega)]
      rw [e37]
      have cpos := cn_pos hp0 100 hf0
      have em : ((d + 1) * cn P 100 : Nat) = d * cn P 100 + cn P 100 := Nat.succ_mul _ _
      rw [em] at hb ⊢
      have e5 : (S.1 0 37 + 5).toInt = (S.1 0 37).toInt + 5 := add_l rfl (by decide) (by omega)
      have h00 : 0 ≤ (S.1 0 37).toInt := by omega
      have k0 : ∀ j, j ≠ 0 → up T2.1 0 (upd (T2.1 0) 37 (S.1 0 37 + 5)) j = T2.1 j := fun j hj => up_n _ _ hj
      have kf : Fr S (up T2.1 0 (upd (T2.1 0) 37 (S.1 0 37 + 5)), T2.2) := by
        refine ⟨fun j hj => ?_, fun k hk => ?_⟩
        · exact (k0 j (by omega)).trans ((u3 j (by omega) (by omega)).trans (t1 j (by omega)))
        · show upd (T2.1 0) 37 (S.1 0 37 + 5) k = _
          rw [upd_n _ _ (by omega), u4 k (by omega), t1 0 (by omega)]
      have k10 : ∀ q : Nat, q < 100 → up T2.1 0 (upd (T2.1 0) 37 (S.1 0 37 + 5)) 10 q = b2 (P q = true) := by
        intro q hq
        rw [k0 10 (by omega), u3 10 (by omega) (by omega)]
        exact t2 q hq
      have k12 : up T2.1 0 (upd (T2.1 0) 37 (S.1 0 37 + 5)) 12 = S.1 12 := (k0 12 (by omega)).trans ((u3 12 (by omega) (by omega)).trans (t1 12 (by omega)))
      have k13 : up T2.1 0 (upd (T2.1 0) 37 (S.1 0 37 + 5)) 13 = S.1 13 := (k0 13 (by omega)).trans ((u3 13 (by omega) (by omega)).trans (t1 13 (by omega)))
      have k37 : (up T2.1 0 (upd (T2.1 0) 37 (S.1 0 37 + 5)) 0 37).toInt = (S.1 0 37).toInt + 5 := by
        rw [up_s, upd_s]; exact e5
      obtain ⟨U, v1, v2⟩ := m_two hN (x := x) (P := P) (g1 := gone + 1) (gone := gone) (a := r) (first := S.1 0 37) (S := S) (S3 := (up T2.1 0 (upd (T2.1 0) 37 (S.1 0 37 + 5)), T2.2)) (ih e) hB hg rfl h00 hS (by omega) kf k10 k12 k13 k37 u2 x1 x2
      refine ⟨U, v1, ?_⟩
      obtain ⟨w1, w2, w3, w4, w5, w6⟩ := v2
      have el := (cn_sub (P := P) (Q := Pk kd nb rn P x 5) 100 (fun i hi hq => by unfold Pk at hq; rw [Bool.and_eq_true] at hq; exact hq.1)).1
      have el2 := Nat.mul_le_mul_left d el
      refine ⟨w1, fun q hq hp => ?_, w2, w4, by omega, by omega⟩
      have sb : -2 ≤ Sy kd nb rn x q ∧ Sy kd nb rn x q ≤ 2 := sy_b _ _ _
      obtain ⟨p1, p2, _⟩ := w3 q hq hp
      have eG : GO kd nb rn sk n (d + 1) P q = if Sy kd nb rn x q = 0 then 20 - (d : Int) else GO kd nb rn sk n d (Pv kd nb rn P x (Sy kd nb rn x q)) q := by
        rw [GO_1, if_pos c1, hx]; rfl
      rw [eG]
      by_cases z : Sy kd nb rn x q = 0
      · obtain ⟨p3, p4⟩ := p1 z
        rw [if_pos z]
        refine ⟨?_, Or.inl (by omega)⟩
        rw [p3]
        exact eq_of (by rw [inc1 (by omega), hg]; omega)
      · obtain ⟨p3, p4⟩ := p2 z (by omega)
        rw [if_neg z]
        refine ⟨p3, ?_⟩
        rcases p4 with p4 | p4 | p4
        · exact Or.inl p4
        · exact Or.inr (Or.inr (by omega))
        · exact Or.inr (Or.inr (by omega))
    · rw [if_pos c1]
      refine ⟨_, rfl, fT, fun q hq hp => ⟨?_, ?_⟩, fun q hq hp => ?_, fun q hq => ?_, ?_, ?_⟩
      · show T.1 12 q = _
        rw [t1 12 (by omega), GO_1, if_neg c1]; exact h12 q hq hp
      · show _ ∨ T.1 13 q = w ∨ _
        rw [t1 13 (by omega)]; exact Or.inr (Or.inl ((hP q hq).mpr hp))
      · show T.1 12 q = _ ∧ T.1 13 q = _
        rw [t1 12 (by omega), t1 13 (by omega)]; exact ⟨rfl, rfl⟩
      · show (T.1 13 q).toInt < (T.1 0 37).toInt
        rw [t1 0 (by omega), t1 13 (by omega)]; exact hS q hq
      · show _ ≤ (T.1 0 37).toInt
        rw [t1 0 (by omega)]; exact Int.le_refl _
      · show (T.1 0 37).toInt ≤ _
        rw [t1 0 (by omega)]; omega
/-- all feet's goes -/
theorem m_findsAll {N : Nat} (hN : 200 < N) {S : SM} (hR : Rg (S.1 5) (S.1 6) (S.1 7) (S.1 0 15).toInt) (hmk : 0 ≤ (S.1 0 15).toInt ∧ (S.1 0 15).toInt ≤ 5) (hk : Kg (S.1 8)) : ∃ T, x_X8_findsAll N S = some T ∧ (∀ j : Nat, ¬ (j = 0 ∨ (9 ≤ j ∧ j ≤ 13)) → T.1 j = S.1 j) ∧ (∀ k : Nat, ¬ (k = 34 ∨ k = 37) → T.1 0 k = S.1 0 k) ∧ ∀ f : Nat, f < 100 → T.1 12 f = Int32.ofInt (GO (S.1 5) (S.1 6) (S.1 7) (S.1 8) (20 * (S.1 0 15).toInt.toNat) 20 (inS 0 99) f) := by
  obtain ⟨S1, s1, s2, s3⟩ := m_gathers (N := N) hN hR hmk hk
  unfold x_X8_findsAll
  rw [s1]
  simp only [Option.bind_some]
  refine lp_tot (F := x_X8_findsAll_B6 N) (fun y => 101 - y.1.toInt.toNat) (fun y => 0 ≤ y.1.toInt ∧ y.1.toInt ≤ 100 ∧ (∀ j, j ≠ 12 → j ≠ 13 → y.2.1 j = S1.1 j) ∧ ∀ f : Nat, f < y.1.toInt.toNat → y.2.1 12 f = -1 ∧ y.2.1 13 f = 0) (fun _ T => (∀ j : Nat, ¬ (j = 0 ∨ (9 ≤ j ∧ j ≤ 13)) → T.1 j = S.1 j) ∧ (∀ k : Nat, ¬ (k = 34 ∨ k = 37) → T.1 0 k = S.1 0 k) ∧ ∀ f : Nat, f < 100 → T.1 12 f = Int32.ofInt (GO (S.1 5) (S.1 6) (S.1 7) (S.1 8) (20 * (S.1 0 15).toInt.toNat) 20 (inS 0 99) f)) ?_ N (0, S1) ⟨Int.le_refl 0, by show (0 : Int32).toInt ≤ 100; decide, fun _ _ _ => rfl, fun f hf => absurd hf (Nat.not_lt_zero f)⟩ (by show 101 - _ < N; omega)
  intro hh ⟨f, U⟩ ⟨j1, j2, j3, j4⟩ ih
  have i1 : 0 ≤ f.toInt := j1
  have i2 : f.toInt ≤ 100 := j2
  have i3 : ∀ j, j ≠ 12 → j ≠ 13 → U.1 j = S1.1 j := j3
  have i4 : ∀ q : Nat, q < f.toInt.toNat → U.1 12 q = -1 ∧ U.1 13 q = 0 := j4
  clear j1 j2 j3 j4
  unfold x_X8_findsAll_B6
  simp only [i_le, Int32.reduceToInt]
  by_cases c1 : 100 ≤ f.toInt
  · rw [if_pos c1]
    simp only [lt]
    have ex := splits_ok (N := N) hN (kd := S.1 5) (nb := S.1 6) (rn := S.1 7) (sk := S.1 8) (n := 20 * (S.1 0 15).toInt.toNat) 20 4
    have w15 : ((up U.1 0 (upd (U.1 0) 37 1), U.2) : SM).1 0 15 = S.1 0 15 := by
      show upd (U.1 0) 37 1 15 = _
      rw [upd_n _ _ (by omega), i3 0 (by omega) (by omega), s2 0 (by omega)]
    have wj : ∀ j, j ≠ 0 → j ≠ 12 → j ≠ 13 → ((up U.1 0 (upd (U.1 0) 37 1), U.2) : SM).1 j = S1.1 j := fun j h0 h12 h13 => by
      show (up U.1 0 (upd (U.1 0) 37 1)) j = _
      rw [up_n _ _ h0]; exact i3 j h12 h13
    have w37 : (((up U.1 0 (upd (U.1 0) 37 1), U.2) : SM).1 0 37).toInt = 1 := by
      show (upd (U.1 0) 37 1 37).toInt = 1
      rw [upd_s]; rfl
    have w13 : ∀ q : Nat, q < 100 → ((up U.1 0 (upd (U.1 0) 37 1), U.2) : SM).1 13 q = 0 := fun q hq => by
      show (up U.1 0 (upd (U.1 0) 37 1)) 13 q = _
      rw [up_n _ _ (by omega)]; exact (i4 q (by omega)).2
    have w12 : ∀ q : Nat, q < 100 → ((up U.1 0 (upd (U.1 0) 37 1), U.2) : SM).1 12 q = -1 := fun q hq => by
      show (up U.1 0 (upd (U.1 0) 37 1)) 12 q = _
      rw [up_n _ _ (by omega)]; exact (i4 q (by omega)).1
    have all : ∀ q : Nat, q < 100 → inS 0 99 q = true := fun q hq => by unfold inS; exact decide_eq_true (by omega)
    have wk : ∀ k : Nat, ¬ (k = 34 ∨ k = 37) → ((up U.1 0 (upd (U.1 0) 37 1), U.2) : SM).1 0 k = S.1 0 k := fun k hk => by
      show upd (U.1 0) 37 1 k = _
      rw [upd_n _ _ (by omega), i3 0 (by omega) (by omega), s2 0 (by omega)]
    generalize ((up U.1 0 (upd (U.1 0) 37 1), U.2) : SM) = W at *
    have z0 : (0 : Int32).toInt = 0 := by decide
    obtain ⟨T, t1, t2, t3, t4, t5, t6, t7⟩ := ex 0 0 W (inS 0 99) ⟨by rw [wj 5 (by omega) (by omega) (by omega), s2 5 (by omega)], by rw [wj 6 (by omega) (by omega) (by omega), s2 6 (by omega)], by rw [wj 7 (by omega) (by omega) (by omega), s2 7 (by omega)], by rw [wj 8 (by omega) (by omega) (by omega), s2 8 (by omega)], by rw [w15]; exact hmk, by rw [w15], by rw [w15]; exact hR, hk, fun x hx hb q hq => by
      rw [wj 8 (by omega) (by omega) (by omega)] at hb
      rw [wj 9 (by omega) (by omega) (by omega), wj 5 (by omega) (by omega) (by omega), wj 6 (by omega) (by omega) (by omega), wj 7 (by omega) (by omega) (by omega)]
      exact s3 x hx hb q hq⟩ rfl (fun q hq => ⟨fun _ => all q hq, fun _ => w13 q hq⟩) (by decide) (by rw [w37]; decide) (fun q hq => by rw [w13 q hq, w37]; decide) (by rw [w37]; have := cn_le (inS 0 99) 100; omega) (fun q hq _ => w12 q hq)
    show ∃ r, ((gr_S N 25 0 0 0 0 W).bind fun q4 => some q4) = some r ∧ _
    rw [show gr_S N 25 0 0 0 0 W = some T from t1]
    exact ⟨T, rfl, fun j hj => by rw [t2.1 j (by omega), wj j (by omega) (by omega) (by omega), s2 j (by omega)], fun k hk => by rw [t2.2 k hk, wk k hk], fun q hq => (t3 q hq (all q hq)).1⟩
  · have e1 := inc1 (x := f) (by omega)
    have b100 : inb f 100 = true := i_inb.mpr ⟨by omega, by omega⟩
    rw [if_neg c1]
    simp only [b100, if_true, lt]
    refine ih (f + 1, _) ⟨by show 0 ≤ (f + 1).toInt; omega, by show (f + 1).toInt ≤ 100; omega, fun j h12 h13 => ?_, fun q hq => ?_⟩ (by show 101 - (f + 1).toInt.toNat < 101 - f.toInt.toNat; omega)
    · show up (up U.1 12 _) 13 _ j = _
      rw [up_n _ _ h13, up_n _ _ h12]; exact i3 j h12 h13
    · have hq : q < (f + 1).toInt.toNat := hq
      show upd (U.1 12) f.toNatClampNeg (-1) q = _ ∧ upd (U.1 13) f.toNatClampNeg 0 q = _
      by_cases c : q = f.toNatClampNeg
      · rw [c, upd_s, upd_s]; exact ⟨rfl, rfl⟩
      · rw [upd_n _ _ c, upd_n _ _ c]
        rw [i_nat] at c
        exact i4 q (by omega)
