/-! towns that are drawn -/
def zq (s : Int32) : Nat → Int32
  | 0 => s
  | n + 1 => zq s n * 1103515245 + 12345
def dq (s : Int32) (f : Nat) : Int32 := rmI (((zq s (f + 1)).toUInt32 >>> ((9 : Int32).toUInt32 &&& Int32.toUInt32 31)).toInt32) 10
theorem c_draw {N : Nat} (hN : 200 < N) (s w : Int32) (hw : w = 0 ∨ w = 1) {g : Sg} {P : Nat → Bool} (h : ∀ f : Nat, f < 100 → g 10 f = b2 (P f = true)) : x_X7_draw N s w g = some (ps (dq s) (fun f => decide (w = 0) || P f) 100, g) := by
  obtain ⟨Q, hQ⟩ : ∃ Q : Nat → Bool, Q = fun f => decide (w = 0) || P f := ⟨_, rfl⟩
  rw [← hQ]
  unfold x_X7_draw
  obtain ⟨r, e, e2⟩ := lp_tot (F := x_X7_draw_B8 N) (fun x => 101 - x.2.2.2.1.toInt.toNat) (fun x => x.1 = w ∧ 0 ≤ x.2.2.2.1.toInt ∧ x.2.2.2.1.toInt ≤ 100 ∧ x.2.1 = ps (dq s) Q x.2.2.2.1.toInt.toNat ∧ x.2.2.1 = zq s x.2.2.2.1.toInt.toNat ∧ x.2.2.2.2 = g) (fun _ r => r = (ps (dq s) Q 100, g)) (by
    intro h8 ⟨y1, a, z, f, G⟩ ⟨j1, j2, j3, j4, j5, j6⟩ ih
    have i1 : y1 = w := j1
    have i2 : 0 ≤ f.toInt := j2
    have i3 : f.toInt ≤ 100 := j3
    have i4 : a = ps (dq s) Q f.toInt.toNat := j4
    have i5 : z = zq s f.toInt.toNat := j5
    have i6 : G = g := j6
    clear j1 j2 j3 j4 j5 j6
    subst i1; subst i6
    unfold x_X7_draw_B8
    simp only [i_le, Int32.reduceToInt]
    by_cases c1 : 100 ≤ f.toInt
    · rw [if_pos c1]
      refine ⟨_, rfl, ?_⟩
      rw [i4, show f.toInt.toNat = 100 by omega]
    · have e1 := inc1 (x := f) (by omega)
      rw [if_neg c1]
      simp only [lt]
      have ez : z * 1103515245 + 12345 = zq s (f.toInt.toNat + 1) := by rw [i5]; rfl
      rw [ez]
      have go : ∀ t : Int32, dq s f.toInt.toNat * t = (if Q f.toInt.toNat then dq s f.toInt.toNat else 0) → ∃ r, x_X7_draw_b51 N h8 y1 (zq s (f.toInt.toNat + 1)) f t (dq s f.toInt.toNat) a G = some r ∧ r = (ps (dq s) Q 100, G) := by
        intro t et
        unfold x_X7_draw_b51
        simp only [lt]
        refine ih (y1, _, _, f + 1, G) ⟨rfl, by show 0 ≤ (f + 1).toInt; omega, by show (f + 1).toInt ≤ 100; omega, ?_, ?_, rfl⟩ (by show 101 - (f + 1).toInt.toNat < 101 - f.toInt.toNat; omega)
        · show a + dq s f.toInt.toNat * t = ps (dq s) Q (f + 1).toInt.toNat
          rw [show (f + 1).toInt.toNat = f.toInt.toNat + 1 by omega, ps_1, i4, et]
        · show zq s (f.toInt.toNat + 1) = zq s (f + 1).toInt.toNat
          rw [show (f + 1).toInt.toNat = f.toInt.toNat + 1 by omega]
      have t1 : rmI (((zq s (f.toInt.toNat + 1)).toUInt32 >>> ((9 : Int32).toUInt32 &&& Int32.toUInt32 31)).toInt32) 10 = dq s f.toInt.toNat := rfl
      rw [t1]
      by_cases c2 : y1 = 0
      · rw [if_pos c2]
        refine go 1 ?_
        rw [hQ]
        show _ = if (decide (y1 = 0) || P f.toInt.toNat) = true then _ else _
        rw [decide_eq_true c2, Bool.true_or, if_pos rfl, Int32.mul_one]
      · rw [if_neg c2, if_pos (show inb f 100 = true from i_inb.mpr ⟨by omega, by omega⟩)]
        refine go _ ?_
        rw [i_nat, h _ (by omega), Int32.mul_comm, b2_mul, hQ]
        show _ = if (decide (y1 = 0) || P f.toInt.toNat) = true then _ else _
        rw [decide_eq_false c2, Bool.false_or]) N (w, 0, s, 0, g) ⟨rfl, Int.le_refl 0, by show (0 : Int32).toInt ≤ 100; decide, rfl, rfl, rfl⟩ (by show 101 - _ < N; omega)
  rw [e, e2]
theorem m_restore {N : Nat} (hN : 200 < N) (r0 : Int32) {S T : SM} (h15 : ∀ f : Nat, f < 100 → T.1 15 f = S.1 4 f) (h4 : ∀ f : Nat, 100 ≤ f → T.1 4 f = S.1 4 f) : ∃ U, lp (x_X8_draws_B67 N) N (r0, 0, T) = some (r0, U) ∧ (∀ i, i ≠ 4 → U.1 i = T.1 i) ∧ U.1 4 = S.1 4 := by
  obtain ⟨r, e, e2, e3, e4⟩ := lp_tot (F := x_X8_draws_B67 N) (fun x => 101 - x.2.1.toInt.toNat) (fun x => x.1 = r0 ∧ 0 ≤ x.2.1.toInt ∧ x.2.1.toInt ≤ 100 ∧ (∀ i, i ≠ 4 → x.2.2.1 i = T.1 i) ∧ (∀ f : Nat, f < x.2.1.toInt.toNat → x.2.2.1 4 f = S.1 4 f) ∧ ∀ f : Nat, 100 ≤ f → x.2.2.1 4 f = S.1 4 f) (fun _ r => r.1 = r0 ∧ (∀ i, i ≠ 4 → r.2.1 i = T.1 i) ∧ r.2.1 4 = S.1 4) (by
    intro hh ⟨y1, f, U⟩ ⟨j1, j2, j3, j4, j5, j6⟩ ih
    have i1 : y1 = r0 := j1
    have i2 : 0 ≤ f.toInt := j2
    have i3 : f.toInt ≤ 100 := j3
    have i4 : ∀ i, i ≠ 4 → U.1 i = T.1 i := j4
    have i5 : ∀ q : Nat, q < f.toInt.toNat → U.1 4 q = S.1 4 q := j5
    have i6 : ∀ q : Nat, 100 ≤ q → U.1 4 q = S.1 4 q := j6
    clear j1 j2 j3 j4 j5 j6
    subst i1
    unfold x_X8_draws_B67
    simp only [i_le, Int32.reduceToInt]
    by_cases c1 : 100 ≤ f.toInt
    · rw [if_pos c1]
      refine ⟨_, rfl, rfl, i4, funext (fun q => ?_)⟩
      show U.1 4 q = _
      by_cases c2 : q < 100
      · exact i5 q (by omega)
      · exact i6 q (by omega)
    · have e1 := inc1 (x := f) (by omega)
      rw [if_neg c1, if_pos (show inb f 100 = true from i_inb.mpr ⟨by omega, by omega⟩), if_pos (show inb f 100 = true from i_inb.mpr ⟨by omega, by omega⟩)]
      simp only [lt]
      refine ih (y1, f + 1, _) ⟨rfl, by show 0 ≤ (f + 1).toInt; omega, by show (f + 1).toInt ≤ 100; omega, fun i hi => ?_, fun q hq => ?_, fun q hq => ?_⟩ (by show 101 - (f + 1).toInt.toNat < 101 - f.toInt.toNat; omega)
      · show up U.1 4 _ i = _
        rw [up_n _ _ hi]; exact i4 i hi
      · have hq : q < (f + 1).toInt.toNat := hq
        show upd (U.1 4) f.toNatClampNeg (U.1 15 f.toNatClampNeg) q = _
        by_cases c2 : q = f.toNatClampNeg
        · subst c2
          rw [upd_s, i4 15 (by omega), h15 _ (by rw [i_nat]; omega)]
        · rw [upd_n _ _ c2]
          rw [i_nat] at c2
          exact i5 q (by omega)
      · show upd (U.1 4) f.toNatClampNeg (U.1 15 f.toNatClampNeg) q = _
        rw [upd_n _ _ (by rw [i_nat]; omega)]
        exact i6 q hq) N (r0, 0, T) ⟨rfl, Int.le_refl 0, by show (0 : Int32).toInt ≤ 100; decide, fun _ _ => rfl, fun q hq => absurd hq (Nat.not_lt_zero q), h4⟩ (by show 101 - _ < N; omega)
  obtain ⟨a, U⟩ := r
  have e2 : a = r0 := e2
  subst e2
  exact ⟨U, e, e3, e4⟩
theorem m_draws {N : Nat} (hN : 200 < N) (s : Int32) {S : SM} (h : Rg (S.1 5) (S.1 6) (S.1 7) (S.1 0 15).toInt) (hmk : 0 ≤ (S.1 0 15).toInt ∧ (S.1 0 15).toInt ≤ 5) (hk : Kg (S.1 8)) : ∃ T, x_X8_draws N s S = some (ps (dq s) (fun f => an (fun x => sv (S.1 5) (S.1 6) (S.1 7) (S.1 8) x f) (20 * (S.1 0 15).toInt.toNat)) 100, T) ∧ T.1 0 43 = ps (dq s) (fun _ => true) 100 ∧ (∀ i, i ≠ 0 → i ≠ 15 → T.1 i = S.1 i) ∧ ∀ k, k ≠ 43 → T.1 0 k = S.1 0 k := by
  unfold x_X8_draws
  obtain ⟨r, e, e2⟩ := lp_tot (F := x_X8_draws_B4 N) (fun x => 101 - x.2.1.toInt.toNat) (fun x => x.1 = zq s x.2.1.toInt.toNat ∧ 0 ≤ x.2.1.toInt ∧ x.2.1.toInt ≤ 100 ∧ (∀ i, i ≠ 4 → i ≠ 15 → x.2.2.1 i = S.1 i) ∧ (∀ f : Nat, f < x.2.1.toInt.toNat → x.2.2.1 4 f = dq s f ∧ x.2.2.1 15 f = S.1 4 f) ∧ ∀ f : Nat, x.2.1.toInt.toNat ≤ f → x.2.2.1 4 f = S.1 4 f) (fun _ r => r.1 = ps (dq s) (fun f => an (fun x => sv (S.1 5) (S.1 6) (S.1 7) (S.1 8) x f) (20 * (S.1 0 15).toInt.toNat)) 100 ∧ r.2.1 0 43 = ps (dq s) (fun _ => true) 100 ∧ (∀ i, i ≠ 0 → i ≠ 15 → r.2.1 i = S.1 i) ∧ ∀ k, k ≠ 43 → r.2.1 0 k = S.1 0 k) (by
    intro hh ⟨z, f, T⟩ ⟨j1, j2, j3, j4, j5, j6⟩ ih
    have i1 : z = zq s f.toInt.toNat := j1
    have i2 : 0 ≤ f.toInt := j2
    have i3 : f.toInt ≤ 100 := j3
    have i4 : ∀ i, i ≠ 4 → i ≠ 15 → T.1 i = S.1 i := j4
    have i5 : ∀ q : Nat, q < f.toInt.toNat → T.1 4 q = dq s q ∧ T.1 15 q = S.1 4 q := j5
    have i6 : ∀ q : Nat, f.toInt.toNat ≤ q → T.1 4 q = S.1 4 q := j6
    clear j1 j2 j3 j4 j5 j6
    unfold x_X8_draws_B4
    simp only [i_le, Int32.reduceToInt]
    have q0 := i4 0 (by omega) (by omega)
    have q5 := i4 5 (by omega) (by omega)
    have q6 := i4 6 (by omega) (by omega)
    have q7 := i4 7 (by omega) (by omega)
    have q8 := i4 8 (by omega) (by omega)
    by_cases c1 : 100 ≤ f.toInt
    · rw [if_pos c1, m_servedAll hN (by rw [q0, q5, q6, q7]; exact h) (by rw [q0]; exact hmk) (by rw [q8]; exact hk)]
      simp only [Option.bind_some]
      rw [m_townAll hN]
      simp only [Option.bind_some, lt]
      have hc : ∀ P : Nat → Bool, ps (T.1 4) P 100 = ps (dq s) P 100 := fun P => ps_congr 100 (fun q hq => ⟨rfl, fun _ => (i5 q (by omega)).1⟩)
      rw [hc, hc, q0, q5, q6, q7, q8]
      obtain ⟨U, u1, u2, u3⟩ := m_restore hN (ps (dq s) (fun f => an (fun x => sv (S.1 5) (S.1 6) (S.1 7) (S.1 8) x f) (20 * (S.1 0 15).toInt.toNat)) 100) (S := S) (T := (up T.1 0 (upd (S.1 0) 43 (ps (dq s) (fun _ => true) 100)), T.2)) (fun q hq => (i5 q (by omega)).2) (fun q hq => i6 q (by omega))
      refine ⟨_, u1, rfl, ?_, fun i h0 h15 => ?_, fun k hk => ?_⟩
      · show U.1 0 43 = _
        rw [u2 0 (by omega)]; rfl
      · show U.1 i = _
        by_cases c2 : i = 4
        · subst c2; exact u3
        · rw [u2 i c2]
          show up T.1 0 _ i = _
          rw [up_n _ _ h0]; exact i4 i c2 h15
      · show U.1 0 k = _
        rw [u2 0 (by omega)]
        show upd (S.1 0) 43 _ k = _
        exact upd_n _ _ hk
    · have e1 := inc1 (x := f) (by omega)
      have b1 : inb f 100 = true := i_inb.mpr ⟨by omega, by omega⟩
      rw [if_neg c1]
      simp only [b1, if_true, lt]
      refine ih (_, f + 1, _) ⟨?_, by show 0 ≤ (f + 1).toInt; omega, by show (f + 1).toInt ≤ 100; omega, fun i h4 h15 => ?_, fun q hq => ?_, fun q hq => ?_⟩ (by show 101 - (f + 1).toInt.toNat < 101 - f.toInt.toNat; omega)
      · show z * 1103515245 + 12345 = zq s (f + 1).toInt.toNat
        rw [show (f + 1).toInt.toNat = f.toInt.toNat + 1 by omega, i1]; rfl
      · show up (up T.1 15 _) 4 _ i = _
        rw [up_n _ _ h4, up_n _ _ h15]; exact i4 i h4 h15
      · have hq : q < (f + 1).toInt.toNat := hq
        show upd (up T.1 15 (upd (T.1 15) f.toNatClampNeg (T.1 4 f.toNatClampNeg)) 4) f.toNatClampNeg _ q = _ ∧ upd (T.1 15) f.toNatClampNeg (T.1 4 f.toNatClampNeg) q = _
        rw [up_n _ _ (show 4 ≠ 15 by omega)]
        by_cases c2 : q = f.toNatClampNeg
        · subst c2
          rw [upd_s, upd_s]
          refine ⟨?_, i6 _ (by rw [i_nat]; omega)⟩
          unfold dq
          show rmI (((z * 1103515245 + 12345).toUInt32 >>> _).toInt32) 10 = _
          rw [i1]; rfl
        · rw [upd_n _ _ c2, upd_n _ _ c2]
          rw [i_nat] at c2
          exact i5 q (by omega)
      · have hq : (f + 1).toInt.toNat ≤ q := hq
        show upd (up T.1 15 (upd (T.1 15) f.toNatClampNeg (T.1 4 f.toNatClampNeg)) 4) f.toNatClampNeg _ q = _
        rw [up_n _ _ (show 4 ≠ 15 by omega), upd_n _ _ (by rw [i_nat]; omega)]
        exact i6 q (by omega)) N (s, 0, S) ⟨rfl, Int.le_refl 0, by show (0 : Int32).toInt ≤ 100; decide, fun _ _ _ => rfl, fun q hq => absurd hq (Nat.not_lt_zero q), fun _ _ => rfl⟩ (by show 101 - _ < N; omega)
  obtain ⟨a, T⟩ := r
  have e3 : a = _ := e2.1
  subst e3
  exact ⟨T, e, e2.2⟩
theorem inv_t {TX : TXt} {g : Sg} {S T : SM} (h : Inv TX g S) (t : ∀ i, i ≠ 0 → i ≠ 15 → T.1 i = S.1 i) (t0 : ∀ k, k ≠ 43 → T.1 0 k = S.1 0 k) : Inv TX g T :=
  inv_k h (fun _ _ => rfl) rfl (fun i hi => t i (by omega) (by omega)) (fun k hk => t0 k (by omega))
theorem o_drawn {TX : TXt} {g : Sg} {S : SM} (h : Inv TX g S) {N : Nat} (hN : 1000 < N) (s : Int32) : Sim TX (x_X7_drawn N s g) (x_X8_drawn N s S) := by
  obtain ⟨k1, k2, k3⟩ := mk5 h
  unfold x_X7_drawn x_X8_drawn
  obtain ⟨G, e, o, z⟩ := c_markAll h hN
  obtain ⟨b, e1, e2⟩ := c_shoes (N := N) ⟨k2, k3⟩
  rw [e1] at e ⊢
  simp only [Option.bind_some] at e ⊢
  rw [e]
  simp only [Option.bind_some]
  rw [c_draw (by omega) s 1 (Or.inr rfl) z]
  obtain ⟨T, d1, d2, d3, d4⟩ := m_draws (N := N) (by omega) s (by rw [← k1]; exact Rg_m h) (by rw [← k1]; exact ⟨k2, k3⟩) (Kg_m h)
  rw [d1]
  simp only [Option.bind_some]
  rw [← k1]
  exact Sim.mk (inv_t (inv_g h (fun i hi => o i (by omega))) d3 d4)
