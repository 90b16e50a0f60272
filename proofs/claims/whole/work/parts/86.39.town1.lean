theorem sv_cm {TX : TXt} {g : Sg} {S : SM} (h : Inv TX g S) {x : Nat} (hx : (x : Int) < 20 * (g 1 4).toInt) (f : Nat) : sv (S.1 5) (S.1 6) (S.1 7) (S.1 8) x f = sv (g 12) (g 13) (g 14) (g 15) x f := by
  obtain ⟨k1, k2, k3⟩ := mk5 h
  unfold sv
  rw [Sb_cm h (by omega), fz_cm h hx]
theorem b2_mul (P : Bool) (x : Int32) : b2 (P = true) * x = if P then x else 0 := by
  unfold b2
  cases P
  · show (0 : Int32) * x = 0; exact Int32.zero_mul
  · show (1 : Int32) * x = x; exact Int32.one_mul x
theorem c_sum {N : Nat} (hN : 200 < N) {g : Sg} {P : Nat → Bool} (h : ∀ f : Nat, f < 100 → g 10 f = b2 (P f = true)) : x_X7_served_b53 N g = some (ps (g 11) P 100, g) := by
  unfold x_X7_served_b53
  obtain ⟨r, e, e2⟩ := lp_tot (F := x_X7_served_B57 N) (fun x => 101 - x.2.1.toInt.toNat) (fun x => 0 ≤ x.2.1.toInt ∧ x.2.1.toInt ≤ 100 ∧ x.1 = ps (g 11) P x.2.1.toInt.toNat ∧ x.2.2 = g) (fun _ r => r = (ps (g 11) P 100, g)) (by
    intro h4 ⟨a, f, T⟩ ⟨i4, i5, i6, i7⟩ ih
    have i4 : 0 ≤ f.toInt := i4
    have i5 : f.toInt ≤ 100 := i5
    have i6 : a = ps (g 11) P f.toInt.toNat := i6
    have i7 : T = g := i7
    subst i7
    unfold x_X7_served_B57
    simp only [i_le, Int32.reduceToInt]
    by_cases c1 : 100 ≤ f.toInt
    · rw [if_pos c1]
      refine ⟨_, rfl, ?_⟩
      rw [i6, show f.toInt.toNat = 100 by omega]
    · have e1 := inc1 (x := f) (by omega)
      rw [if_neg c1, if_pos (show inb f 100 = true from i_inb.mpr ⟨by omega, by omega⟩), if_pos (show inb f 100 = true from i_inb.mpr ⟨by omega, by omega⟩)]
      simp only [lt]
      refine ih (_, f + 1, T) ⟨by show 0 ≤ (f + 1).toInt; omega, by show (f + 1).toInt ≤ 100; omega, ?_, rfl⟩ (by show 101 - (f + 1).toInt.toNat < 101 - f.toInt.toNat; omega)
      show a + T 10 f.toNatClampNeg * T 11 f.toNatClampNeg = ps (T 11) P (f + 1).toInt.toNat
      rw [show (f + 1).toInt.toNat = f.toInt.toNat + 1 by omega, ps_1, i6, i_nat, h _ (by omega), b2_mul]) N (0, 0, g) ⟨Int.le_refl 0, by show (0 : Int32).toInt ≤ 100; decide, rfl, rfl⟩ (by show 101 - _ < N; omega)
  rw [e, e2]
theorem c_shoes {N : Nat} {g : Sg} (h : 0 ≤ (g 1 4).toInt ∧ (g 1 4).toInt ≤ 5) : ∃ b : Int32, x_X5_shoes N g = some (b, g) ∧ b.toInt = 20 * (g 1 4).toInt := ⟨_, rfl, by rw [i_mul] <;> simp only [Int32.reduceToInt] <;> omega⟩
theorem tg {TX : TXt} {g : Sg} {S : SM} (h : Inv TX g S) : ∀ f : Nat, f < 100 → 0 ≤ (S.1 4 f).toInt := fun f hf => by
  have q := h.2.1 f hf
  rw [← q.1]; exact q.2.1
/-- the mark over all shoes -/
theorem c_markAll {TX : TXt} {g : Sg} {S : SM} (h : Inv TX g S) {N : Nat} (hN : 1000 < N) : ∃ G, ((x_X5_shoes N g).bind fun q1 => x_X7_markFitted N 0 q1.1 q1.2) = some G ∧ (∀ i, i ≠ 10 → G i = g i) ∧ ∀ f : Nat, f < 100 → G 10 f = b2 (an (fun x => sv (S.1 5) (S.1 6) (S.1 7) (S.1 8) x f) (20 * (g 1 4).toInt.toNat) = true) := by
  obtain ⟨k1, k2, k3⟩ := mk5 h
  obtain ⟨b, e1, e2⟩ := c_shoes (N := N) ⟨k2, k3⟩
  obtain ⟨G, e3, o, z⟩ := c_mark hN (a := 0) (b := b) (Rg_c h) ⟨k2, k3⟩ (Kg_c h) ⟨Int.le_refl 0, by rw [e2]; show (0 : Int) ≤ _; omega⟩ (by omega)
  refine ⟨G, by rw [e1]; exact e3, o, fun f hf => ?_⟩
  rw [z f hf, e2]
  refine b2_c ?_
  rw [show (20 * (g 1 4).toInt).toNat - (0 : Int32).toInt.toNat = 20 * (g 1 4).toInt.toNat by simp only [Int32.reduceToInt]; omega]
  rw [an_c (Q := fun x => sv (S.1 5) (S.1 6) (S.1 7) (S.1 8) x f) _ (fun x hx => ?_)]
  show sv _ _ _ _ ((0 : Int32).toInt.toNat + x) f = _
  rw [show (0 : Int32).toInt.toNat + x = x by simp only [Int32.reduceToInt]; omega, sv_cm h (by omega)]
theorem o_served {TX : TXt} {g : Sg} {S : SM} (h : Inv TX g S) {N : Nat} (hN : 1000 < N) (a : Int32) : Sim TX (x_X7_served N a g) (x_X8_served N a S) := by
  obtain ⟨k1, k2, k3⟩ := mk5 h
  unfold x_X7_served x_X8_served
  by_cases h1 : a = -1
  · rw [if_pos h1, if_pos h1]
    unfold x_X7_served_b19 x_X8_served_b16
    rw [if_pos h1, if_pos h1]
    obtain ⟨G, e, o, z⟩ := c_markAll h hN
    have hR : Rg (S.1 5) (S.1 6) (S.1 7) (S.1 0 15).toInt := by rw [← k1]; exact Rg_m h
    rw [m_servedAll (by omega) hR (by rw [← k1]; exact ⟨k2, k3⟩) (Kg_m h), ← k1]
    obtain ⟨b, e1, e2⟩ := c_shoes (N := N) ⟨k2, k3⟩
    rw [e1] at e ⊢
    simp only [Option.bind_some] at e ⊢
    rw [e]
    simp only [Option.bind_some]
    rw [c_sum (by omega) z]
    rw [o 11 (by omega), ps_congr (f := g 11) (f2 := S.1 4) (P2 := fun f => an (fun x => sv (S.1 5) (S.1 6) (S.1 7) (S.1 8) x f) (20 * (g 1 4).toInt.toNat)) 100 (fun f hf => ⟨rfl, fun _ => (h.2.1 f hf).1⟩)]
    exact Sim.mk (inv_g h (fun i hi => o i (by omega)))
  · rw [if_neg h1, if_neg h1, c_hasMake, m_isMake N a S (by rw [← k1]; exact k2), ← k1]
    simp only [Option.bind_some, b2_0]
    by_cases h2 : 0 ≤ a.toInt ∧ a.toInt < (g 1 4).toInt
    · rw [if_neg (show ¬ ¬ (0 ≤ a.toInt ∧ a.toInt < (g 1 4).toInt) from fun z => z h2), if_neg (show ¬ ¬ (0 ≤ a.toInt ∧ a.toInt < (g 1 4).toInt) from fun z => z h2)]
      unfold x_X7_served_b19 x_X8_served_b16
      rw [if_neg h1, if_neg h1, if_pos (show inb a 5 = true from i_inb.mpr ⟨by omega, by omega⟩)]
      have e1 := inc1 (x := a) (by omega)
      have ea : (a * 20).toInt = 20 * a.toInt := by rw [i_mul] <;> simp only [Int32.reduceToInt] <;> omega
      have eb : ((a + 1) * 20).toInt = 20 * a.toInt + 20 := by rw [i_mul, e1] <;> simp only [Int32.reduceToInt, e1] <;> omega
      obtain ⟨G, e3, o, z⟩ := c_mark hN (a := a * 20) (b := (a + 1) * 20) (Rg_c h) ⟨k2, k3⟩ (Kg_c h) (by omega) (by omega)
      rw [e3, m_servedBy (by omega) (Rg_m h) k3 h2 ((Kg_m h) _ (by rw [i_nat]; omega)).1 (tg h)]
      simp only [Option.bind_some]
      rw [c_sum (by omega) z]
      rw [o 11 (by omega), ps_congr (f := g 11) (f2 := S.1 4) (P2 := fun f => an (fun x => (S.1 8 a.toNatClampNeg).toInt.toNat.testBit x && fz (S.1 5) (S.1 6) (S.1 7) (20 * a.toInt.toNat + x) f) 20) 100 (fun f hf => ⟨?_, fun _ => (h.2.1 f hf).1⟩)]
      · exact Sim.mk (inv_g h (fun i hi => o i (by omega)))
      · rw [i_nat]
        show _ = an (fun x => (S.1 8 a.toInt.toNat).toInt.toNat.testBit x && fz (S.1 5) (S.1 6) (S.1 7) (20 * a.toInt.toNat + x) f) 20
        rw [sv_row, ea, eb, show (20 * a.toInt + 20).toNat - (20 * a.toInt).toNat = 20 by omega]
        refine an_c 20 (fun x hx => ?_)
        rw [show (20 * a.toInt).toNat + x = 20 * a.toInt.toNat + x by omega, sv_cm h (by omega)]
    · rw [if_pos h2, if_pos h2]; exact Sim.mk h
