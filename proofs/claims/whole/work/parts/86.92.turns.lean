/-! the law's turns -/
theorem law_st {TX : TXt} {p : Option (Int32 × Sg)} {q : Option (Int32 × SM)} {b : Sg × SM → Option Unit} (h : Sim TX p q) (nx : ∀ G T, Inv TX G T → ∃ r, b (G, T) = some r) : ∃ r, (p.bind fun x => q.bind fun y => if x.1 = y.1 then b (x.2, y.2) else none) = some r := by
  obtain ⟨r, G, T, e1, e2, e3⟩ := h
  rw [e1, e2]
  simp only [Option.bind_some, if_true]
  exact nx G T e3
theorem law_sl {TX : TXt} {p : Option (Int64 × Sg)} {q : Option (Int64 × SM)} {b : Sg × SM → Option Unit} (h : SimL TX p q) (nx : ∀ G T, Inv TX G T → ∃ r, b (G, T) = some r) : ∃ r, (p.bind fun x => q.bind fun y => if lg_cmp x.1 y.1 = 0 then b (x.2, y.2) else none) = some r := by
  obtain ⟨r, G, T, e1, e2, e3⟩ := h
  rw [e1, e2]
  simp only [Option.bind_some]
  rw [if_pos (cmp_0.mpr rfl)]
  exact nx G T e3
theorem law_all {N L : Nat} (hN : 1150 < N) (hL : L ≤ 3072) (xs : Nat → Int32) (hText : ∀ g S, Inv (TXs N) g S → Sim (TXs N) (x_X7_text N g) (x_X8_text N S)) {g : Sg} {S : SM} (h : Inv (TXs N) g S) : ∃ r, x_L_law N L xs 0 (g, S) = some r := by
  unfold x_L_law
  have eL : (Int32.ofNat L).toInt = L := ofn (by omega)
  have e6 : (Int32.ofNat L - 6).toInt = (L : Int) - 6 := sub_l eL (by decide) (by omega)
  obtain ⟨r, e, _⟩ := lp_tot (F := x_L_law_B18 N L xs) (fun x => (3100 - x.1.toInt.toNat) / 6) (fun x => 0 ≤ x.1.toInt ∧ x.1.toInt ≤ 3090 ∧ Inv (TXs N) x.2.1 x.2.2) (fun _ _ => True) (by
    intro hh ⟨i, G, T⟩ ⟨j1, j2, j3⟩ ih
    have i1 : 0 ≤ i.toInt := j1
    have i2 : i.toInt ≤ 3090 := j2
    have hI : Inv (TXs N) G T := j3
    clear j1 j2 j3
    unfold x_L_law_B18
    by_cases c1 : Int32.ofNat L - 6 < i
    · rw [if_pos c1]; exact ⟨_, rfl, trivial⟩
    · rw [if_neg c1]
      rw [i_lt, e6] at c1
      have b0 : inb i L = true := i_inb.mpr ⟨i1, by omega⟩
      have a1 : (i + 1).toInt = i.toInt + 1 := add_l rfl (by decide) (by omega)
      have a2 : (i + 2).toInt = i.toInt + 2 := add_l rfl (by decide) (by omega)
      have a3 : (i + 3).toInt = i.toInt + 3 := add_l rfl (by decide) (by omega)
      have a4 : (i + 4).toInt = i.toInt + 4 := add_l rfl (by decide) (by omega)
      have a5 : (i + 5).toInt = i.toInt + 5 := add_l rfl (by decide) (by omega)
      have a6 : (i + 6).toInt = i.toInt + 6 := add_l rfl (by decide) (by omega)
      have b1 : inb (i + 1) L = true := i_inb.mpr ⟨by omega, by omega⟩
      have b2 : inb (i + 2) L = true := i_inb.mpr ⟨by omega, by omega⟩
      have b3 : inb (i + 3) L = true := i_inb.mpr ⟨by omega, by omega⟩
      have b4 : inb (i + 4) L = true := i_inb.mpr ⟨by omega, by omega⟩
      have b5 : inb (i + 5) L = true := i_inb.mpr ⟨by omega, by omega⟩
      have nx : ∀ G' T', Inv (TXs N) G' T' → ∃ r, x_L_law_b1065 N L xs hh i (G', T') = some r := by
        intro G' T' h'
        unfold x_L_law_b1065
        simp only [lt]
        obtain ⟨r, e, _⟩ := ih (i + 6, G', T') ⟨by show 0 ≤ (i + 6).toInt; omega, by show (i + 6).toInt ≤ 3090; omega, h'⟩ (by show (3100 - (i + 6).toInt.toNat) / 6 < (3100 - i.toInt.toNat) / 6; omega)
        exact ⟨r, e⟩
      suffices hs : ∃ r, _ = some r from hs.elim (fun r e => ⟨r, e, trivial⟩)
      simp only [b0, b1, b2, b3, b4, b5, if_true]
      generalize (xs i.toNatClampNeg &&& 31).toInt = w
      by_cases cw : w < 0 ∨ 27 < w
      · rw [if_pos cw]; exact nx G T hI
      rw [if_neg cw]
      by_cases c100 : (w - 0).toNat = 0
      · rw [if_pos c100]; exact law_st (o_set hI N _ _ _) nx
      rw [if_neg c100]
      by_cases c101 : (w - 0).toNat = 1
      · rw [if_pos c101]; exact law_st (o_make hI N _ _ _) nx
      rw [if_neg c101]
      by_cases c102 : (w - 0).toNat = 2
      · rw [if_pos c102]; exact law_st (o_told hI foot_ok _ _) nx
      rw [if_neg c102]
      by_cases c103 : (w - 0).toNat = 3
      · rw [if_pos c103]; exact law_st (o_fit hI (by omega) _ _) nx
      rw [if_neg c103]
      by_cases c104 : (w - 0).toNat = 4
      · rw [if_pos c104]; exact law_st (o_feed hI N _) nx
      rw [if_neg c104]
      by_cases c105 : (w - 0).toNat = 5
      · rw [if_pos c105]; exact law_st (hText _ _ hI) nx
      rw [if_neg c105]
      by_cases c106 : (w - 0).toNat = 6
      · rw [if_pos c106]; exact law_st (o_force hI N _) nx
      rw [if_neg c106]
      by_cases c107 : (w - 0).toNat = 7
      · rw [if_pos c107]; exact law_st (o_canBe hI (by omega) _ _) nx
      rw [if_neg c107]
      by_cases c108 : (w - 0).toNat = 8
      · rw [if_pos c108]; exact law_st (o_fetch hI (by omega) _ _) nx
      rw [if_neg c108]
      by_cases c109 : (w - 0).toNat = 9
      · rw [if_pos c109]; exact law_st (o_goes hI (by omega) _) nx
      rw [if_neg c109]
      by_cases c110 : (w - 0).toNat = 10
      · rw [if_pos c110]; exact law_st (o_worst hI (by omega) _) nx
      rw [if_neg c110]
      by_cases c111 : (w - 0).toNat = 11
      · rw [if_pos c111]; exact law_st (o_pair (by omega) hI _) nx
      rw [if_neg c111]
      by_cases c112 : (w - 0).toNat = 12
      · rw [if_pos c112]; exact law_st (o_served hI (by omega) _) nx
      rw [if_neg c112]
      by_cases c113 : (w - 0).toNat = 13
      · rw [if_pos c113]; exact law_st (o_order hI hN _ _ _) nx
      rw [if_neg c113]
      by_cases c114 : (w - 0).toNat = 14
      · rw [if_pos c114]; exact law_st (o_missing hI (by omega) _) nx
      rw [if_neg c114]
      by_cases c115 : (w - 0).toNat = 15
      · rw [if_pos c115]; exact law_st (o_lies hI (by omega) _) nx
      rw [if_neg c115]
      by_cases c116 : (w - 0).toNat = 16
      · rw [if_pos c116]; exact law_st (o_runs hI (by omega) _ _ _ _) nx
      rw [if_neg c116]
      by_cases c117 : (w - 0).toNat = 17
      · rw [if_pos c117]; exact law_st (o_film hI (by omega) _ _ _) nx
      rw [if_neg c117]
      by_cases c118 : (w - 0).toNat = 18
      · rw [if_pos c118]; exact law_st (o_drawn hI (by omega) _) nx
      rw [if_neg c118]
      by_cases c119 : (w - 0).toNat = 19
      · rw [if_pos c119]; exact law_sl (o_chance hI (by omega) _ _ _) nx
      rw [if_neg c119]
      by_cases c120 : (w - 0).toNat = 20
      · rw [if_pos c120]; exact law_st (o_image hI (by omega)) nx
      rw [if_neg c120]
      by_cases c121 : (w - 0).toNat = 21
      · rw [if_pos c121]; exact law_st (o_back hI (by omega)) nx
      rw [if_neg c121]
      by_cases c122 : (w - 0).toNat = 22
      · rw [if_pos c122]; exact law_st (o_count hI (by omega) _) nx
      rw [if_neg c122]
      by_cases c123 : (w - 0).toNat = 23
      · rw [if_pos c123]; exact law_st (o_sheet hI (by omega) _ _ _) nx
      rw [if_neg c123]
      by_cases c124 : (w - 0).toNat = 24
      · rw [if_pos c124]; exact law_st (o_cell hI N _ _ _) nx
      rw [if_neg c124]
      by_cases c125 : (w - 0).toNat = 25
      · rw [if_pos c125]; exact law_st (o_copy hI (by omega) _ _ _ _ _) nx
      rw [if_neg c125]
      by_cases c126 : (w - 0).toNat = 26
      · rw [if_pos c126]; exact law_st (o_town hI (by omega) _ _ _ _) nx
      rw [if_neg c126]
      by_cases c127 : (w - 0).toNat = 27
      · rw [if_pos c127]; exact law_st (o_taken hI (by omega) _ _) nx
      rw [if_neg c127]
      omega) N (0, g, S) ⟨Int.le_refl 0, by show (0 : Int32).toInt ≤ 3090; decide, h⟩ (by show (3100 - 0) / 6 < N; omega)
  exact ⟨r, e⟩
