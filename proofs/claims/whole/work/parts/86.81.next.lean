theorem so_c (v : Int32) : so v = 0 ∨ so v = 1 ∨ so v = 2 ∨ so v = 3 := by
  unfold so
  split
  · exact Or.inl rfl
  · split
    · exact Or.inr (Or.inl rfl)
    · split
      · exact Or.inr (Or.inr (Or.inl rfl))
      · exact Or.inr (Or.inr (Or.inr rfl))
/-- what next does from p on -/
def NX (tx : Nat → Int32) (sz p : Nat) (S T : SM) : Prop := Fr3 S T ∧ ∃ q : Nat, p ≤ q ∧ q ≤ sz ∧ (∀ j, p ≤ j → j < q → so (tx j) = 2) ∧ (T.1 0 26).toInt = q ∧ ((q = sz ∧ T.1 0 25 = 0 ∧ (T.1 0 24).toInt = q) ∨ (q < sz ∧ so (tx q) = 0 ∧ T.1 0 25 = 1 ∧ ∃ e : Nat, Run tx sz 0 q e ∧ (T.1 0 24).toInt = e) ∨ (q < sz ∧ so (tx q) = 1 ∧ ∃ e : Nat, Run tx sz 1 q e ∧ (T.1 0 24).toInt = e ∧ T.1 0 25 = (if e - q ≤ 4 then 2 else 4) ∧ (e - q ≤ 4 → T.2.toInt = numv tx q (e - q))) ∨ (q < sz ∧ so (tx q) = 3 ∧ sg (tx q) ∧ T.1 0 25 = 3 ∧ T.2.toInt = (tx q).toInt ∧ (T.1 0 24).toInt = q + 1) ∨ (q < sz ∧ so (tx q) = 3 ∧ ¬ sg (tx q) ∧ T.1 0 25 = 4))
theorem m_next {N : Nat} (hN : 300 < N) {S : SM} {tx : Nat → Int32} {sz p : Nat} (h : RT S tx sz) (h24 : (S.1 0 24).toInt = p) (hp : p ≤ sz) : ∃ T, x_X8_next N S = some T ∧ NX tx sz p S T := by
  unfold x_X8_next
  refine lp_tot (F := x_X8_next_B0 N) (fun X => 200 - (X.1 0 24).toInt.toNat) (fun X => ∃ q : Nat, (X.1 0 24).toInt = q ∧ p ≤ q ∧ q ≤ sz ∧ (∀ j, p ≤ j → j < q → so (tx j) = 2) ∧ Fr3 S X) (fun _ T => NX tx sz p S T) ?_ N S ⟨p, h24, Nat.le_refl _, hp, fun j a b => by omega, Fr3_r S⟩ (by omega)
  intro hh X ⟨q, p1, p2, p3, p4, p5⟩ ih
  have hX : RT X tx sz := RT_f h p5
  have h160 := h.2.1
  have i32 : (32 : Int32).toInt = 32 := by decide
  have i10 : (10 : Int32).toInt = 10 := by decide
  have m1 : (-1 : Int32).toInt = -1 := by decide
  unfold x_X8_next_B0
  rw [m_byteAt hX p1 (by omega)]
  simp only [Option.bind_some]
  have e1 := inc1 (x := X.1 0 24) (by omega)
  -- over a blank
  have blank : so (bt tx sz q) = 2 → ∃ r, x_X8_next_b26 N hh X = some r ∧ NX tx sz p S r := by
    intro hb
    have hq : q < sz := by
      refine Decidable.byContradiction (fun z => ?_)
      unfold bt at hb
      rw [if_neg z] at hb
      exact absurd hb (by decide)
    have ct : bt tx sz q = tx q := if_pos hq
    rw [ct] at hb
    unfold x_X8_next_b26
    simp only [lt]
    exact ih (st0 X 24 (X.1 0 24 + 1)) ⟨q + 1, by rw [st0_s]; omega, by omega, by omega, fun j a b => by
      by_cases d : j = q
      · rw [d]; exact hb
      · exact p4 j a (by omega), Fr3_t p5 (Fr3_0 X 24 _ (by omega))⟩ (by rw [st0_s]; omega)
  by_cases c1 : bt tx sz q = 32
  · rw [if_pos c1]; exact blank (so_2.mpr (Or.inl (by rw [c1]; decide)))
  rw [if_neg c1, m_byteAt hX p1 (by omega)]
  simp only [Option.bind_some]
  by_cases c2 : bt tx sz q = 10
  · rw [if_pos c2]; exact blank (so_2.mpr (Or.inr (by rw [c2]; decide)))
  rw [if_neg c2]
  simp only [lt]
  -- the token's place is kept
  have s1 : Fr3 S (st0 X 26 (X.1 0 24)) := Fr3_t p5 (Fr3_0 X 26 _ (by omega))
  have r1 : RT (st0 X 26 (X.1 0 24)) tx sz := RT_f h s1
  have k24 : ((st0 X 26 (X.1 0 24)).1 0 24).toInt = q := by rw [st0_n _ _ _ (by omega)]; exact p1
  have k26 : ((st0 X 26 (X.1 0 24)).1 0 26).toInt = q := by rw [st0_s]; exact p1
  show ∃ r, ((x_X8_byteAt N ((st0 X 26 (X.1 0 24)).1 0 24) (st0 X 26 (X.1 0 24))).bind fun q7 => _) = some r ∧ _
  rw [m_byteAt r1 k24 (by omega)]
  simp only [Option.bind_some]
  generalize st0 X 26 (X.1 0 24) = Y at *
  have s2 : Fr3 S (st0 Y 25 4) := Fr3_t s1 (Fr3_0 Y 25 _ (by omega))
  have j24 : ((st0 Y 25 4).1 0 24).toInt = q := by rw [st0_n _ _ _ (by omega)]; exact k24
  have j26 : ((st0 Y 25 4).1 0 26).toInt = q := by rw [st0_n _ _ _ (by omega)]; exact k26
  have j25 : (st0 Y 25 4).1 0 25 = 4 := st0_s _ _ _
  have eY : ((up Y.1 0 (upd (Y.1 0) 25 4), Y.2) : SM) = st0 Y 25 4 := rfl
  obtain ⟨Z, hZ⟩ : ∃ Z, Z = st0 Y 25 4 := ⟨_, rfl⟩
  rw [← hZ] at s2 j24 j26 j25 eY
  rw [eY]
  have rZ : RT Z tx sz := RT_f h s2
  by_cases c3 : (0 : Int32) ≤ bt tx sz q
  · rw [if_pos c3, m_in]
    simp only [Option.bind_some, b2_0, i_l64, Int64.reduceToInt]
    have hq : q < sz := by
      refine Decidable.byContradiction (fun z => ?_)
      unfold bt at c3
      rw [if_neg z] at c3
      exact absurd c3 (by decide)
    have ct : bt tx sz q = tx q := if_pos hq
    rw [ct] at c1 c2 ⊢
    have n2 : ¬ so (tx q) = 2 := fun z => by
      rcases so_2.mp z with z | z
      · exact c1 (i_eq.mpr (by rw [z, i32]))
      · exact c2 (i_eq.mpr (by rw [z, i10]))
    by_cases c4 : 97 ≤ (tx q).toInt ∧ (tx q).toInt ≤ 122
    · rw [if_neg (fun z => z c4)]
      have s3 : Fr3 S (st0 Z 25 1) := Fr3_t s2 (Fr3_0 Z 25 _ (by omega))
      obtain ⟨T, e, t1, t2, t3, t4, t5, t6⟩ := m_lets (N := N) hN (S := st0 Z 25 1) (RT_f h s3) (q := q) (by rw [st0_n _ _ _ (by omega)]; exact j24) (by omega)
      show ∃ r, lp (x_X8_next_B100 N) N (st0 Z 25 1) = some r ∧ _
      rw [t1]
      refine ⟨T, rfl, Fr3_t s3 ⟨t6, fun k hk => t4 k (by omega)⟩, q, p2, p3, p4, by rw [t4 26 (by omega), st0_n _ _ _ (by omega)]; exact j26, Or.inr (Or.inl ⟨hq, so_0.mpr c4, by rw [t4 25 (by omega), st0_s], e, t2, t3⟩)⟩
    · rw [if_pos c4, m_in]
      simp only [Option.bind_some, b2_0, i_l64, Int64.reduceToInt]
      by_cases c5 : 48 ≤ (tx q).toInt ∧ (tx q).toInt ≤ 57
      · rw [if_neg (fun z => z c5)]
        have s3 : Fr3 S (st0 Z 25 2) := Fr3_t s2 (Fr3_0 Z 25 _ (by omega))
        have s4 : Fr3 S ((st0 Z 25 2).1, 0) := Fr3_t s3 (Fr3_2 _ _)
        obtain ⟨T, e, t1, t2, t3, t4, t5, t6, t7⟩ := m_digs (N := N) hN (S := ((st0 Z 25 2).1, 0)) (RT_f h s4) (q := q) (by show ((st0 Z 25 2).1 0 24).toInt = _; rw [st0_n _ _ _ (by omega)]; exact j24) (by omega) rfl
        show ∃ r, lp (x_X8_next_B160 N) N (0, ((st0 Z 25 2).1, 0)) = some r ∧ _
        rw [t1]
        refine ⟨T, rfl, Fr3_t s4 ⟨t7, fun k hk => t6 k (by omega) (by omega)⟩, q, p2, p3, p4, by rw [t6 26 (by omega) (by omega)]; show ((st0 Z 25 2).1 0 26).toInt = _; rw [st0_n _ _ _ (by omega)]; exact j26, Or.inr (Or.inr (Or.inl ⟨hq, so_1.mpr c5, e, t2, t3, t4, t5⟩))⟩
      · rw [if_pos c5]
        have s3n : so (tx q) = 3 := by
          have n0 : ¬ so (tx q) = 0 := fun z => c4 (so_0.mp z)
          have n1 : ¬ so (tx q) = 1 := fun z => c5 (so_1.mp z)
          have := so_c (tx q)
          omega
        have sign : sg (tx q) → ∃ r, x_X8_next_b300 N (tx q) Z = some r ∧ NX tx sz p S r := by
          intro hs
          unfold x_X8_next_b300
          simp only [lt]
          have s3 : Fr3 S (st0 Z 25 3) := Fr3_t s2 (Fr3_0 Z 25 _ (by omega))
          have s4 : Fr3 S ((st0 Z 25 3).1, (tx q).toInt64) := Fr3_t s3 (Fr3_2 _ _)
          have o24 : ((st0 Z 25 3).1 0 24).toInt = q := by rw [st0_n _ _ _ (by omega)]; exact j24
          have e2 := inc1 (x := (st0 Z 25 3).1 0 24) (by omega)
          refine ⟨st0 ((st0 Z 25 3).1, (tx q).toInt64) 24 ((st0 Z 25 3).1 0 24 + 1), rfl, Fr3_t s4 (Fr3_0 _ 24 _ (by omega)), q, p2, p3, p4, ?_, Or.inr (Or.inr (Or.inr (Or.inl ⟨hq, s3n, hs, ?_, ?_, ?_⟩)))⟩
          · rw [st0_n _ _ _ (by omega)]
            show ((st0 Z 25 3).1 0 26).toInt = _
            rw [st0_n _ _ _ (by omega)]; exact j26
          · rw [st0_n _ _ _ (by omega)]
            show (st0 Z 25 3).1 0 25 = 3
            exact st0_s _ _ _
          · exact i_l64 _
          · rw [st0_s]; omega
        by_cases d1 : tx q = 40
        · rw [if_pos d1]; exact sign (Or.inl d1)
        rw [if_neg d1]
        by_cases d2 : tx q = 41
        · rw [if_pos d2]; exact sign (Or.inr (Or.inl d2))
        rw [if_neg d2]
        by_cases d3 : tx q = 59
        · rw [if_pos d3]; exact sign (Or.inr (Or.inr (Or.inl d3)))
        rw [if_neg d3]
        by_cases d4 : tx q = 43
        · rw [if_pos d4]; exact sign (Or.inr (Or.inr (Or.inr (Or.inl d4))))
        rw [if_neg d4]
        by_cases d5 : tx q = 45
        · rw [if_pos d5]; exact sign (Or.inr (Or.inr (Or.inr (Or.inr (Or.inl d5)))))
        rw [if_neg d5]
        by_cases d6 : tx q = 42
        · rw [if_pos d6]; exact sign (Or.inr (Or.inr (Or.inr (Or.inr (Or.inr (Or.inl d6))))))
        rw [if_neg d6]
        by_cases d7 : tx q = 60
        · rw [if_pos d7]; exact sign (Or.inr (Or.inr (Or.inr (Or.inr (Or.inr (Or.inr (Or.inl d7)))))))
        rw [if_neg d7]
        by_cases d8 : tx q = 61
        · rw [if_pos d8]; exact sign (Or.inr (Or.inr (Or.inr (Or.inr (Or.inr (Or.inr (Or.inr d8)))))))
        rw [if_neg d8]
        refine ⟨Z, rfl, s2, q, p2, p3, p4, j26, Or.inr (Or.inr (Or.inr (Or.inr ⟨hq, s3n, ?_, j25⟩)))⟩
        rintro (z | z | z | z | z | z | z | z)
        · exact d1 z
        · exact d2 z
        · exact d3 z
        · exact d4 z
        · exact d5 z
        · exact d6 z
        · exact d7 z
        · exact d8 z
  · rw [if_neg c3]
    have hq : q = sz := by
      refine Decidable.byContradiction (fun z => c3 ?_)
      have hq : q < sz := by omega
      unfold bt
      rw [if_pos hq, i_le]
      exact (hX.2.2.2 q hq).2.1
    have s3 : Fr3 S (st0 Z 25 0) := Fr3_t s2 (Fr3_0 Z 25 _ (by omega))
    refine ⟨st0 (st0 Z 25 0) 26 ((st0 Z 25 0).1 0 23), by rw [hZ]; rfl, Fr3_t s3 (Fr3_0 _ 26 _ (by omega)), q, p2, p3, p4, ?_, Or.inl ⟨hq, ?_, ?_⟩⟩
    · rw [st0_s, st0_n _ _ _ (by omega), rZ.1, hq]
    · rw [st0_n _ _ _ (by omega)]; exact st0_s Z 25 0
    · rw [st0_n _ _ _ (by omega), st0_n _ _ _ (by omega)]; exact j24
