/-! words -/
def Wd (k i : Nat) : Int32 := byWORDS.getD (6 * k + i) 0
def wm (tx : Nat → Int32) (q e k : Nat) : Prop := e - q ≤ 6 ∧ ∀ i : Nat, i < 6 → (if q + i < e then tx (q + i) else 32) = Wd k i
def L8 (k i : Nat) : Int32 := if i < 6 then (if Wd k i = 32 then 0 else Wd k i) else 0
theorem Wd_1 : ∀ k : Nat, k < 12 → ∀ i : Nat, i < 6 → ¬ Wd k i = 0 := by decide +kernel
theorem Wd_u : ∀ k : Nat, k < 12 → ∀ m : Nat, m < 12 → (∀ i : Nat, i < 6 → Wd k i = Wd m i) → k = m := by decide +kernel
theorem wm_u {tx : Nat → Int32} {q e k m : Nat} (hk : k < 12) (hm : m < 12) (h1 : wm tx q e k) (h2 : wm tx q e m) : k = m := Wd_u k hk m hm (fun i hi => (h1.2 i hi).symm.trans (h2.2 i hi))
theorem m_isLetter {N : Nat} {S : SM} {tx : Nat → Int32} {sz q e : Nat} (h : RT S tx sz) (h26 : (S.1 0 26).toInt = q) (h24 : (S.1 0 24).toInt = e) (he : e ≤ sz) (hqe : q ≤ e) (i : Nat) (hi : i < 8) {iI : Int32} (eI : iI.toInt = i) (l : Int32) : ∃ v, x_X8_isLetter N iI l S = some (v, S) ∧ (v = 0 ↔ ¬ (if q + i < e then tx (q + i) = l else l = 0)) := by
  have h160 := h.2.1
  have e1 : (S.1 0 26 + iI).toInt = ((q + i : Nat) : Int) := by rw [i_add, h26, eI] <;> omega
  have one0 : ¬ (1 : Int32) = 0 := by decide
  unfold x_X8_isLetter
  simp only [i_le]
  rw [h24, e1]
  by_cases c : q + i < e
  · rw [if_neg (by omega), m_byteAt h e1 (by omega), if_pos c]
    simp only [Option.bind_some]
    have ct : bt tx sz (q + i) = tx (q + i) := if_pos (by omega)
    rw [ct]
    by_cases d : tx (q + i) = l
    · rw [if_pos d]; exact ⟨1, rfl, ⟨fun z => absurd z one0, fun z => absurd d z⟩⟩
    · rw [if_neg d]; exact ⟨0, rfl, ⟨fun _ => d, fun _ => rfl⟩⟩
  · rw [if_pos (by omega), if_neg c]
    by_cases d : l = 0
    · rw [if_pos d]; exact ⟨1, rfl, ⟨fun z => absurd z one0, fun z => absurd d z⟩⟩
    · rw [if_neg d]; exact ⟨0, rfl, ⟨fun _ => d, fun _ => rfl⟩⟩
abbrev PL (tx : Nat → Int32) (q e k i : Nat) : Prop := if q + i < e then tx (q + i) = L8 k i else L8 k i = 0
theorem m_isWord {N : Nat} {S : SM} {tx : Nat → Int32} {sz q e k : Nat} (h : RT S tx sz) (hk : k < 12) (hb : S.1 0 29 = 0) (h25 : S.1 0 25 = 1) (h26 : (S.1 0 26).toInt = q) (h24 : (S.1 0 24).toInt = e) (hr : Run tx sz 0 q e) : ∃ v, x_X8_isWord N (L8 k 0) (L8 k 1) (L8 k 2) (L8 k 3) (L8 k 4) (L8 k 5) (L8 k 6) (L8 k 7) S = some (v, S) ∧ (v = 0 ↔ ¬ wm tx q e k) := by
  obtain ⟨r1, r2, r3, r4⟩ := hr
  have h160 := h.2.1
  have L := fun (i : Nat) (hi : i < 8) (iI : Int32) (eI : iI.toInt = i) => m_isLetter (N := N) h h26 h24 r2 r1 i hi eI (L8 k i)
  -- what all eight say
  have key : (e ≤ q + 8 ∧ ∀ i : Nat, i < 8 → PL tx q e k i) ↔ wm tx q e k := by
    constructor
    · rintro ⟨a, b⟩
      have l6 : ¬ q + 6 < e := fun z => by
        have b6 := b 6 (by omega)
        unfold PL at b6
        rw [if_pos z] at b6
        have s6 := so_0.mp (r3 (q + 6) (by omega) z)
        rw [b6] at s6
        exact absurd s6.1 (by show ¬ 97 ≤ (0 : Int32).toInt; decide)
      refine ⟨by omega, fun i hi => ?_⟩
      have bi := b i (by omega)
      have w0 := Wd_1 k hk i hi
      unfold PL L8 at bi
      rw [if_pos hi] at bi
      by_cases c : q + i < e
      · rw [if_pos c] at bi ⊢
        by_cases d : Wd k i = 32
        · rw [if_pos d] at bi
          have s6 := so_0.mp (r3 (q + i) (by omega) c)
          rw [bi] at s6
          exact absurd s6.1 (by show ¬ 97 ≤ (0 : Int32).toInt; decide)
        · rw [if_neg d] at bi; exact bi
      · rw [if_neg c] at bi ⊢
        by_cases d : Wd k i = 32
        · exact d.symm
        · rw [if_neg d] at bi; exact absurd bi w0
    · rintro ⟨a, b⟩
      refine ⟨by omega, fun i hi => ?_⟩
      unfold PL L8
      by_cases c6 : i < 6
      · have bi := b i c6
        rw [if_pos c6]
        by_cases c : q + i < e
        · rw [if_pos c] at bi ⊢
          have s6 := so_0.mp (r3 (q + i) (by omega) c)
          have d : ¬ Wd k i = 32 := fun d => by
            rw [bi, d] at s6
            exact absurd s6.1 (by show ¬ 97 ≤ (32 : Int32).toInt; decide)
          rw [if_neg d]; exact bi
        · rw [if_neg c] at bi ⊢
          rw [if_pos bi.symm]
      · rw [if_neg c6]
        rw [if_neg (show ¬ q + i < e by omega)]
  unfold x_X8_isWord
  rw [if_pos hb, if_pos h25]
  have e8 : (S.1 0 26 + 8).toInt = q + 8 := add_l h26 (by decide) (by omega)
  have one0 : ¬ (1 : Int32) = 0 := by decide
  have no : ∀ j : Nat, j < 8 → ¬ PL tx q e k j → ∃ v : Int32, some ((0 : Int32), S) = some (v, S) ∧ (v = 0 ↔ ¬ wm tx q e k) := fun j hj hn => ⟨0, rfl, ⟨fun _ z => hn ((key.mpr z).2 j hj), fun _ => rfl⟩⟩
  simp only [i_lt]
  rw [e8, h24]
  by_cases c8 : (q : Int) + 8 < e
  · rw [if_pos c8]
    exact ⟨0, rfl, ⟨fun _ z => by have := (key.mpr z).1; omega, fun _ => rfl⟩⟩
  · rw [if_neg c8]
    have hL : ∀ i : Nat, i < 8 → ∀ iI : Int32, iI.toInt = (i : Int) → ∃ v, x_X8_isLetter N iI (L8 k i) S = some (v, S) ∧ (v = 0 ↔ ¬ PL tx q e k i) := fun i hi iI eI => L i hi iI eI
    obtain ⟨v0, a0, b0⟩ := hL 0 (by omega) 0 (by decide)
    rw [a0]
    simp only [Option.bind_some]
    by_cases z0 : v0 = 0
    · rw [if_pos z0]; exact no 0 (by omega) (b0.mp z0)
    rw [if_neg z0]
    obtain ⟨v1, a1, b1⟩ := hL 1 (by omega) 1 (by decide)
    rw [a1]
    simp only [Option.bind_some]
    by_cases z1 : v1 = 0
    · rw [if_pos z1]; exact no 1 (by omega) (b1.mp z1)
    rw [if_neg z1]
    obtain ⟨v2, a2, b2'⟩ := hL 2 (by omega) 2 (by decide)
    rw [a2]
    simp only [Option.bind_some]
    by_cases z2 : v2 = 0
    · rw [if_pos z2]; exact no 2 (by omega) (b2'.mp z2)
    rw [if_neg z2]
    obtain ⟨v3, a3, b3⟩ := hL 3 (by omega) 3 (by decide)
    rw [a3]
    simp only [Option.bind_some]
    by_cases z3 : v3 = 0
    · rw [if_pos z3]; exact no 3 (by omega) (b3.mp z3)
    rw [if_neg z3]
    obtain ⟨v4, a4, b4⟩ := hL 4 (by omega) 4 (by decide)
    rw [a4]
    simp only [Option.bind_some]
    by_cases z4 : v4 = 0
    · rw [if_pos z4]; exact no 4 (by omega) (b4.mp z4)
    rw [if_neg z4]
    obtain ⟨v5, a5, b5⟩ := hL 5 (by omega) 5 (by decide)
    rw [a5]
    simp only [Option.bind_some]
    by_cases z5 : v5 = 0
    · rw [if_pos z5]; exact no 5 (by omega) (b5.mp z5)
    rw [if_neg z5]
    obtain ⟨v6, a6, b6⟩ := hL 6 (by omega) 6 (by decide)
    rw [a6]
    simp only [Option.bind_some]
    by_cases z6 : v6 = 0
    · rw [if_pos z6]; exact no 6 (by omega) (b6.mp z6)
    rw [if_neg z6]
    obtain ⟨v7, a7, b7⟩ := hL 7 (by omega) 7 (by decide)
    rw [a7]
    simp only [Option.bind_some]
    by_cases z7 : v7 = 0
    · rw [if_pos z7]; exact no 7 (by omega) (b7.mp z7)
    rw [if_neg z7]
    refine ⟨1, rfl, ⟨fun z => absurd z one0, fun z => absurd (key.mp ⟨by omega, fun i hi => ?_⟩) z⟩⟩
    have : i = 0 ∨ i = 1 ∨ i = 2 ∨ i = 3 ∨ i = 4 ∨ i = 5 ∨ i = 6 ∨ i = 7 := by omega
    rcases this with rfl | rfl | rfl | rfl | rfl | rfl | rfl | rfl
    · exact Decidable.byContradiction (fun w => z0 (b0.mpr w))
    · exact Decidable.byContradiction (fun w => z1 (b1.mpr w))
    · exact Decidable.byContradiction (fun w => z2 (b2'.mpr w))
    · exact Decidable.byContradiction (fun w => z3 (b3.mpr w))
    · exact Decidable.byContradiction (fun w => z4 (b4.mpr w))
    · exact Decidable.byContradiction (fun w => z5 (b5.mpr w))
    · exact Decidable.byContradiction (fun w => z6 (b6.mpr w))
    · exact Decidable.byContradiction (fun w => z7 (b7.mpr w))
