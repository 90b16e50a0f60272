theorem or_n {a b : Int32} {m n k : Nat} (ha : a.toInt = m) (hb : b.toInt = n) (hm : m < 2 ^ k) (hn : n < 2 ^ k) (hk : k ≤ 31) : (a ||| b).toInt = ((m ||| n : Nat) : Int) := by
  have h1 := Nat.or_lt_two_pow hm hn
  have h2 : 2 ^ k ≤ 2147483648 := Nat.pow_le_pow_right (n := 2) (i := k) (j := 31) (by decide) hk
  refine nz ?_ (by omega)
  rw [Int32.toBitVec_or, BitVec.toNat_or, tn_v ha, tn_v hb]
def Vis : Nat → Nat → Nat → Nat → Prop
  | 0, _, set, t => t = set
  | n + 1, z0, set, t => ∃ z, z0 ≤ z ∧ z < 20 ∧ Vis n (z + 1) (set ||| 2 ^ z) t
def RB (V : Nat → Int) (Seen : Nat → Prop) (S : SM) : Prop := ((∀ t, ¬ Seen t) ∧ S.1 0 41 = -1) ∨ BR V Seen (S.1 0 40).toInt (S.1 0 41).toInt
def F4 (S T : SM) : Prop := (∀ j : Nat, j ≠ 0 → T.1 j = S.1 j) ∧ ∀ k : Nat, ¬ (k = 40 ∨ k = 41) → T.1 0 k = S.1 0 k
theorem RB_c {V : Nat → Int} {A B : Nat → Prop} {S : SM} (h : ∀ t, A t ↔ B t) (hB : RB V A S) : RB V B S := by
  have : A = B := funext (fun t => propext (h t))
  rw [← this]; exact hB
theorem m_leaf {N : Nat} (hN : 200 < N) {rec : Nat → Int32 → Int32 → Int32 → SM → Option SM} {s z : Int32} {S : SM} {fit : Nat → Nat → Bool} {V : Nat → Int} {Seen : Nat → Prop} (hF : Fw fit S) (hs : 0 ≤ s.toInt ∧ s.toInt ≤ 1048575) (hV : V s.toInt.toNat = (ps (S.1 4) (fun f => an (fun z => s.toInt.toNat.testBit z && fit z f) 20) 100).toInt) (hVb : ∀ s, 0 ≤ V s ∧ V s ≤ 900) (hB : RB V Seen S) : ∃ T, x_X8_orders N rec s z 0 S = some T ∧ F4 S T ∧ RB V (fun t => Seen t ∨ t = s.toInt.toNat) T := by
  unfold x_X8_orders x_X8_orders_b37
  rw [if_pos rfl, m_svs hN hF hs]
  simp only [Option.bind_some]
  generalize ps (S.1 4) (fun f => an (fun z => s.toInt.toNat.testBit z && fit z f) 20) 100 = v at hV ⊢
  have hvb := hVb s.toInt.toNat
  have hn : ((s.toInt.toNat : Nat) : Int) = s.toInt := by omega
  simp only [i_lt, i_le, lt]
  -- the set is taken
  have take : (BR V (fun t => Seen t ∨ t = s.toInt.toNat) s.toInt v.toInt) → ∃ T, some (up (up S.1 0 (upd (S.1 0) 41 v)) 0 (upd (up S.1 0 (upd (S.1 0) 41 v) 0) 40 s), S.2) = some T ∧ F4 S T ∧ RB V (fun t => Seen t ∨ t = s.toInt.toNat) T := by
    intro hb
    refine ⟨_, rfl, ⟨fun j hj => ?_, fun k hk => ?_⟩, Or.inr ?_⟩
    · show up (up S.1 0 (upd (S.1 0) 41 v)) 0 (upd (up S.1 0 (upd (S.1 0) 41 v) 0) 40 s) j = _
      rw [up_n _ _ hj, up_n _ _ hj]
    · show upd (upd (S.1 0) 41 v) 40 s k = _
      rw [upd_n _ _ (by omega), upd_n _ _ (by omega)]
    · exact hb
  have new : (∀ t, Seen t → V t < v.toInt ∨ (V t = v.toInt ∧ s.toInt ≤ t)) → BR V (fun t => Seen t ∨ t = s.toInt.toNat) s.toInt v.toInt := fun h => ⟨⟨s.toInt.toNat, Or.inr rfl, hn.symm, hV.symm⟩, fun t ht => by
    rcases ht with ht | ht
    · exact h t ht
    · rw [ht, hV]; exact Or.inr ⟨rfl, by omega⟩⟩
  rcases hB with ⟨b1, b2⟩ | hb
  · have m1 : (-1 : Int32).toInt = -1 := by decide
    rw [b2, m1, if_pos (by omega)]
    exact take (new (fun t ht => absurd ht (b1 t)))
  · obtain ⟨⟨t, t1, t2, t3⟩, t4⟩ := id hb
    have keep : (V s.toInt.toNat < (S.1 0 41).toInt ∨ (V s.toInt.toNat = (S.1 0 41).toInt ∧ (S.1 0 40).toInt ≤ s.toInt)) → ∃ T, some S = some T ∧ F4 S T ∧ RB V (fun t => Seen t ∨ t = s.toInt.toNat) T := fun h => ⟨S, rfl, ⟨fun _ _ => rfl, fun _ _ => rfl⟩, Or.inr ⟨⟨t, Or.inl t1, t2, t3⟩, fun u hu => by
      rcases hu with hu | hu
      · exact t4 u hu
      · rw [hu]
        rcases h with h | ⟨h1, h2⟩
        · exact Or.inl h
        · exact Or.inr ⟨h1, by omega⟩⟩⟩
    by_cases c1 : (S.1 0 41).toInt < v.toInt
    · rw [if_pos c1]
      exact take (new (fun u hu => by have := t4 u hu; omega))
    · rw [if_neg c1]
      by_cases c2 : v = S.1 0 41
      · rw [if_pos c2]
        have c2 : v.toInt = (S.1 0 41).toInt := by rw [c2]
        by_cases c3 : (S.1 0 40).toInt ≤ s.toInt
        · rw [if_pos c3]; exact keep (Or.inr ⟨by omega, c3⟩)
        · rw [if_neg c3]
          exact take (new (fun u hu => by have := t4 u hu; omega))
      · rw [if_neg c2]
        have c2 : ¬ v.toInt = (S.1 0 41).toInt := fun z => c2 (i_eq.mpr z)
        exact keep (Or.inl (by omega))
theorem m_orders {N : Nat} (hN : 200 < N) {fit : Nat → Nat → Bool} {V : Nat → Int} {tw : Nat → Int32} (hV : ∀ s : Nat, V s = (ps tw (fun f => an (fun z => s.testBit z && fit z f) 20) 100).toInt) (hVb : ∀ s, 0 ≤ V s ∧ V s ≤ 900) : ∀ (n e : Nat), n ≤ 3 → ∀ (s z0 n' : Int32) (S : SM) (Seen : Nat → Prop), S.1 4 = tw → Fw fit S → (0 ≤ s.toInt ∧ s.toInt ≤ 1048575) → (0 ≤ z0.toInt ∧ z0.toInt ≤ 20) → n'.toInt = n → RB V Seen S → ∃ T, gr_O N (n + 1 + e) 0 s z0 n' S = some T ∧ F4 S T ∧ RB V (fun t => Seen t ∨ Vis n z0.toInt.toNat s.toInt.toNat t) T := by
  intro n
  induction n with
  | zero =>
    intro e _ s z0 n' S Seen h4 hF hs hz hn hB
    rw [show 0 + 1 + e = e + 1 by omega]
    show ∃ T, x_X8_orders N (gr_O N e) s z0 n' S = some T ∧ _
    have : n' = 0 := i_eq.mpr hn
    subst this
    exact m_leaf hN hF hs (by rw [hV, h4]) hVb hB
  | succ n ih =>
    intro e hn3 s z0 n' S Seen h4 hF hs hz hn hB
    rw [show n + 1 + 1 + e = (n + 1 + e) + 1 by omega]
    show ∃ T, x_X8_orders N (gr_O N (n + 1 + e)) s z0 n' S = some T ∧ _
    have nn : ¬ n' = 0 := fun q => by rw [q] at hn; have : (0 : Int32).toInt = 0 := by decide
                                      omega
    unfold x_X8_orders
    rw [if_neg nn]
    refine lp_tot (F := x_X8_orders_B52 N (gr_O N (n + 1 + e))) (fun y => 21 - y.2.2.1.toInt.toNat) (fun y => y.1 = s ∧ y.2.1 = n' ∧ (z0.toInt ≤ y.2.2.1.toInt ∧ y.2.2.1.toInt ≤ 20) ∧ F4 S y.2.2.2 ∧ RB V (fun t => Seen t ∨ ∃ q, z0.toInt.toNat ≤ q ∧ q < y.2.2.1.toInt.toNat ∧ Vis n (q + 1) (s.toInt.toNat ||| 2 ^ q) t) y.2.2.2) (fun _ T => F4 S T ∧ RB V (fun t => Seen t ∨ Vis (n + 1) z0.toInt.toNat s.toInt.toNat t) T) ?_ N (s, n', z0, S) ⟨rfl, rfl, ⟨Int.le_refl _, hz.2⟩, ⟨fun _ _ => rfl, fun _ _ => rfl⟩, RB_c (fun t => ⟨Or.inl, fun w => w.elim id (fun ⟨q, h1, h2, _⟩ => absurd h2 (by show ¬ q < z0.toInt.toNat; omega))⟩) hB⟩ (by show 21 - _ < N; omega)
    intro hh ⟨y1, y2, z, T⟩ ⟨j1, j2, j3, j4, j5⟩ ih2
    have i1 : y1 = s := j1
    have i2 : y2 = n' := j2
    have i3 : z0.toInt ≤ z.toInt ∧ z.toInt ≤ 20 := j3
    have i4 : F4 S T := j4
    have i5 : RB V (fun t => Seen t ∨ ∃ q, z0.toInt.toNat ≤ q ∧ q < z.toInt.toNat ∧ Vis n (q + 1) (s.toInt.toNat ||| 2 ^ q) t) T := j5
    clear j1 j2 j3 j4 j5
    subst i1; subst i2
    unfold x_X8_orders_B52
    simp only [i_le, Int32.reduceToInt]
    by_cases c1 : 20 ≤ z.toInt
    · rw [if_pos c1]
      refine ⟨_, rfl, i4, RB_c (fun t => ?_) i5⟩
      rw [show z.toInt.toNat = 20 by omega]
      exact Iff.rfl
    · rw [if_neg c1]
      obtain ⟨o1, o2⟩ := one_sh (z := z) (by omega)
      have p20 : 2 ^ z.toInt.toNat < 2 ^ 20 := Nat.pow_lt_pow_right (by decide) (by omega)
      have es : (y1 ||| ((1 : Int32) <<< (z &&& 31))).toInt = ((y1.toInt.toNat ||| 2 ^ z.toInt.toNat : Nat) : Int) := or_n (k := 20) (by omega) (by rw [← o2]; omega) (show y1.toInt.toNat < 1048576 by omega) p20 (by decide)
      have bo : y1.toInt.toNat ||| 2 ^ z.toInt.toNat < 2 ^ 20 := Nat.or_lt_two_pow (show y1.toInt.toNat < 1048576 by omega) p20
      have bo : y1.toInt.toNat ||| 2 ^ z.toInt.toNat < 1048576 := bo
      generalize y1 ||| ((1 : Int32) <<< (z &&& 31)) = s2 at es ⊢
      have e1 := inc1 (x := z) (by omega)
      have en : (y2 - 1).toInt = n := by rw [sub_l hn (k := 1) (by decide) (by omega)]; omega
      obtain ⟨U, u1, u2, u3⟩ := ih e (by omega) s2 (z + 1) (y2 - 1) T _ (by rw [i4.1 4 (by omega)]; exact h4) (fun q f hq hf => by rw [i4.1 14 (by omega)]; exact hF q f hq hf) (by omega) (by omega) en i5
      rw [u1]
      simp only [Option.bind_some, lt]
      refine ih2 (y1, y2, z + 1, U) ⟨rfl, rfl, ⟨by show z0.toInt ≤ (z + 1).toInt; omega, by show (z + 1).toInt ≤ 20; omega⟩, ⟨fun j hj => (u2.1 j hj).trans (i4.1 j hj), fun k hk => (u2.2 k hk).trans (i4.2 k hk)⟩, RB_c (fun t => ?_) u3⟩ (by show 21 - (z + 1).toInt.toNat < 21 - z.toInt.toNat; omega)
      show _ ↔ Seen t ∨ ∃ q, z0.toInt.toNat ≤ q ∧ q < (z + 1).toInt.toNat ∧ Vis n (q + 1) (y1.toInt.toNat ||| 2 ^ q) t
      rw [show (z + 1).toInt.toNat = z.toInt.toNat + 1 by omega, show s2.toInt.toNat = y1.toInt.toNat ||| 2 ^ z.toInt.toNat by omega]
      constructor
      · rintro ((h1 | ⟨q, h1, h2, h3⟩) | h1)
        · exact Or.inl h1
        · exact Or.inr ⟨q, h1, by omega, h3⟩
        · exact Or.inr ⟨z.toInt.toNat, by omega, by omega, h1⟩
      · rintro (h1 | ⟨q, h1, h2, h3⟩)
        · exact Or.inl (Or.inl h1)
        · by_cases c : q = z.toInt.toNat
          · rw [c] at h3; exact Or.inr h3
          · exact Or.inl (Or.inr ⟨q, h1, by omega, h3⟩)
theorem vis1 (t : Nat) : Vis 1 0 0 t ↔ t ∈ cx1 := by
  unfold cx1
  rw [List.mem_map]
  constructor
  · rintro ⟨z, _, h2, h3⟩
    exact ⟨z, List.mem_range.mpr h2, by have h3 : t = 0 ||| 2 ^ z := h3; rw [h3, Nat.zero_or]⟩
  · rintro ⟨z, h1, h2⟩
    exact ⟨z, Nat.zero_le _, List.mem_range.mp h1, by show t = 0 ||| 2 ^ z; rw [Nat.zero_or, h2]⟩
theorem vis2 (t : Nat) : Vis 2 0 0 t ↔ t ∈ cx2 := by
  unfold cx2
  rw [List.mem_flatMap]
  constructor
  · rintro ⟨b, _, h2, c, h4, h5, h6⟩
    have h6 : t = (0 ||| 2 ^ b) ||| 2 ^ c := h6
    rw [Nat.zero_or] at h6
    exact ⟨c, List.mem_range.mpr h5, List.mem_map.mpr ⟨b, List.mem_range.mpr (by omega), h6.symm⟩⟩
  · rintro ⟨c, h1, h2⟩
    obtain ⟨b, h3, h4⟩ := List.mem_map.mp h2
    have h1 := List.mem_range.mp h1
    have h3 := List.mem_range.mp h3
    refine ⟨b, Nat.zero_le _, by omega, c, by omega, h1, ?_⟩
    show t = (0 ||| 2 ^ b) ||| 2 ^ c
    rw [Nat.zero_or, h4]
theorem vis3 (t : Nat) : Vis 3 0 0 t ↔ t ∈ cx3 := by
  unfold cx3
  rw [List.mem_flatMap]
  constructor
  · rintro ⟨a, _, h2, b, h4, h5, c, h7, h8, h9⟩
    have h9 : t = ((0 ||| 2 ^ a) ||| 2 ^ b) ||| 2 ^ c := h9
    rw [Nat.zero_or] at h9
    exact ⟨c, List.mem_range.mpr h8, List.mem_flatMap.mpr ⟨b, List.mem_range.mpr (by omega), List.mem_map.mpr ⟨a, List.mem_range.mpr (by omega), h9.symm⟩⟩⟩
  · rintro ⟨c, h1, h2⟩
    obtain ⟨b, h3, h4⟩ := List.mem_flatMap.mp h2
    obtain ⟨a, h5, h6⟩ := List.mem_map.mp h4
    have h1 := List.mem_range.mp h1
    have h3 := List.mem_range.mp h3
    have h5 := List.mem_range.mp h5
    refine ⟨a, Nat.zero_le _, by omega, b, by omega, by omega, c, by omega, h1, ?_⟩
    show t = ((0 ||| 2 ^ a) ||| 2 ^ b) ||| 2 ^ c
    rw [Nat.zero_or, h6]
theorem chk0 : chk [0] = true := by decide +kernel
theorem cxl1 : cx1 = 1 :: cx1.tail ∧ cx1.length = 20 ∧ cx1.all (fun t => decide (t ≤ 1048575)) = true := by decide +kernel
theorem cxl2 : cx2 = 3 :: cx2.tail ∧ cx2.length = 190 ∧ cx2.all (fun t => decide (t ≤ 1048575)) = true := by decide +kernel
theorem cxl3 : cx3 = 7 :: cx3.tail ∧ cx3.length = 1140 ∧ cx3.all (fun t => decide (t ≤ 1048575)) = true := by decide +kernel
/-- the sets of n sizes, the first of them ahead -/
theorem cxs {n : Int32} (h : 0 ≤ n.toInt ∧ n.toInt ≤ 3) : ∃ (s : Nat) (r : List Nat), ((1 : Int32) <<< (n &&& 31)) - 1 = Int32.ofNat s ∧ chk (s :: r) = true ∧ (∀ t, t ∈ s :: r → t ≤ 1048575) ∧ (s :: r).length ≤ 1140 ∧ ∀ t, Vis n.toInt.toNat 0 0 t ↔ t ∈ s :: r := by
  have h4 : n = 0 ∨ n = 1 ∨ n = 2 ∨ n = 3 := by
    simp only [i_eq (x := n), Int32.reduceToInt]
    omega
  rcases h4 with rfl | rfl | rfl | rfl
  · refine ⟨0, [], by decide, chk0, fun t ht => by rw [List.mem_singleton.mp ht]; decide, by decide, fun t => ?_⟩
    show t = 0 ↔ _
    rw [List.mem_singleton]
  · obtain ⟨e1, e2, e3⟩ := cxl1
    refine ⟨1, cx1.tail, by decide, by rw [← e1]; exact chk1, fun t ht => ?_, by rw [← e1, e2]; decide, fun t => by rw [← e1]; exact vis1 t⟩
    rw [← e1] at ht
    exact of_decide_eq_true (List.all_eq_true.mp e3 t ht)
  · obtain ⟨e1, e2, e3⟩ := cxl2
    refine ⟨3, cx2.tail, by decide, by rw [← e1]; exact chk2, fun t ht => ?_, by rw [← e1, e2]; decide, fun t => by rw [← e1]; exact vis2 t⟩
    rw [← e1] at ht
    exact of_decide_eq_true (List.all_eq_true.mp e3 t ht)
  · obtain ⟨e1, e2, e3⟩ := cxl3
    refine ⟨7, cx3.tail, by decide, by rw [← e1]; exact chk3, fun t ht => ?_, by rw [← e1, e2]; decide, fun t => by rw [← e1]; exact vis3 t⟩
    rw [← e1] at ht
    exact of_decide_eq_true (List.all_eq_true.mp e3 t ht)
