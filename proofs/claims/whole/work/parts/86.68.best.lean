/-! the best of sets -/
def BR (V : Nat → Int) (Seen : Nat → Prop) (w v : Int) : Prop := (∃ t : Nat, Seen t ∧ w = t ∧ v = V t) ∧ ∀ t : Nat, Seen t → V t < v ∨ (V t = v ∧ w ≤ t)
theorem BR_u {V : Nat → Int} {A B : Nat → Prop} (h : ∀ t, A t ↔ B t) {w v w' v' : Int} (h1 : BR V A w v) (h2 : BR V B w' v') : w = w' ∧ v = v' := by
  obtain ⟨⟨t, t1, t2, t3⟩, t4⟩ := h1
  obtain ⟨⟨u, u1, u2, u3⟩, u4⟩ := h2
  have a := t4 u ((h u).mpr u1)
  have b := u4 t ((h t).mp t1)
  omega
theorem ofn {s : Nat} (h : s < 2147483648) : (Int32.ofNat s).toInt = s := nz (by show s % 2 ^ 32 = s; omega) h
def CB (V : Nat → Int) (Seen : Nat → Prop) (g : Sg) : Prop := ((∀ t, ¬ Seen t) ∧ g 7 1 = 1000000) ∨ BR V Seen (g 7 0).toInt (-(g 7 1).toInt)
theorem c_orders {N : Nat} (hN : 200 < N) {a w : Int32} {g : Sg} {mk : Int} (hR : Rg (g 12) (g 13) (g 14) mk) (hm : mk ≤ 5) (ha : 0 ≤ a.toInt ∧ a.toInt < mk) {V : Nat → Int} (hV : ∀ s : Nat, V s = (SV (g 11) (g 12) (g 13) (g 14) a.toInt.toNat s).toInt) (hVb : ∀ s, 0 ≤ V s ∧ V s ≤ 900) : ∀ (r : List Nat) (s : Nat) (Seen : Nat → Prop) (X : Sg) (i : Int32) (n : Nat), chk (s :: r) = true → (∀ t, t ∈ s :: r → t ≤ 1048575) → 0 ≤ i.toInt → i.toInt + (s :: r).length ≤ 1140 → (s :: r).length < n → (∀ t, Seen t → t < s) → CB V Seen X → (∀ j, j ≠ 7 → X j = g j) → ∃ X', lp (x_X7_order_B49 N) n (a, w, Int32.ofNat s, i, X) = x_X7_order_b94 N w X' ∧ (∀ j, j ≠ 7 → X' j = g j) ∧ CB V (fun t => Seen t ∨ t ∈ s :: r) X' := by
  intro r
  induction r with
  | nil =>
    intro s Seen X i n hc hl hi0 hi hn hs hB hX
    obtain ⟨n', rfl⟩ : ∃ n', n = n' + 1 + 1 := ⟨n - 2, by have : ([s] : List Nat).length = 1 := rfl; omega⟩
    have hl1 : ([s] : List Nat).length = 1 := rfl
    rw [hl1] at hi
    have sl := hl s (List.mem_singleton.mpr rfl)
    have es := ofn (s := s) (by omega)
    show ∃ X', x_X7_order_B49 N (lp (x_X7_order_B49 N) (n' + 1)) (a, w, Int32.ofNat s, i, X) = _ ∧ _
    obtain ⟨kk, hkk⟩ : ∃ kk, kk = lp (x_X7_order_B49 N) (n' + 1) := ⟨_, rfl⟩
    rw [← hkk]
    unfold x_X7_order_B49
    simp only [i_le, i_lt, Int32.reduceToInt]
    rw [if_neg (show ¬ 1140 ≤ i.toInt by omega), if_neg (show ¬ 1048575 < (Int32.ofNat s).toInt by omega)]
    rw [c_svs hN (mk := mk) (by rw [hX 12 (by omega), hX 13 (by omega), hX 14 (by omega)]; exact hR) hm ha (by omega), hX 11 (by omega), hX 12 (by omega), hX 13 (by omega), hX 14 (by omega), es]
    simp only [Option.bind_some]
    have hv := hV s
    have hvb := hVb s
    rw [show ((s : Int)).toNat = s from rfl]
    generalize SV (g 11) (g 12) (g 13) (g 14) a.toInt.toNat s = v at hv ⊢
    have ev : (-v).toInt = -V s := by rw [i_neg (by omega), hv]
    obtain ⟨X2, o1, o2, o3, o4⟩ := c_offer7 N (Int32.ofNat s) (-v) X
    rw [o1]
    simp only [Option.bind_some]
    rw [c_next]
    simp only [Option.bind_some, lt]
    have e1 := inc1 (x := i) (by omega)
    have hg : (1048575 : Int32) < gos (Int32.ofNat s) := by
      unfold chk at hc
      rw [Bool.and_eq_true, decide_eq_true_eq] at hc
      exact hc.1
    refine ⟨X2, ?_, fun j hj => (o2 j hj).trans (hX j hj), ?_⟩
    · rw [hkk]
      show x_X7_order_B49 N (lp (x_X7_order_B49 N) n') (a, w, gos (Int32.ofNat s), i + 1, X2) = _
      unfold x_X7_order_B49
      simp only []
      by_cases c : (1140 : Int32) ≤ i + 1
      · rw [if_pos c]
      · rw [if_neg c, if_pos hg]
    · refine Or.inr ?_
      rcases hB with ⟨b1, b2⟩ | ⟨⟨t, t1, t2, t3⟩, t4⟩
      · have q := o4 (by rw [b2, ev]; show -V s < (1000000 : Int); omega)
        rw [q.1, q.2, es, ev]
        refine ⟨⟨s, Or.inr (List.mem_singleton.mpr rfl), rfl, by omega⟩, fun t ht => ?_⟩
        rcases ht with ht | ht
        · exact absurd ht (b1 t)
        · rw [List.mem_singleton.mp ht]; omega
      · by_cases c : V s ≤ -(X 7 1).toInt
        · rw [o3 (by rw [ev]; omega)]
          refine ⟨⟨t, Or.inl t1, t2, t3⟩, fun u hu => ?_⟩
          rcases hu with hu | hu
          · exact t4 u hu
          · rw [List.mem_singleton.mp hu]
            have := hs t t1
            omega
        · have q := o4 (by rw [ev]; omega)
          rw [q.1, q.2, es, ev]
          refine ⟨⟨s, Or.inr (List.mem_singleton.mpr rfl), rfl, by omega⟩, fun u hu => ?_⟩
          rcases hu with hu | hu
          · have := t4 u hu; omega
          · rw [List.mem_singleton.mp hu]; omega
  | cons s2 r ih =>
    intro s Seen X i n hc hl hi0 hi hn hs hB hX
    obtain ⟨n', rfl⟩ : ∃ n', n = n' + 1 := ⟨n - 1, by omega⟩
    have hl1 : (s :: s2 :: r).length = (s2 :: r).length + 1 := rfl
    rw [hl1] at hi hn
    have sl := hl s List.mem_cons_self
    have es := ofn (s := s) (by omega)
    show ∃ X', x_X7_order_B49 N (lp (x_X7_order_B49 N) n') (a, w, Int32.ofNat s, i, X) = _ ∧ _
    obtain ⟨kk, hkk⟩ : ∃ kk, kk = lp (x_X7_order_B49 N) n' := ⟨_, rfl⟩
    rw [← hkk]
    unfold x_X7_order_B49
    simp only [i_le, i_lt, Int32.reduceToInt]
    rw [if_neg (show ¬ 1140 ≤ i.toInt by omega), if_neg (show ¬ 1048575 < (Int32.ofNat s).toInt by omega)]
    rw [c_svs hN (mk := mk) (by rw [hX 12 (by omega), hX 13 (by omega), hX 14 (by omega)]; exact hR) hm ha (by omega), hX 11 (by omega), hX 12 (by omega), hX 13 (by omega), hX 14 (by omega), es]
    simp only [Option.bind_some]
    have hv := hV s
    have hvb := hVb s
    rw [show ((s : Int)).toNat = s from rfl]
    generalize SV (g 11) (g 12) (g 13) (g 14) a.toInt.toNat s = v at hv ⊢
    have ev : (-v).toInt = -V s := by rw [i_neg (by omega), hv]
    obtain ⟨X2, o1, o2, o3, o4⟩ := c_offer7 N (Int32.ofNat s) (-v) X
    rw [o1]
    simp only [Option.bind_some]
    rw [c_next]
    simp only [Option.bind_some, lt]
    have e1 := inc1 (x := i) (by omega)
    obtain ⟨hg, hc2⟩ : (gos (Int32.ofNat s) = Int32.ofNat s2 ∧ s < s2) ∧ chk (s2 :: r) = true := by
      unfold chk at hc
      rw [Bool.and_eq_true, Bool.and_eq_true, decide_eq_true_eq, decide_eq_true_eq] at hc
      exact hc
    rw [hg.1]
    have hCB : CB V (fun t => Seen t ∨ t = s) X2 := by
      refine Or.inr ?_
      rcases hB with ⟨b1, b2⟩ | ⟨⟨t, t1, t2, t3⟩, t4⟩
      · have q := o4 (by rw [b2, ev]; show -V s < (1000000 : Int); omega)
        rw [q.1, q.2, es, ev]
        refine ⟨⟨s, Or.inr rfl, rfl, by omega⟩, fun t ht => ?_⟩
        rcases ht with ht | ht
        · exact absurd ht (b1 t)
        · rw [ht]; omega
      · by_cases c : V s ≤ -(X 7 1).toInt
        · rw [o3 (by rw [ev]; omega)]
          refine ⟨⟨t, Or.inl t1, t2, t3⟩, fun u hu => ?_⟩
          rcases hu with hu | hu
          · exact t4 u hu
          · rw [hu]
            have := hs t t1
            omega
        · have q := o4 (by rw [ev]; omega)
          rw [q.1, q.2, es, ev]
          refine ⟨⟨s, Or.inr rfl, rfl, by omega⟩, fun u hu => ?_⟩
          rcases hu with hu | hu
          · have := t4 u hu; omega
          · rw [hu]; omega
    obtain ⟨X', x1, x2, x3⟩ := ih s2 (fun t => Seen t ∨ t = s) X2 (i + 1) n' hc2 (fun t ht => hl t (List.mem_cons_of_mem _ ht)) (by omega) (by omega) (by omega) (fun t ht => by
      rcases ht with ht | ht
      · have := hs t ht; omega
      · omega) hCB (fun j hj => (o2 j hj).trans (hX j hj))
    rw [← hkk] at x1
    refine ⟨X', x1, x2, ?_⟩
    have eS : (fun t => (Seen t ∨ t = s) ∨ t ∈ s2 :: r) = (fun t => Seen t ∨ t ∈ s :: s2 :: r) := by
      funext t
      rw [List.mem_cons (a := t) (b := s)]
      exact propext or_assoc
    rw [eS] at x3
    exact x3
