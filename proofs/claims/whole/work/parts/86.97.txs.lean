/-! a text that was read -/
theorem spR_u {nm : Nat → Int32} {c : Int32} {l a b : List Int32} (ha : spR nm c l a) (hb : spR nm c l b) : a = b := by
  have x5 : ∀ c : Int32, (c = 5 ∨ c = 22) → c.toInt = 5 ∨ c.toInt = 22 := fun c h => by rcases h with rfl | rfl <;> decide
  have xb : ∀ c : Int32, isb c → c.toInt = 3 ∨ c.toInt = 4 ∨ (15 ≤ c.toInt ∧ c.toInt ≤ 19) := fun c h => by rcases h with rfl | rfl | rfl | rfl | rfl | rfl | rfl <;> decide
  rcases ha with ⟨c1, ha⟩ | ⟨c1, ha⟩ | ⟨c1, ha⟩ | ⟨c1, ha⟩ <;> rcases hb with ⟨c2, hb⟩ | ⟨c2, hb⟩ | ⟨c2, hb⟩ | ⟨c2, hb⟩
  · rw [ha, hb]
  · omega
  · have := x5 c c2; omega
  · have := xb c c2; omega
  · omega
  · rw [ha, hb]
  · have := x5 c c2; omega
  · have := xb c c2; omega
  · have := x5 c c1; omega
  · have := x5 c c1; omega
  · rw [ha] at hb; exact Option.some.inj hb
  · have := x5 c c1; have := xb c c2; omega
  · have := xb c c1; omega
  · have := xb c c1; omega
  · have := xb c c1; have := x5 c c2; omega
  · rw [ha] at hb; exact Option.some.inj hb
theorem exR_u {st nm : Nat → Int32} {i : Nat} : ∀ (n : Nat) (l a b : List Int32), exR st nm i n l a → exR st nm i n l b → a = b := by
  intro n
  induction n with
  | zero => intro l a b ha hb; have ha : a = l := ha; have hb : b = l := hb; rw [ha, hb]
  | succ n ih =>
    intro l a b ⟨m, m1, m2⟩ ⟨k, k1, k2⟩
    rw [ih l m k m1 k1] at m2
    exact spR_u m2 k2
theorem EV_u {st nm : Nat → Int32} {i j : Nat} {v v' : Int32} (h : EV st nm i j v) (h' : EV st nm i j v') : v = v' := by
  have := exR_u _ _ _ _ (h.2 []) (h'.2 [])
  exact (List.cons.inj this).1
theorem RdG_u {nm nm' : Nat → Int32} {w : Int32} {G : Sg} {v v' : Int32} (h : RdG nm w G v) (h' : RdG nm' w G v') (hn : ∀ k, k < 6 → nm k = nm' k) : v = v' := by
  obtain ⟨s0, s1, s2, s3, v0, v1, v2, a0, a1, a2, a3, b1, b2, b3, b4, e0, e1, e2, ev⟩ := h
  obtain ⟨t0, t1, t2, t3, u0, u1, u2, c0, c1, c2, c3, d1, d2, d3, d4, f0, f1, f2, fv⟩ := h'
  have q0 : t0 = s0 := by omega
  have q1 : t1 = s1 := by omega
  have q2 : t2 = s2 := by omega
  have q3 : t3 = s3 := by omega
  subst q0; subst q1; subst q2; subst q3
  rw [ev, fv, EV_u (EV_n e0 hn) f0, EV_u (EV_n e1 hn) f1, EV_u (EV_n e2 hn) f2]
def nmf (a b c d e f : Int32) : Nat → Int32 := fun k => if k = 0 then a else if k = 1 then b else if k = 2 then c else if k = 3 then d else if k = 4 then e else f
theorem nmf_k (h : Nat → Int32) : ∀ k, k < 6 → nmf (h 0) (h 1) (h 2) (h 3) (h 4) (h 5) k = h k := by
  intro k hk
  have : k = 0 ∨ k = 1 ∨ k = 2 ∨ k = 3 ∨ k = 4 ∨ k = 5 := by omega
  rcases this with rfl | rfl | rfl | rfl | rfl | rfl <;> rfl
theorem wi3 {w : Int32} (h : 0 ≤ w.toInt ∧ w.toInt ≤ 2) : w = 0 ∨ w = 1 ∨ w = 2 := by
  have : w.toInt = 0 ∨ w.toInt = 1 ∨ w.toInt = 2 := by omega
  rcases this with e | e | e
  · exact Or.inl (i_eq.mpr (by rw [e]; decide))
  · exact Or.inr (Or.inl (i_eq.mpr (by rw [e]; decide)))
  · exact Or.inr (Or.inr (i_eq.mpr (by rw [e]; decide)))
theorem txs_of {N : Nat} (hN : 300 < N) {g G : Sg} {tx : Nat → Int32} {sz : Nat} (hC : CT g tx sz) (hr : x_X2_read N g = some (-1, G)) {by' : Nat → Int32} (hb : ∀ p : Nat, p < sz → by' p = tx p) {szI : Int32} (hs : szI.toInt = sz) {st sa : Nat → Int32} (hst : ∀ i : Nat, i < 160 → st i = G 24 i) (hsa : ∀ q : Nat, q < 4 → sa q = G 25 q) : TXs N st sa by' szI := by
  -- the reading is good whatever the names
  have any : ∀ (S : SM) (t w : Int32), (0 ≤ t.toInt ∧ t.toInt < 6) → (∀ p : Nat, p < sz → S.1 1 (160 * t.toInt.toNat + p) = tx p) → (S.1 2 t.toInt.toNat).toInt = sz → ∃ v T, x_X8_read N t w S = some (v, T) ∧ FrT S T ∧ RdG (fun k => S.1 0 (16 + k)) w G v := by
    intro S t w h1 h2 h3
    obtain ⟨r, G', v, T, a1, a2, a3, a4, a5, a6⟩ := read_lk hN w hC h1 h2 h3
    rw [hr] at a1
    have a1 := Prod.mk.inj (Option.some.inj a1)
    have m1 : (-1 : Int32).toInt = -1 := by decide
    rcases a6 with ⟨_, _, b⟩ | ⟨b, _⟩
    · rw [← a1.2] at b
      exact ⟨v, T, a2, a5, b⟩
    · rw [← a1.1, m1] at b
      omega
  have ex : ∀ (w a b c d e f : Int32), ∃ v, RdG (nmf a b c d e f) w G v := by
    intro w a b c d e f
    obtain ⟨v, T, _, _, h⟩ := any ((fun j => if j = 0 then (fun k => nmf a b c d e f (k - 16)) else if j = 1 then by' else fun _ => szI), 0) 0 w (by decide) (fun p hp => by
      show by' (160 * 0 + p) = tx p
      rw [show 160 * 0 + p = p by omega]; exact hb p hp) hs
    have e0 : (fun k : Nat => (fun k => nmf a b c d e f (k - 16)) (16 + k)) = nmf a b c d e f := funext fun k => congrArg (nmf a b c d e f) (by omega)
    refine ⟨v, ?_⟩
    rw [← e0]
    exact h
  refine ⟨fun w a b c d e f => Classical.choose (ex w a b c d e f), ?_, ?_⟩
  · intro g' t w ht hw h26 h27
    have hv := Classical.choose_spec (ex w (g' 28 0) (g' 28 1) (g' 28 2) (g' 28 3) (g' 28 4) (g' 28 5))
    show ∃ G', x_X6_value N t w g' = some (Classical.choose (ex w (g' 28 0) (g' 28 1) (g' 28 2) (g' 28 3) (g' 28 4) (g' 28 5)), G') ∧ ∀ j, j ≠ 29 → G' j = g' j
    revert hv
    generalize Classical.choose (ex w (g' 28 0) (g' 28 1) (g' 28 2) (g' 28 3) (g' 28 4) (g' 28 5)) = v
    intro hv
    obtain ⟨s0, s1, s2, s3, v0, v1, v2, a0, a1, a2, a3, b1, b2, b3, b4, e0, e1, e2, ev⟩ := hv
    have hn : ∀ k, k < 6 → nmf (g' 28 0) (g' 28 1) (g' 28 2) (g' 28 3) (g' 28 4) (g' 28 5) k = (fun k => g' 28 k) k := nmf_k (g' 28)
    rcases wi3 hw with rfl | rfl | rfl
    · rw [if_pos rfl] at ev
      subst ev
      exact c_value hN ht hw h26 h27 (i0 := s0) (i1 := s1) (by rw [← a0]; exact congrArg _ (hsa 0 (by omega))) (by rw [← a1]; exact congrArg _ (hsa 1 (by omega))) (by omega) (EV_n (EV_c e0 (fun i ia ib => (hst i (by omega)).symm)) hn)
    · rw [if_neg (by decide), if_pos rfl] at ev
      subst ev
      exact c_value hN ht hw h26 h27 (i0 := s1) (i1 := s2) (by rw [← a1]; exact congrArg _ (hsa 1 (by omega))) (by rw [← a2]; exact congrArg _ (hsa 2 (by omega))) (by omega) (EV_n (EV_c e1 (fun i ia ib => (hst i (by omega)).symm)) hn)
    · rw [if_neg (by decide), if_neg (by decide)] at ev
      subst ev
      exact c_value hN ht hw h26 h27 (i0 := s2) (i1 := s3) (by rw [← a2]; exact congrArg _ (hsa 2 (by omega))) (by rw [← a3]; exact congrArg _ (hsa 3 (by omega))) (by omega) (EV_n (EV_c e2 (fun i ia ib => (hst i (by omega)).symm)) hn)
  · intro S t w ht hw h1 h2
    have h160 := hC.2.1
    obtain ⟨v, T, a1, a2, a3⟩ := any S t w ht (fun p hp => by rw [h1 p (by omega)]; exact hb p hp) (by rw [h2]; exact hs)
    refine ⟨T, ?_, a2⟩
    rw [a1]
    have := RdG_u a3 (Classical.choose_spec (ex w (S.1 0 16) (S.1 0 17) (S.1 0 18) (S.1 0 19) (S.1 0 20) (S.1 0 21))) (fun k hk => (nmf_k (fun k => S.1 0 (16 + k)) k hk).symm)
    exact congrArg (fun z => some (z, T)) this
theorem TXs_c {N : Nat} {st sa by' st2 sa2 by2 : Nat → Int32} {sz sz2 : Int32} (h : TXs N st sa by' sz) (h1 : ∀ i : Nat, i < 160 → st2 i = st i) (h2 : ∀ q : Nat, q < 4 → sa2 q = sa q) (h3 : ∀ i : Nat, i < 160 → by2 i = by' i) (h4 : sz2 = sz) : TXs N st2 sa2 by2 sz2 := by
  obtain ⟨val, v1, v2⟩ := h
  subst h4
  exact ⟨val, fun g t w a b c d => v1 g t w a b (fun i hi => (c i hi).trans (h1 i hi)) (fun q hq => (d q hq).trans (h2 q hq)), fun S t w a b c d => v2 S t w a b (fun i hi => (c i hi).trans (h3 i hi)) d⟩
