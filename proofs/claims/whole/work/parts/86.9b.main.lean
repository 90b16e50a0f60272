/-! the start, and all together -/
theorem rdOk_e {g : Sg} (h : rdOk g = true) : ∃ G, x_X2_read 1200 g = some (-1, G) ∧ (∀ i : Nat, i < 160 → G 24 i = st57.getD i 0) ∧ ∀ q : Nat, q < 4 → G 25 q = sa57.getD q 0 := by
  unfold rdOk at h
  cases e : x_X2_read 1200 g with
  | none => rw [e] at h; exact absurd h (by decide)
  | some r =>
    rw [e] at h
    simp only [Bool.and_eq_true, decide_eq_true_eq, List.all_eq_true, List.mem_range] at h
    obtain ⟨⟨h1, h2⟩, h3⟩ := h
    refine ⟨r.2, ?_, h2, h3⟩
    rw [← h1]
theorem start_ok : ∃ gX S, x_X7_init 1200 gzP = some gX ∧ x_X8_init 1200 (gmP, 0) = some S ∧ Inv (TXs 1200) gX S := by
  have h := stOk_ok
  unfold stOk at h
  cases e1 : x_X7_init 1200 gzP with
  | none => rw [e1] at h; exact absurd h (by decide)
  | some g =>
    cases e2 : x_X8_init 1200 (gmP, 0) with
    | none => rw [e1, e2] at h; exact Bool.noConfusion h
    | some S =>
      rw [e1, e2] at h
      simp only [Bool.and_eq_true, decide_eq_true_eq, List.all_eq_true, List.mem_range] at h
      obtain ⟨⟨⟨⟨⟨⟨⟨⟨⟨⟨⟨⟨⟨⟨⟨⟨⟨⟨⟨⟨⟨⟨a1, a2⟩, a3⟩, a4⟩, a5⟩, b1⟩, b2⟩, b3⟩, b4⟩, b5⟩, c1⟩, c2⟩, d1⟩, d2⟩, f1⟩, f2⟩, f3⟩, hT⟩, hM⟩, hH⟩, h26⟩, h27⟩, hby⟩ := h
      obtain ⟨G, r1, r2, r3⟩ := rdOk_e rd64
      have z0 : (0 : Int32).toInt = 0 := by decide
      have z1 : (1 : Int32).toInt = 1 := by decide
      have z9 : (9 : Int32).toInt = 9 := by decide
      have z40 : (40 : Int32).toInt = 40 := by decide
      have hC : CT g64 (fun p => if p < 57 then byRULE.getD p 0 else 32) 64 := by
        refine ⟨by decide, by omega, ?_⟩
        have : ∀ p : Nat, p < 64 → g64 21 p = (if p < 57 then byRULE.getD p 0 else 32) ∧ 0 ≤ ((if p < 57 then byRULE.getD p 0 else 32 : Int32)).toInt ∧ ((if p < 57 then byRULE.getD p 0 else 32 : Int32)).toInt ≤ 255 := by decide +kernel
        exact this
      refine ⟨g, S, rfl, rfl, ?_, fun f hf => ?_, fun m hm => ?_, fun m hm => ?_, Or.inl ⟨c1, c2⟩, ?_, fun k hk => Or.inl (hH k hk), ?_⟩
      · rw [a1, a2, a3, a4, a5, b1, b2, b3, b4, b5, f1]
        exact ⟨⟨rfl, by omega, by omega⟩, ⟨rfl, by omega, by omega⟩, ⟨rfl, by omega, by omega⟩, ⟨rfl, by omega, by omega⟩, ⟨rfl, by omega, by omega⟩⟩
      · obtain ⟨t1, t2⟩ := hT f hf
        rw [t1, t2]
        exact ⟨rfl, by omega, by omega⟩
      · obtain ⟨⟨⟨⟨⟨t1, t2⟩, t3⟩, t4⟩, t5⟩, t6⟩ := hM m hm
        rw [t1, t2, t3, t4, t5, t6]
        exact ⟨⟨rfl, by omega, by omega⟩, ⟨rfl, by omega, by omega⟩, ⟨rfl, by omega, by omega⟩⟩
      · rw [a5, z0] at hm
        omega
      · refine ⟨by rw [d1, d2], by rw [d1]; decide, by rw [d1]; decide, fun i hi => ?_⟩
        rw [d1, z0] at hi
        omega
      · refine ⟨by rw [f1, f2], by rw [f1]; decide, by rw [f1]; decide, fun t ht => ?_⟩
        rw [f1, z1] at ht
        have t0 : t = 0 := by omega
        subst t0
        refine txs_of (by omega) hC r1 (fun p hp => ?_) (by rw [f3]; decide) (fun i hi => ?_) (fun q hq => ?_)
        · show S.1 1 (160 * 0 + p) = _
          rw [show 160 * 0 + p = p by omega]
          exact hby p hp
        · show g 26 (160 * 0 + i) = _
          rw [show 160 * 0 + i = i by omega, h26 i hi, r2 i hi]
        · show g 27 (4 * 0 + q) = _
          rw [show 4 * 0 + q = q by omega, h27 q hq, r3 q hq]
theorem pure_all (L : Nat) (xs : Nat → Int32) (hL : L ≤ 3072) : ∃ (gX : Sg) (S : SM), x_X7_init 1200 gzP = some gX ∧ x_X8_init 1200 (gmP, 0) = some S ∧ x_L_law 1200 L xs 0 (gX, S) = some () := by
  obtain ⟨g, S, e1, e2, h⟩ := start_ok
  obtain ⟨r, hr⟩ := law_all (N := 1200) (by omega) hL xs (fun g S h => o_text (by omega) h) h
  exact ⟨g, S, e1, e2, hr⟩
