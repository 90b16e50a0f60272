/-! a text read, both sides -/
theorem ba {α β γ : Type} {a : Option α} {f : α → Option β} {b : β} {F : β → Option γ} (h : a.bind f = some b) : (a.bind fun x => (f x).bind F) = F b := by
  cases a with
  | none => cases h
  | some x => 
    have h : f x = some b := h
    show (f x).bind F = F b
    rw [h]; rfl
def FrR (g G : Sg) : Prop := (∀ j : Nat, ¬ (j = 3 ∨ (22 ≤ j ∧ j ≤ 25)) → G j = g j) ∧ ∀ k : Nat, ¬ (k = 1 ∨ k = 4 ∨ k = 7) → G 3 k = g 3 k
theorem FrR_t {a b c : Sg} (h : FrR a b) (h' : FrR b c) : FrR a c := ⟨fun j hj => (h'.1 j hj).trans (h.1 j hj), fun k hk => (h'.2 k hk).trans (h.2 k hk)⟩
theorem FrR_c {a b : Sg} (h : Fc a b) : FrR a b := ⟨fun j hj => h.1 j (by omega), fun k hk => h.2 k (by omega)⟩
theorem FrR_25 (g : Sg) (f : Nat → Int32) : FrR g (up g 25 f) := ⟨fun j hj => up_n _ _ (by omega), fun k hk => by rw [up_n _ _ (by omega)]⟩
theorem FrR_3 (g : Sg) (k : Nat) (v : Int32) (h : k = 1 ∨ k = 4 ∨ k = 7) : FrR g (up g 3 (upd (g 3) k v)) := ⟨fun j hj => up_n _ _ (by omega), fun q hq => by rw [up_s, upd_n _ _ (by omega)]⟩
theorem PRE_25 {ck pk tx : Nat → Int32} {sz q o : Nat} {g : Sg} {S : SM} (h : PRE ck pk tx sz q o g S) (f : Nat → Int32) : PRE ck pk tx sz q o (up g 25 f) S := by
  obtain ⟨h1, h2, h3, h4, h5, h6, h7⟩ := h
  exact ⟨h1, h2, by rw [up_n _ _ (by omega)]; exact h3, by rw [up_n _ _ (by omega)]; exact h4, by rw [up_n _ _ (by omega)]; exact h5, by rw [up_n _ _ (by omega)]; exact h6, h7⟩
theorem rb_k {N : Nat} {h : Int32 × Int32 × Sg → Option (Int32 × Sg)} {kI r : Int32} {k : Nat} {g G : Sg} (hk : kI.toInt = k) (hk3 : k < 3) (e : partC N kI (up g 25 (upd (g 25) k (g 3 7))) = some (r, G)) : x_X2_read_B18 N h (1, kI, g) = h ((if r = 0 then 0 else 1), kI + 1, G) := by
  have i3 : (3 : Int32).toInt = 3 := by decide
  unfold x_X2_read_B18 x_X2_read_b67 x_X2_read_b68
  simp only [i_le, lt]
  rw [i3, if_neg (show ¬ (3 : Int) ≤ kI.toInt by omega), if_neg (show ¬ (1 : Int32) = 0 by decide), if_pos (show inb kI 4 = true from i_inb.mpr ⟨by omega, by omega⟩), show kI.toNatClampNeg = k by rw [i_nat, hk]; rfl]
  unfold partC at e
  generalize (up g 25 (upd (g 25) k (g 3 7)) : Sg) = g14 at *
  cases h1 : x_X2_pass N kI g14 with
  | none => rw [h1] at e; cases e
  | some q =>
    rw [h1] at e
    simp only [Option.bind_some] at e ⊢
    by_cases c : q.1 = 0
    · rw [if_pos c] at e ⊢
      have e := Prod.mk.inj (Option.some.inj e)
      rw [← e.1, ← e.2, if_pos rfl]
    · rw [if_neg c] at e ⊢
      cases h2 : gr_R N 100 0 0 0 0 q.2 with
      | none => rw [h2] at e; cases e
      | some q2 =>
        rw [h2] at e
        simp only [Option.bind_some] at e ⊢
        by_cases c2 : q2.1 = 0
        · rw [if_pos c2] at e ⊢
          have e := Prod.mk.inj (Option.some.inj e)
          rw [← e.1, ← e.2, if_pos rfl]
        · rw [if_neg c2] at e ⊢
          rw [e]
          simp only [Option.bind_some]
          by_cases c3 : r = 0
          · rw [if_pos c3, if_pos c3]
          · rw [if_neg c3, if_neg c3]
def Gend (g : Sg) : Sg := up (up g 25 (upd (g 25) 3 (g 3 7))) 3 (upd (g 3) 1 0)
theorem Gend_f (g : Sg) : FrR g (Gend g) := by
  refine ⟨fun j hj => ?_, fun k hk => ?_⟩
  · show up _ 3 _ j = _
    rw [up_n _ _ (by omega), up_n _ _ (by omega)]
  · show up _ 3 _ 3 k = _
    rw [up_s, upd_n _ _ (by omega)]
theorem c_end {N : Nat} {g : Sg} {c : Nat} (y : Int32) (hc : (g 3 4).toInt = c) (h160 : c ≤ 160) : x_X2_read_b75 N y g = some ((if ¬ y = 0 ∧ g 22 c = 21 then -1 else g 23 c), Gend g) := by
  have e0 : (up (up g 25 (upd (g 25) 3 (g 3 7))) 3 (upd (up g 25 (upd (g 25) 3 (g 3 7)) 3) 1 0) : Sg) = Gend g := by
    rw [up_n _ _ (show (3 : Nat) ≠ 25 by omega)]; rfl
  have g34 : Gend g 3 4 = g 3 4 := by
    show up _ 3 _ 3 4 = _
    rw [up_s, upd_n _ _ (by omega)]
  have g22 : Gend g 22 = g 22 := by
    show up _ 3 _ 22 = _
    rw [up_n _ _ (by omega), up_n _ _ (by omega)]
  have g23 : Gend g 23 = g 23 := by
    show up _ 3 _ 23 = _
    rw [up_n _ _ (by omega), up_n _ _ (by omega)]
  have n3 : (3 : Int32).toNatClampNeg = 3 := by decide
  have nc : (g 3 4).toNatClampNeg = c := by rw [i_nat, hc]; rfl
  have b4 : inb (g 3 4) 161 = true := i_inb.mpr ⟨by omega, by omega⟩
  unfold x_X2_read_b75 x_X2_read_b112
  rw [if_pos (by decide), n3]
  simp only [lt]
  rw [e0, g34, g22, g23, if_pos b4, nc]
  by_cases cy : y = 0
  · rw [if_pos cy, if_neg (fun z => z.1 cy)]
  · rw [if_neg cy, if_pos b4]
    by_cases ct : g 22 c = 21
    · rw [if_pos ct, if_pos ⟨cy, ct⟩]
    · rw [if_neg ct, if_neg (fun z => ct z.2)]
theorem m_b92_bad {N : Nat} {T : SM} (hb : ¬ T.1 0 29 = 0) (w a b : Int32) : ∃ v, x_X8_read_b92 N w a b T = some (v, T) := by
  unfold x_X8_read_b92 x_X8_read_b126 x_X8_read_b146
  rw [if_neg hb, if_neg hb]
  by_cases c : w = 0
  · rw [if_pos c]; exact ⟨_, rfl⟩
  · rw [if_neg c]
    by_cases c : w = 1
    · rw [if_pos c]; exact ⟨_, rfl⟩
    · rw [if_neg c]; exact ⟨_, rfl⟩
theorem m_b146 {N : Nat} (w a b c : Int32) (T : SM) : x_X8_read_b146 N w a b c T = some ((if w = 0 then a else if w = 1 then b else c), T) := by
  unfold x_X8_read_b146
  by_cases c : w = 0
  · rw [if_pos c, if_pos c]
  · rw [if_neg c, if_neg c]
    by_cases c : w = 1
    · rw [if_pos c, if_pos c]
    · rw [if_neg c, if_neg c]
/-- the first token -/
theorem m_first {N : Nat} (hN : 300 < N) {S : SM} {tx : Nat → Int32} {sz : Nat} (h : RT S tx sz) (h24 : (S.1 0 24).toInt = 0) (h29 : S.1 0 29 = 0) : ∃ T q, x_X8_next N S = some T ∧ Fr3 S T ∧ At tx sz q T ∧ cn (stb tx) q = 0 := by
  obtain ⟨T, t1, t2, q, a1, a2, a3, a4, a5⟩ := m_next hN h (p := 0) (by omega) (Nat.zero_le _)
  refine ⟨T, q, t1, t2, ⟨RT_f h t2, (t2.2 29 (by omega)).trans h29, a4, fun hq => ?_, a5⟩, ?_⟩
  · have n2 : ¬ so (tx q) = 2 := by
      rcases a5 with ⟨b, _⟩ | ⟨_, b, _⟩ | ⟨_, b, _⟩ | ⟨_, b, _⟩ | ⟨_, b, _⟩ <;> omega
    unfold stb
    rw [decide_eq_true_eq]
    refine ⟨n2, ?_⟩
    rintro ⟨w0, w1, w2⟩
    rw [a3 (q - 1) (by omega) (by omega)] at w2
    exact n2 w2
  · refine cn_0 q (fun i hi => ?_)
    unfold stb
    rw [decide_eq_false_iff_not]
    rintro ⟨w, _⟩
    exact w (a3 i (Nat.zero_le _) hi)
