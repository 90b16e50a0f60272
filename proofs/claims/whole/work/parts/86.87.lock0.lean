/-! both parsers side by side -/
def Fc (g G : Sg) : Prop := (∀ j : Nat, ¬ (j = 3 ∨ j = 24) → G j = g j) ∧ ∀ k : Nat, ¬ (k = 4 ∨ k = 7) → G 3 k = g 3 k
def Fm (S T : SM) : Prop := (∀ j : Nat, j ≠ 0 → T.1 j = S.1 j) ∧ ∀ k : Nat, ¬ (24 ≤ k ∧ k ≤ 30) → T.1 0 k = S.1 0 k
theorem Fc_t {a b c : Sg} (h : Fc a b) (h' : Fc b c) : Fc a c := ⟨fun j hj => (h'.1 j hj).trans (h.1 j hj), fun k hk => (h'.2 k hk).trans (h.2 k hk)⟩
theorem Fm_t {a b c : SM} (h : Fm a b) (h' : Fm b c) : Fm a c := ⟨fun j hj => (h'.1 j hj).trans (h.1 j hj), fun k hk => (h'.2 k hk).trans (h.2 k hk)⟩
theorem Fc_r (g : Sg) : Fc g g := ⟨fun _ _ => rfl, fun _ _ => rfl⟩
theorem Fm_r (S : SM) : Fm S S := ⟨fun _ _ => rfl, fun _ _ => rfl⟩
theorem Fm_3 {S T : SM} (h : Fr3 S T) : Fm S T := ⟨h.1, fun k hk => h.2 k (by omega)⟩
theorem Fm_0 (S : SM) (k : Nat) (v : Int32) (h : 24 ≤ k ∧ k ≤ 30) : Fm S (st0 S k v) := ⟨fun _ hj => st0_j _ _ _ hj, fun q hq => st0_n _ _ _ (by omega)⟩
/-- where both stand -/
def PRE (ck pk tx : Nat → Int32) (sz q o : Nat) (g : Sg) (S : SM) : Prop := Tks ck pk tx sz ∧ At tx sz q S ∧ g 22 = ck ∧ g 23 = pk ∧ (g 3 4).toInt = cn (stb tx) q ∧ (∃ w : Nat, (g 3 7).toInt = w ∧ w ≤ cn (stb tx) q) ∧ (S.1 0 28).toInt = o
def Good (tx : Nat → Int32) (sz q : Nat) (g : Sg) (S : SM) (G : Sg) (T : SM) (v : Int32) : Prop := Fc g G ∧ Fm S T ∧ ∃ q' w w' : Nat, At tx sz q' T ∧ (G 3 4).toInt = cn (stb tx) q' ∧ T.1 0 28 = S.1 0 28 ∧ (g 3 7).toInt = w ∧ (G 3 7).toInt = w' ∧ w ≤ w' ∧ w' + cn (stb tx) q ≤ w + cn (stb tx) q' ∧ cn (stb tx) q < cn (stb tx) q' ∧ (∀ i : Nat, i < w → G 24 i = g 24 i) ∧ EV (G 24) (fun k => S.1 0 (16 + k)) w w' v
def Bad (tx : Nat → Int32) (sz : Nat) (g : Sg) (S : SM) (G : Sg) (T : SM) : Prop := Fc g G ∧ Fm S T ∧ ¬ T.1 0 29 = 0 ∧ ∃ q' : Nat, q' ≤ sz ∧ (q' < sz → stb tx q' = true) ∧ (G 3 4).toInt = cn (stb tx) q' ∧ (T.1 0 30).toInt = q'
def RES (tx : Nat → Int32) (sz q : Nat) (g : Sg) (S : SM) (c : Option (Int32 × Sg)) (r : Option (Int32 × SM)) : Prop := (∃ G T v, c = some (1, G) ∧ r = some (v, T) ∧ Good tx sz q g S G T v) ∨ (∃ G T v, c = some (0, G) ∧ r = some (v, T) ∧ Bad tx sz g S G T)
theorem cn_sz {tx : Nat → Int32} {sz q : Nat} {S : SM} (h : At tx sz q S) : cn (stb tx) q ≤ q ∧ q ≤ sz ∧ sz ≤ 160 := ⟨cn_le _ _, At_q h, h.1.2.1⟩
def hr1 (g : Sg) : Sg := up g 3 (upd (g 3) 4 (g 3 4 + 1))
theorem hr1_f (g : Sg) : Fc g (hr1 g) := ⟨fun j hj => up_n _ _ (by omega), fun k hk => by show up g 3 _ 3 k = _; rw [up_s, upd_n _ _ (by omega)]⟩
theorem hr1_4 (g : Sg) : hr1 g 3 4 = g 3 4 + 1 := by show up g 3 _ 3 4 = _; rw [up_s, upd_s]
theorem hr1_7 (g : Sg) : hr1 g 3 7 = g 3 7 := by show up g 3 _ 3 7 = _; rw [up_s, upd_n _ _ (by omega)]
theorem hr1_j (g : Sg) {j : Nat} (h : j ≠ 3) : hr1 g j = g j := up_n _ _ h
theorem c_write {N : Nat} {g : Sg} {w : Nat} (hw : (g 3 7).toInt = w) (hl : w < 160) (c : Int32) : ∃ G, x_X2_write N c g = some G ∧ Fc g G ∧ G 3 4 = g 3 4 ∧ (G 3 7).toInt = ((w + 1 : Nat) : Int) ∧ G 24 = upd (g 24) w c := by
  have i160 : (160 : Int32).toInt = 160 := by decide
  unfold x_X2_write
  simp only [i_le]
  rw [i160, if_neg (show ¬ 160 ≤ (g 3 7).toInt by omega), if_pos (show inb (g 3 7) 160 = true from i_inb.mpr ⟨by omega, by omega⟩), show (g 3 7).toNatClampNeg = w by rw [i_nat, hw]; rfl]
  simp only [lt]
  have z : up g 24 (upd (g 24) w c) 3 = g 3 := up_n _ _ (by omega)
  rw [z]
  have e1 := inc1 (x := g 3 7) (by omega)
  refine ⟨_, rfl, ⟨fun j hj => ?_, fun k hk => ?_⟩, ?_, ?_, ?_⟩
  · rw [up_n _ _ (by omega), up_n _ _ (by omega)]
  · rw [up_s, upd_n _ _ (by omega)]
  · rw [up_s, upd_n _ _ (by omega)]
  · rw [up_s, upd_s]; omega
  · rw [up_n _ _ (by omega), up_s]
theorem m_fail {N : Nat} {S : SM} (hb : S.1 0 29 = 0) : ∃ T, x_X8_fail N S = some T ∧ Fm S T ∧ T.1 0 29 = 1 ∧ T.1 0 30 = S.1 0 26 ∧ T.1 0 28 = S.1 0 28 := by
  unfold x_X8_fail
  rw [if_pos hb]
  simp only [lt]
  refine ⟨st0 (st0 S 29 1) 30 ((st0 S 29 1).1 0 26), rfl, Fm_t (Fm_0 S 29 1 (by omega)) (Fm_0 _ 30 _ (by omega)), ?_, ?_, ?_⟩
  · rw [st0_n _ _ _ (by omega)]; exact st0_s S 29 1
  · rw [st0_s, st0_n _ _ _ (by omega)]
  · rw [st0_n _ _ _ (by omega), st0_n _ _ _ (by omega)]
theorem m_fail_bad {N : Nat} {S : SM} (hb : ¬ S.1 0 29 = 0) : x_X8_fail N S = some S := by
  unfold x_X8_fail
  rw [if_neg hb]
theorem bad_sign {N : Nat} {S : SM} (hb : ¬ S.1 0 29 = 0) (s : Int32) : x_X8_isSign N s S = some (0, S) := by
  unfold x_X8_isSign
  rw [if_neg hb]
theorem bad_word {N : Nat} {S : SM} (hb : ¬ S.1 0 29 = 0) (a b c d e f g h : Int32) : x_X8_isWord N a b c d e f g h S = some (0, S) := by
  unfold x_X8_isWord
  rw [if_neg hb]
/-- failing here -/
theorem res_fail {N : Nat} {ck pk tx : Nat → Int32} {sz q o : Nat} {g : Sg} {S : SM} (h : PRE ck pk tx sz q o g S) {c : Option (Int32 × Sg)} {r : Option (Int32 × SM)} (hc : c = some (0, g)) {v : Int32} (hr : r = (x_X8_fail N S).bind fun T => some (v, T)) : RES tx sz q g S c r := by
  obtain ⟨h1, h2, h3, h4, h5, h6, h7⟩ := h
  obtain ⟨T, t1, t2, t3, t4, t5⟩ := m_fail (N := N) h2.2.1
  refine Or.inr ⟨g, T, v, hc, by rw [hr, t1]; rfl, Fc_r g, t2, by rw [t3]; decide, q, At_q h2, h2.2.2.2.1, h5, by rw [t4]; exact h2.2.2.1⟩
/-- the token at hand, class -/
theorem tok_g {ck pk tx : Nat → Int32} {sz q o : Nat} {g : Sg} {S : SM} (h : PRE ck pk tx sz q o g S) : inb (g 3 4) 161 = true ∧ g 22 (g 3 4).toNatClampNeg = ck (cn (stb tx) q) := by
  obtain ⟨h1, h2, h3, h4, h5, h6, h7⟩ := h
  obtain ⟨a, b, c⟩ := cn_sz h2
  exact ⟨i_inb.mpr ⟨by omega, by omega⟩, by rw [h3, i_nat, h5]; rfl⟩
/-- on to the next token on both sides -/
theorem step_both {N : Nat} (hN : 300 < N) {ck pk tx : Nat → Int32} {sz q o : Nat} {g : Sg} {S : SM} (h : PRE ck pk tx sz q o g S) (hc : ¬ ck (cn (stb tx) q) = 20) (hc2 : ¬ ck (cn (stb tx) q) = 21) : ∃ T q2, x_X8_next N S = some T ∧ Fm S T ∧ T.1 0 28 = S.1 0 28 ∧ cn (stb tx) q2 = cn (stb tx) q + 1 ∧ PRE ck pk tx sz q2 o (hr1 g) T := by
  obtain ⟨h1, h2, h3, h4, h5, ⟨w, h6, h6'⟩, h7⟩ := h
  obtain ⟨T, q2, t1, t2, t3, t4⟩ := at_next (N := N) hN h1 h2 hc hc2
  obtain ⟨a, b, c⟩ := cn_sz h2
  have e1 := inc1 (x := g 3 4) (by omega)
  exact ⟨T, q2, t1, Fm_3 t2, t2.2 28 (by omega), t4, h1, t3, by rw [hr1_j _ (by omega)]; exact h3, by rw [hr1_j _ (by omega)]; exact h4, by rw [hr1_4]; omega, ⟨w, by rw [hr1_7]; exact h6, by omega⟩, by rw [t2.2 28 (by omega)]; exact h7⟩
/-- after a good piece both stand again -/
theorem good_pre {ck pk tx : Nat → Int32} {sz q o : Nat} {g : Sg} {S : SM} (h : PRE ck pk tx sz q o g S) {G : Sg} {T : SM} {v : Int32} (hg : Good tx sz q g S G T v) : ∃ q', PRE ck pk tx sz q' o G T ∧ At tx sz q' T := by
  obtain ⟨h1, h2, h3, h4, h5, ⟨w0, h6, h6'⟩, h7⟩ := h
  obtain ⟨f1, f2, q', w, w', a1, a2, a3, a4, a5, a6, a7, a8, a9, a10⟩ := hg
  refine ⟨q', ⟨h1, a1, (f1.1 22 (by omega)).trans h3, (f1.1 23 (by omega)).trans h4, a2, ⟨w', a5, by omega⟩, by rw [a3]; exact h7⟩, a1⟩
def LK (N lev o ec er : Nat) : Prop := ∀ (ck pk tx : Nat → Int32) (sz q : Nat) (g : Sg) (S : SM) (oI lI : Int32), oI.toInt = o → lI.toInt = lev → PRE ck pk tx sz q o g S → RES tx sz q g S (if lev = 5 then gr_R N ec 2 oI 0 0 g else gr_R N ec 0 lI oI 0 g) (gr_E N er lev 0 0 0 S)
def kc (lev o : Nat) : Nat := 1 + 11 * (5 - o) + 2 * (5 - lev)
def kr (lev o : Nat) : Nat := (5 - o) * 6 + (6 - lev)
def LKa (N lev o : Nat) : Prop := ∀ ec er, kc lev o ≤ ec → kr lev o ≤ er → LK N lev o ec er
/-- what stands beside the signs of a level -/
theorem op_lk {N lev o ec er : Nat} (hl : lev ≤ 4) (h : LK N (lev + 1) o ec er) {ck pk tx : Nat → Int32} {sz q : Nat} {g : Sg} {S : SM} {oI lI : Int32} (ho : oI.toInt = o) (hL : lI.toInt = lev) (hp : PRE ck pk tx sz q o g S) : RES tx sz q g S (gr_R N (ec + 1) 1 lI oI 0 g) (gr_E N er (lev + 1) 0 0 0 S) := by
  have e : gr_R N (ec + 1) 1 lI oI 0 g = x_X2_operand N (gr_R N ec) lI oI g := rfl
  rw [e]
  unfold x_X2_operand
  have i4 : (4 : Int32).toInt = 4 := by decide
  simp only [i_lt]
  rw [i4, hL]
  have le := inc1 (x := lI) (by omega)
  have := h ck pk tx sz q g S oI (lI + 1) ho (by omega) hp
  by_cases c : lev = 4
  · rw [if_neg (by omega)]
    subst c
    rw [if_pos rfl] at this
    rcases this with ⟨G, T, v, c1, c2, c3⟩ | ⟨G, T, v, c1, c2, c3⟩
    · exact Or.inl ⟨G, T, v, by rw [c1]; rfl, c2, c3⟩
    · exact Or.inr ⟨G, T, v, by rw [c1]; rfl, c2, c3⟩
  · rw [if_pos (by omega)]
    rw [if_neg (by omega)] at this
    rcases this with ⟨G, T, v, c1, c2, c3⟩ | ⟨G, T, v, c1, c2, c3⟩
    · exact Or.inl ⟨G, T, v, by rw [c1]; rfl, c2, c3⟩
    · exact Or.inr ⟨G, T, v, by rw [c1]; rfl, c2, c3⟩
