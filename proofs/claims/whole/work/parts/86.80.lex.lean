/-! texts: how bytes are read, the reference -/
def so (v : Int32) : Nat := if 97 ≤ v.toInt ∧ v.toInt ≤ 122 then 0 else if 48 ≤ v.toInt ∧ v.toInt ≤ 57 then 1 else if v.toInt = 32 ∨ v.toInt = 10 then 2 else 3
def sg (v : Int32) : Prop := v = 40 ∨ v = 41 ∨ v = 59 ∨ v = 43 ∨ v = 45 ∨ v = 42 ∨ v = 60 ∨ v = 61
def Run (tx : Nat → Int32) (sz k q e : Nat) : Prop := q ≤ e ∧ e ≤ sz ∧ (∀ j, q ≤ j → j < e → so (tx j) = k) ∧ (e = sz ∨ ¬ so (tx e) = k)
def numv (tx : Nat → Int32) (q : Nat) : Nat → Int
  | 0 => 0
  | n + 1 => 10 * numv tx q n + (tx (q + n)).toInt - 48
theorem numv_b {tx : Nat → Int32} {q : Nat} : ∀ n, n ≤ 4 → (∀ j, q ≤ j → j < q + n → so (tx j) = 1) → 0 ≤ numv tx q n ∧ numv tx q n < 10 ^ n := by
  intro n
  induction n with
  | zero => intro _ _; exact ⟨Int.le_refl 0, by show (0 : Int) < 1; decide⟩
  | succ n ih =>
    intro hn h
    obtain ⟨h1, h2⟩ := ih (by omega) (fun j a b => h j a (by omega))
    have h3 := h (q + n) (by omega) (by omega)
    unfold so at h3
    have h4 : 48 ≤ (tx (q + n)).toInt ∧ (tx (q + n)).toInt ≤ 57 := by
      split at h3
      · cases h3
      · split at h3
        · assumption
        · split at h3 <;> cases h3
    show 0 ≤ 10 * numv tx q n + (tx (q + n)).toInt - 48 ∧ 10 * numv tx q n + (tx (q + n)).toInt - 48 < 10 ^ (n + 1)
    have e : (10 : Int) ^ (n + 1) = 10 ^ n * 10 := Int.pow_succ _ _
    omega
def RT (S : SM) (tx : Nat → Int32) (sz : Nat) : Prop := (S.1 0 23).toInt = sz ∧ sz ≤ 160 ∧ (0 ≤ (S.1 0 22).toInt ∧ (S.1 0 22).toInt ≤ 800) ∧ ∀ p : Nat, p < sz → S.1 1 ((S.1 0 22).toInt.toNat + p) = tx p ∧ 0 ≤ (tx p).toInt ∧ (tx p).toInt ≤ 255
def bt (tx : Nat → Int32) (sz p : Nat) : Int32 := if p < sz then tx p else -1
theorem m_byteAt {N : Nat} {S : SM} {tx : Nat → Int32} {sz : Nat} (h : RT S tx sz) {a : Int32} {p : Nat} (ha : a.toInt = p) (hp : p ≤ 1000) : x_X8_byteAt N a S = some (bt tx sz p, S) := by
  obtain ⟨h1, h2, h3, h4⟩ := h
  unfold x_X8_byteAt bt
  simp only [i_le]
  by_cases c : p < sz
  · have e : (S.1 0 22 + a).toInt = (S.1 0 22).toInt + p := by rw [i_add, ha] <;> omega
    rw [if_neg (by omega), if_pos (show inb (S.1 0 22 + a) 960 = true from i_inb.mpr ⟨by omega, by omega⟩), if_pos c, i_nat, e, show ((S.1 0 22).toInt + (p : Int)).toNat = (S.1 0 22).toInt.toNat + p by omega, (h4 p c).1]
  · rw [if_pos (by omega), if_neg c]
def Fr3 (S T : SM) : Prop := (∀ j : Nat, j ≠ 0 → T.1 j = S.1 j) ∧ ∀ k : Nat, ¬ (24 ≤ k ∧ k ≤ 26) → T.1 0 k = S.1 0 k
theorem Fr3_r (S : SM) : Fr3 S S := ⟨fun _ _ => rfl, fun _ _ => rfl⟩
theorem Fr3_t {S T U : SM} (a : Fr3 S T) (b : Fr3 T U) : Fr3 S U := ⟨fun j hj => (b.1 j hj).trans (a.1 j hj), fun k hk => (b.2 k hk).trans (a.2 k hk)⟩
theorem Fr3_0 (S : SM) (k : Nat) (v : Int32) (h : 24 ≤ k ∧ k ≤ 26) : Fr3 S (st0 S k v) := ⟨fun _ hj => st0_j _ _ _ hj, fun q hq => st0_n _ _ _ (by omega)⟩
theorem Fr3_2 (S : SM) (w : Int64) : Fr3 S (S.1, w) := ⟨fun _ _ => rfl, fun _ _ => rfl⟩
theorem RT_f {S T : SM} {tx : Nat → Int32} {sz : Nat} (h : RT S tx sz) (f : Fr3 S T) : RT T tx sz := by
  obtain ⟨h1, h2, h3, h4⟩ := h
  refine ⟨by rw [f.2 23 (by omega)]; exact h1, h2, by rw [f.2 22 (by omega)]; exact h3, fun p hp => ?_⟩
  rw [f.2 22 (by omega), f.1 1 (by omega)]; exact h4 p hp
/-- the letters of a word -/
theorem m_lets {N : Nat} (hN : 300 < N) {S : SM} {tx : Nat → Int32} {sz q : Nat} (h : RT S tx sz) (h24 : (S.1 0 24).toInt = q) (hq : q ≤ sz) : ∃ (T : SM) (e : Nat), lp (x_X8_next_B100 N) N S = some T ∧ Run tx sz 0 q e ∧ (T.1 0 24).toInt = e ∧ (∀ k, k ≠ 24 → T.1 0 k = S.1 0 k) ∧ T.2 = S.2 ∧ ∀ j, j ≠ 0 → T.1 j = S.1 j := by
  obtain ⟨T, t1, e, t2, t3, t4, t5, t6⟩ := lp_tot (F := x_X8_next_B100 N) (fun X => 200 - (X.1 0 24).toInt.toNat) (fun X => ∃ p : Nat, (X.1 0 24).toInt = p ∧ q ≤ p ∧ p ≤ sz ∧ (∀ j, q ≤ j → j < p → so (tx j) = 0) ∧ (∀ k, k ≠ 24 → X.1 0 k = S.1 0 k) ∧ X.2 = S.2 ∧ ∀ j, j ≠ 0 → X.1 j = S.1 j) (fun _ T => ∃ e : Nat, Run tx sz 0 q e ∧ (T.1 0 24).toInt = e ∧ (∀ k, k ≠ 24 → T.1 0 k = S.1 0 k) ∧ T.2 = S.2 ∧ ∀ j, j ≠ 0 → T.1 j = S.1 j) (by
    intro hh X ⟨p, p1, p2, p3, p4, p5, p6, p7⟩ ih
    have hX : RT X tx sz := RT_f h ⟨fun j hj => p7 j hj, fun k hk => p5 k (by omega)⟩
    have h160 := h.2.1
    unfold x_X8_next_B100
    rw [m_byteAt hX p1 (by omega)]
    simp only [Option.bind_some, m_in, i_l64, Int64.reduceToInt, b2_0]
    by_cases c : 97 ≤ (bt tx sz p).toInt ∧ (bt tx sz p).toInt ≤ 122
    · rw [if_neg (fun z => z c)]
      have hp : p < sz := by
        refine Decidable.byContradiction (fun z => ?_)
        unfold bt at c
        rw [if_neg z] at c
        exact absurd c.1 (by decide)
      have ct : bt tx sz p = tx p := if_pos hp
      rw [ct] at c
      have s0 : so (tx p) = 0 := if_pos c
      have e1 := inc1 (x := X.1 0 24) (by omega)
      simp only [lt]
      refine ih (st0 X 24 (X.1 0 24 + 1)) ⟨p + 1, by rw [st0_s]; omega, by omega, by omega, fun j a b => ?_, fun k hk => by rw [st0_n _ _ _ hk]; exact p5 k hk, p6, fun j hj => by rw [st0_j _ _ _ hj]; exact p7 j hj⟩ (by show 200 - ((st0 X 24 (X.1 0 24 + 1)).1 0 24).toInt.toNat < _; rw [st0_s]; omega)
      by_cases d : j = p
      · rw [d]; exact s0
      · exact p4 j a (by omega)
    · rw [if_pos c]
      refine ⟨X, rfl, p, ⟨p2, p3, p4, ?_⟩, p1, p5, p6, p7⟩
      by_cases hp : p < sz
      · refine Or.inr (fun z => c ?_)
        have ct : bt tx sz p = tx p := if_pos hp
        rw [ct]
        unfold so at z
        split at z
        · assumption
        · split at z
          · cases z
          · split at z <;> cases z
      · exact Or.inl (by omega)) N S ⟨q, h24, Nat.le_refl _, hq, fun j a b => by omega, fun _ _ => rfl, rfl, fun _ _ => rfl⟩ (by omega)
  exact ⟨T, e, t1, t2, t3, t4, t5, t6⟩
theorem l_mul {x y : Int64} (h1 : -9223372036854775808 ≤ x.toInt * y.toInt) (h2 : x.toInt * y.toInt ≤ 9223372036854775807) : (x * y).toInt = x.toInt * y.toInt := by
  rw [Int64.toInt_mul]; exact l_bm h1 h2
theorem l_sub {x y : Int64} (h1 : -9223372036854775808 ≤ x.toInt - y.toInt) (h2 : x.toInt - y.toInt ≤ 9223372036854775807) : (x - y).toInt = x.toInt - y.toInt := by
  rw [Int64.toInt_sub]; exact l_bm h1 h2
theorem so_1 {v : Int32} : so v = 1 ↔ 48 ≤ v.toInt ∧ v.toInt ≤ 57 := by
  unfold so
  constructor
  · intro z
    split at z
    · cases z
    · split at z
      · assumption
      · split at z <;> cases z
  · intro z
    rw [if_neg (by omega), if_pos z]
theorem so_0 {v : Int32} : so v = 0 ↔ 97 ≤ v.toInt ∧ v.toInt ≤ 122 := by
  unfold so
  constructor
  · intro z
    split at z
    · assumption
    · split at z
      · cases z
      · split at z <;> cases z
  · intro z
    rw [if_pos z]
theorem so_2 {v : Int32} : so v = 2 ↔ v.toInt = 32 ∨ v.toInt = 10 := by
  unfold so
  constructor
  · intro z
    split at z
    · cases z
    · split at z
      · cases z
      · split at z
        · assumption
        · cases z
  · intro z
    rw [if_neg (by omega), if_neg (by omega), if_pos z]
/-- the digits of a number -/
theorem m_digs {N : Nat} (hN : 300 < N) {S : SM} {tx : Nat → Int32} {sz q : Nat} (h : RT S tx sz) (h24 : (S.1 0 24).toInt = q) (hq : q ≤ sz) (h2 : S.2 = 0) : ∃ (T : SM) (e : Nat), lp (x_X8_next_B160 N) N (0, S) = some T ∧ Run tx sz 1 q e ∧ (T.1 0 24).toInt = e ∧ T.1 0 25 = (if e - q ≤ 4 then 2 else 4) ∧ (e - q ≤ 4 → T.2.toInt = numv tx q (e - q)) ∧ (∀ k, k ≠ 24 → k ≠ 25 → T.1 0 k = S.1 0 k) ∧ ∀ j, j ≠ 0 → T.1 j = S.1 j := by
  obtain ⟨T, t1, e, t2, t3, t4, t5, t6, t7⟩ := lp_tot (F := x_X8_next_B160 N) (fun x => 200 - (x.2.1 0 24).toInt.toNat) (fun x => ∃ p : Nat, (x.2.1 0 24).toInt = p ∧ q ≤ p ∧ p ≤ sz ∧ x.1.toInt = (p - q : Nat) ∧ (∀ j, q ≤ j → j < p → so (tx j) = 1) ∧ (p - q ≤ 4 → x.2.2.toInt = numv tx q (p - q)) ∧ (∀ k, k ≠ 24 → k ≠ 25 → x.2.1 0 k = S.1 0 k) ∧ ∀ j, j ≠ 0 → x.2.1 j = S.1 j) (fun _ T => ∃ e : Nat, Run tx sz 1 q e ∧ (T.1 0 24).toInt = e ∧ T.1 0 25 = (if e - q ≤ 4 then 2 else 4) ∧ (e - q ≤ 4 → T.2.toInt = numv tx q (e - q)) ∧ (∀ k, k ≠ 24 → k ≠ 25 → T.1 0 k = S.1 0 k) ∧ ∀ j, j ≠ 0 → T.1 j = S.1 j) (by
    intro hh ⟨n, X⟩ ⟨p, p1, p2, p3, p4, p5, p6, p7, p8⟩ ih
    have p1 : (X.1 0 24).toInt = p := p1
    have p4 : n.toInt = (p - q : Nat) := p4
    have p6 : p - q ≤ 4 → X.2.toInt = numv tx q (p - q) := p6
    have hX : RT X tx sz := RT_f h ⟨fun j hj => p8 j hj, fun k hk => p7 k (by omega) (by omega)⟩
    have h160 := h.2.1
    unfold x_X8_next_B160
    simp only []
    rw [m_byteAt hX p1 (by omega)]
    simp only [Option.bind_some, m_in, i_l64, Int64.reduceToInt, b2_0, i_le]
    have n4 : (4 : Int32).toInt = 4 := by decide
    rw [n4]
    by_cases c : 48 ≤ (bt tx sz p).toInt ∧ (bt tx sz p).toInt ≤ 57
    · rw [if_neg (fun z => z c)]
      have hp : p < sz := by
        refine Decidable.byContradiction (fun z => ?_)
        unfold bt at c
        rw [if_neg z] at c
        exact absurd c.1 (by decide)
      have ct : bt tx sz p = tx p := if_pos hp
      rw [ct] at c
      have e1 := inc1 (x := X.1 0 24) (by omega)
      have en := inc1 (x := n) (by omega)
      have all : ∀ j, q ≤ j → j < p + 1 → so (tx j) = 1 := fun j a b => by
        by_cases d : j = p
        · rw [d]; exact so_1.mpr c
        · exact p5 j a (by omega)
      have go : ∀ w : Int64, (p + 1 - q ≤ 4 → w.toInt = numv tx q (p + 1 - q)) → ∃ r, x_X8_next_b216 N hh n w X = some r ∧ ∃ e : Nat, Run tx sz 1 q e ∧ (r.1 0 24).toInt = e ∧ r.1 0 25 = (if e - q ≤ 4 then 2 else 4) ∧ (e - q ≤ 4 → r.2.toInt = numv tx q (e - q)) ∧ (∀ k, k ≠ 24 → k ≠ 25 → r.1 0 k = S.1 0 k) ∧ ∀ j, j ≠ 0 → r.1 j = S.1 j := by
        intro w hw
        unfold x_X8_next_b216
        simp only [lt]
        refine ih (n + 1, st0 (X.1, w) 24 (X.1 0 24 + 1)) ⟨p + 1, by show ((st0 (X.1, w) 24 (X.1 0 24 + 1)).1 0 24).toInt = _; rw [st0_s]; omega, by omega, by omega, by show (n + 1).toInt = _; omega, all, hw, fun k hk hk' => by show (st0 (X.1, w) 24 (X.1 0 24 + 1)).1 0 k = _; rw [st0_n _ _ _ hk]; exact p7 k hk hk', fun j hj => by show (st0 (X.1, w) 24 (X.1 0 24 + 1)).1 j = _; rw [st0_j _ _ _ hj]; exact p8 j hj⟩ (by show 200 - ((st0 (X.1, w) 24 (X.1 0 24 + 1)).1 0 24).toInt.toNat < _; rw [st0_s]; show 200 - (X.1 0 24 + 1).toInt.toNat < 200 - (X.1 0 24).toInt.toNat; omega)
      by_cases d : 4 ≤ n.toInt
      · rw [if_pos d]
        exact go X.2 (fun z => by omega)
      · rw [if_neg d, m_byteAt hX p1 (by omega)]
        simp only [Option.bind_some]
        rw [ct]
        refine go _ (fun z => ?_)
        have w1 := p6 (by omega)
        obtain ⟨nb1, nb2⟩ := numv_b (tx := tx) (q := q) (p - q) (by omega) (fun j a b => p5 j a (by omega))
        have p10 : (10 : Int) ^ (p - q) ≤ 10000 := by
          have : p - q = 0 ∨ p - q = 1 ∨ p - q = 2 ∨ p - q = 3 := by omega
          rcases this with e | e | e | e <;> rw [e] <;> decide
        have t10 : (10 : Int64).toInt = 10 := by decide
        have t48 : (48 : Int64).toInt = 48 := by decide
        have m1 : ((10 : Int64) * X.2).toInt = 10 * numv tx q (p - q) := by rw [l_mul, t10, w1] <;> rw [t10, w1] <;> omega
        have m2 : ((10 : Int64) * X.2 + (tx p).toInt64).toInt = 10 * numv tx q (p - q) + (tx p).toInt := by rw [l_add, m1, i_l64] <;> rw [m1, i_l64] <;> omega
        rw [l_sub, m2, t48]
        · rw [show p + 1 - q = (p - q) + 1 by omega]
          show _ = 10 * numv tx q (p - q) + (tx (q + (p - q))).toInt - 48
          rw [show q + (p - q) = p by omega]
        · rw [m2, t48]; omega
        · rw [m2, t48]; omega
    · rw [if_pos c]
      have run : Run tx sz 1 q p := by
        refine ⟨p2, p3, p5, ?_⟩
        by_cases hp : p < sz
        · refine Or.inr (fun z => c ?_)
          have ct : bt tx sz p = tx p := if_pos hp
          rw [ct]
          exact so_1.mp z
        · exact Or.inl (by omega)
      unfold x_X8_next_b246
      simp only [lt]
      by_cases d : n.toInt ≤ 4
      · rw [if_pos d]
        exact ⟨_, rfl, p, run, by show ((st0 X 25 2).1 0 24).toInt = _; rw [st0_n _ _ _ (by omega)]; exact p1, by show (st0 X 25 2).1 0 25 = _; rw [st0_s, if_pos (by omega)], p6, fun k hk hk' => by show (st0 X 25 2).1 0 k = _; rw [st0_n _ _ _ hk']; exact p7 k hk hk', fun j hj => by show (st0 X 25 2).1 j = _; rw [st0_j _ _ _ hj]; exact p8 j hj⟩
      · rw [if_neg d]
        exact ⟨_, rfl, p, run, by show ((st0 X 25 4).1 0 24).toInt = _; rw [st0_n _ _ _ (by omega)]; exact p1, by show (st0 X 25 4).1 0 25 = _; rw [st0_s, if_neg (by omega)], fun z => by omega, fun k hk hk' => by show (st0 X 25 4).1 0 k = _; rw [st0_n _ _ _ hk']; exact p7 k hk hk', fun j hj => by show (st0 X 25 4).1 j = _; rw [st0_j _ _ _ hj]; exact p8 j hj⟩) N (0, S) ⟨q, h24, Nat.le_refl _, hq, by show (0 : Int32).toInt = ((q - q : Nat) : Int); rw [Nat.sub_self]; rfl, fun j a b => by omega, fun _ => by show S.2.toInt = _; rw [h2, Nat.sub_self]; rfl, fun _ _ _ => rfl, fun _ _ => rfl⟩ (by show 200 - (S.1 0 24).toInt.toNat < N; omega)
  exact ⟨T, e, t1, t2, t3, t4, t5, t6, t7⟩
