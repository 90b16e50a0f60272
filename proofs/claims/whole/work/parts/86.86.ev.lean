/-! steps behind one another, and what they come to -/
def isb (c : Int32) : Prop := c = 3 ∨ c = 4 ∨ c = 15 ∨ c = 16 ∨ c = 17 ∨ c = 18 ∨ c = 19
def jn (c a b : Int32) : Int32 := if c = 3 then (if a = 0 then (if b = 0 then 0 else 1) else 1) else if c = 4 then (if a = 0 then 0 else (if b = 0 then 0 else 1)) else if c = 15 then a + b else if c = 16 then a - b else if c = 18 then (if b ≤ a then 0 else 1) else if c = 19 then (if a = b then 1 else 0) else a * b
theorem c_joined (N : Nat) {c : Int32} (h : isb c) (a b : Int32) (g : Sg) : x_X6_joined N c a b g = some (jn c a b, g) := by
  rcases h with rfl | rfl | rfl | rfl | rfl | rfl | rfl
  · show (if a = 0 then (if b = 0 then some ((0 : Int32), g) else some ((1 : Int32), g)) else some ((1 : Int32), g)) = some ((if a = 0 then (if b = 0 then 0 else 1) else 1), g)
    split
    · split <;> rfl
    · rfl
  · show (if a = 0 then some ((0 : Int32), g) else (if b = 0 then some ((0 : Int32), g) else some ((1 : Int32), g))) = some ((if a = 0 then 0 else (if b = 0 then 0 else 1)), g)
    split
    · rfl
    · split <;> rfl
  · rfl
  · rfl
  · rfl
  · show (if b ≤ a then some ((0 : Int32), g) else some ((1 : Int32), g)) = some ((if b ≤ a then 0 else 1), g)
    split <;> rfl
  · show (if a = b then some ((1 : Int32), g) else some ((0 : Int32), g)) = some ((if a = b then 1 else 0), g)
    split <;> rfl
def un : Int32 → List Int32 → Option (List Int32)
  | _, [] => none
  | c, a :: r => some ((if c = 5 then (if a = 0 then 1 else 0) else -a) :: r)
def bi : Int32 → List Int32 → Option (List Int32)
  | c, b :: a :: r => some (jn c a b :: r)
  | _, _ => none
/-- what one step makes of a stack -/
def spR (nm : Nat → Int32) (c : Int32) (l l' : List Int32) : Prop := (100 ≤ c.toInt ∧ l' = (c - 100) :: l) ∨ ((6 ≤ c.toInt ∧ c.toInt ≤ 11) ∧ l' = nm (c.toInt.toNat - 6) :: l) ∨ ((c = 5 ∨ c = 22) ∧ un c l = some l') ∨ (isb c ∧ bi c l = some l')
/-- n steps from i on -/
def exR (st nm : Nat → Int32) (i : Nat) : Nat → List Int32 → List Int32 → Prop
  | 0, l, l' => l' = l
  | n + 1, l, l' => ∃ m, exR st nm i n l m ∧ spR nm (st (i + n)) m l'
theorem exR_a {st nm : Nat → Int32} {i m : Nat} {l l' : List Int32} (h : exR st nm i m l l') : ∀ (n : Nat) (l2 : List Int32), exR st nm (i + m) n l' l2 → exR st nm i (m + n) l l2 := by
  intro n
  induction n with
  | zero => intro l2 h2; have h2 : l2 = l' := h2; rw [h2]; exact h
  | succ n ih =>
    intro l2 h2
    obtain ⟨k, k1, k2⟩ := h2
    exact ⟨k, ih k k1, (show spR nm (st (i + (m + n))) k l2 from by rw [show i + (m + n) = i + m + n by omega]; exact k2)⟩
theorem exR_c {st st2 nm : Nat → Int32} {i : Nat} : ∀ (n : Nat) (l l' : List Int32), (∀ q, i ≤ q → q < i + n → st q = st2 q) → exR st nm i n l l' → exR st2 nm i n l l' := by
  intro n
  induction n with
  | zero => intro l l' _ h; exact h
  | succ n ih =>
    intro l l' hq h
    obtain ⟨k, k1, k2⟩ := h
    exact ⟨k, ih l k (fun q a b => hq q a (by omega)) k1, by rw [← hq (i + n) (by omega) (by omega)]; exact k2⟩
def EV (st nm : Nat → Int32) (i j : Nat) (v : Int32) : Prop := i ≤ j ∧ ∀ l : List Int32, exR st nm i (j - i) l (v :: l)
theorem EV_c {st st2 nm : Nat → Int32} {i j : Nat} {v : Int32} (h : EV st nm i j v) (hq : ∀ q, i ≤ q → q < j → st q = st2 q) : EV st2 nm i j v := by
  obtain ⟨h1, h2⟩ := h
  exact ⟨h1, fun l => exR_c _ _ _ (fun q a b => hq q a (by omega)) (h2 l)⟩
theorem EV_num {st nm : Nat → Int32} {i : Nat} (h : 100 ≤ (st i).toInt) : EV st nm i (i + 1) (st i - 100) := ⟨by omega, fun l => by
  rw [show i + 1 - i = 0 + 1 by omega]
  exact ⟨l, rfl, Or.inl ⟨h, rfl⟩⟩⟩
theorem EV_nam {st nm : Nat → Int32} {i : Nat} (h : 6 ≤ (st i).toInt ∧ (st i).toInt ≤ 11) : EV st nm i (i + 1) (nm ((st i).toInt.toNat - 6)) := ⟨by omega, fun l => by
  rw [show i + 1 - i = 0 + 1 by omega]
  exact ⟨l, rfl, Or.inr (Or.inl ⟨h, rfl⟩)⟩⟩
theorem EV_un {st nm : Nat → Int32} {i j : Nat} {v : Int32} (h : EV st nm i j v) (hc : st j = 5 ∨ st j = 22) : EV st nm i (j + 1) (if st j = 5 then (if v = 0 then 1 else 0) else -v) := by
  obtain ⟨h1, h2⟩ := h
  refine ⟨by omega, fun l => ?_⟩
  rw [show j + 1 - i = (j - i) + 1 by omega]
  refine ⟨v :: l, h2 l, ?_⟩
  rw [show i + (j - i) = j by omega]
  exact Or.inr (Or.inr (Or.inl ⟨hc, rfl⟩))
theorem EV_bi {st nm : Nat → Int32} {i j k : Nat} {a b : Int32} (h : EV st nm i j a) (h' : EV st nm j k b) (hc : isb (st k)) : EV st nm i (k + 1) (jn (st k) a b) := by
  obtain ⟨h1, h2⟩ := h
  obtain ⟨h3, h4⟩ := h'
  refine ⟨by omega, fun l => ?_⟩
  rw [show k + 1 - i = (k - i) + 1 by omega]
  refine ⟨b :: a :: l, ?_, ?_⟩
  · have := exR_a (h2 l) (k - j) (b :: a :: l) (by rw [show i + (j - i) = j by omega]; exact h4 (a :: l))
    rw [show j - i + (k - j) = k - i by omega] at this
    exact this
  · rw [show i + (k - i) = k by omega]
    exact Or.inr (Or.inr (Or.inr ⟨hc, rfl⟩))
/-! the class's stack -/
def Sk (f : Nat → Int32) : List Int32 → Prop
  | [] => True
  | a :: r => f r.length = a ∧ Sk f r
theorem Sk_u {f : Nat → Int32} {i : Nat} {v : Int32} : ∀ l : List Int32, l.length ≤ i → Sk f l → Sk (upd f i v) l := by
  intro l
  induction l with
  | nil => intro _ _; trivial
  | cons a r ih =>
    intro hl h
    obtain ⟨h1, h2⟩ := h
    have hl : r.length + 1 ≤ i := hl
    exact ⟨by rw [upd_n _ _ (by omega)]; exact h1, ih (by omega) h2⟩
theorem spR_len {nm : Nat → Int32} {c : Int32} {l l' : List Int32} (h : spR nm c l l') : l'.length ≤ l.length + 1 := by
  rcases h with ⟨_, h⟩ | ⟨_, h⟩ | ⟨_, h⟩ | ⟨_, h⟩
  · rw [h]; exact Nat.le_refl _
  · rw [h]; exact Nat.le_refl _
  · cases l with
    | nil => cases h
    | cons a r =>
      have := Option.some.inj h
      rw [← this]
      show r.length + 1 ≤ r.length + 1 + 1
      omega
  · cases l with
    | nil => cases h
    | cons b r =>
      cases r with
      | nil => cases h
      | cons a r =>
        have := Option.some.inj h
        rw [← this]
        show r.length + 1 ≤ r.length + 1 + 1 + 1
        omega
theorem c_step {N : Nat} {nm : Nat → Int32} {c h : Int32} {l l' : List Int32} {g : Sg} (hs : spR nm c l l') (hn : ∀ k : Nat, k < 6 → g 28 k = nm k) (hh : h.toInt = l.length) (hl : l.length < 160) (hk : Sk (g 29) l) : ∃ (h' : Int32) (f' : Nat → Int32), x_X6_step N c h g = some (h', up g 29 f') ∧ h'.toInt = l'.length ∧ Sk f' l' := by
  have e1 := inc1 (x := h) (by omega)
  have i0 : (0 : Int32).toInt = 0 := by decide
  have i1 : (1 : Int32).toInt = 1 := by decide
  have i6 : (6 : Int32).toInt = 6 := by decide
  have i12 : (12 : Int32).toInt = 12 := by decide
  have i100 : (100 : Int32).toInt = 100 := by decide
  have i160 : (160 : Int32).toInt = 160 := by decide
  have bh : inb h 160 = true := i_inb.mpr ⟨by omega, by omega⟩
  have hn' : h.toNatClampNeg = l.length := by rw [i_nat, hh]; rfl
  have push : ∀ v : Int32, l' = v :: l → ∃ (h' : Int32) (f' : Nat → Int32), x_X6_step_b56 N h v h g = some (h', up g 29 f') ∧ h'.toInt = l'.length ∧ Sk f' l' := by
    intro v hv
    unfold x_X6_step_b56
    rw [if_pos bh, hn']
    refine ⟨h + 1, upd (g 29) l.length v, rfl, ?_, ?_⟩
    · rw [hv]
      show (h + 1).toInt = ((l.length + 1 : Nat) : Int)
      omega
    · rw [hv]
      exact ⟨upd_s _ _ _, Sk_u l (Nat.le_refl _) hk⟩
  unfold x_X6_step x_X6_step_b18
  simp only [i_le, i_lt]
  rw [i6, i12, i100, i160]
  rcases hs with ⟨c1, hv⟩ | ⟨c1, hv⟩ | ⟨c1, hv⟩ | ⟨c1, hv⟩
  · rw [if_pos c1, if_pos (by omega), if_neg (by omega)]
    exact push _ hv
  · have b6 : inb (c - 6) 6 = true := by
      have : (c - 6).toInt = c.toInt - 6 := sub_l rfl (by decide) (by omega)
      exact i_inb.mpr ⟨by omega, by omega⟩
    have n6 : (c - 6).toNatClampNeg = c.toInt.toNat - 6 := by
      have : (c - 6).toInt = c.toInt - 6 := sub_l rfl (by decide) (by omega)
      rw [i_nat, this]; omega
    rw [if_neg (show ¬ 100 ≤ c.toInt by omega), if_neg (show ¬ c.toInt < 6 by omega), if_neg (show ¬ 12 ≤ c.toInt by omega), if_pos (show h.toInt < 160 by omega), if_pos (show c.toInt < 100 by omega), if_pos b6, n6, hn _ (by omega)]
    exact push _ hv
  · -- not, negated
    cases l with
    | nil => cases hv
    | cons a r =>
      have hv := (Option.some.inj hv).symm
      obtain ⟨k1, k2⟩ := hk
      have hh : h.toInt = ((r.length + 1 : Nat) : Int) := hh
      have hl : r.length + 1 < 160 := hl
      have em : (h - 1).toInt = r.length := by rw [sub_l hh (k := 1) (by decide) (by omega)]; omega
      have bm : inb (h - 1) 160 = true := i_inb.mpr ⟨by omega, by omega⟩
      have nm1 : (h - 1).toNatClampNeg = r.length := by rw [i_nat, em]; rfl
      have c61 : ∃ (h' : Int32) (f' : Nat → Int32), x_X6_step_b61 N c h g = some (h', up g 29 f') ∧ h'.toInt = l'.length ∧ Sk f' l' := by
        unfold x_X6_step_b61 x_X6_step_b93 x_X6_step_b97
        simp only [i_le]
        rw [i0, if_neg (show ¬ h.toInt ≤ 0 by omega)]
        rcases c1 with c1 | c1
        · rw [if_pos c1, if_pos bm, nm1, k1]
          simp only [if_pos bm, nm1, lt]
          rw [if_pos c1] at hv
          by_cases d : a = 0
          · rw [if_pos d]
            rw [if_pos d] at hv
            refine ⟨h, _, rfl, ?_, ?_⟩
            · rw [hv]; exact hh
            · rw [hv]; exact ⟨upd_s _ _ _, Sk_u r (Nat.le_refl _) k2⟩
          · rw [if_neg d]
            rw [if_neg d] at hv
            refine ⟨h, _, rfl, ?_, ?_⟩
            · rw [hv]; exact hh
            · rw [hv]; exact ⟨upd_s _ _ _, Sk_u r (Nat.le_refl _) k2⟩
        · have n5 : ¬ c = 5 := by rw [c1]; decide
          rw [if_neg n5, if_neg (show ¬ h.toInt ≤ 0 by omega), if_pos c1]
          simp only [if_pos bm, nm1, lt]
          rw [if_neg n5] at hv
          refine ⟨h, _, rfl, ?_, ?_⟩
          · rw [hv]; exact hh
          · rw [hv, k1]; exact ⟨upd_s _ _ _, Sk_u r (Nat.le_refl _) k2⟩
      rcases c1 with c1 | c1
      · have e5 : c.toInt = 5 := by rw [c1]; decide
        rw [if_neg (show ¬ 100 ≤ c.toInt by omega), if_pos (show c.toInt < 6 by omega)]
        exact c61
      · have e5 : c.toInt = 22 := by rw [c1]; decide
        rw [if_neg (show ¬ 100 ≤ c.toInt by omega), if_neg (show ¬ c.toInt < 6 by omega), if_pos (show 12 ≤ c.toInt by omega)]
        exact c61
  · cases l with
    | nil => cases hv
    | cons b r =>
      cases r with
      | nil => cases hv
      | cons a r =>
        have hv := (Option.some.inj hv).symm
        obtain ⟨k1, k2, k3⟩ := hk
        have k1 : g 29 (r.length + 1) = b := k1
        have hh : h.toInt = ((r.length + 1 + 1 : Nat) : Int) := hh
        have hl : r.length + 1 + 1 < 160 := hl
        have em : (h - 1).toInt = ((r.length + 1 : Nat) : Int) := by rw [sub_l hh (k := 1) (by decide) (by omega)]; omega
        have bm : inb (h - 1) 160 = true := i_inb.mpr ⟨by omega, by omega⟩
        have nm1 : (h - 1).toNatClampNeg = r.length + 1 := by rw [i_nat, em]; rfl
        have em2 : (h - 2).toInt = (r.length : Int) := by rw [sub_l hh (k := 2) (by decide) (by omega)]; omega
        have bm2 : inb (h - 2) 160 = true := i_inb.mpr ⟨by omega, by omega⟩
        have nm2 : (h - 2).toNatClampNeg = r.length := by rw [i_nat, em2]; rfl
        have cc : ¬ c = 5 ∧ ¬ c = 22 ∧ (c.toInt < 6 ∨ 12 ≤ c.toInt) ∧ c.toInt < 100 := by
          rcases c1 with rfl | rfl | rfl | rfl | rfl | rfl | rfl <;> decide
        obtain ⟨n5, n22, cr, c100⟩ := cc
        have c61 : ∃ (h' : Int32) (f' : Nat → Int32), x_X6_step_b61 N c h g = some (h', up g 29 f') ∧ h'.toInt = l'.length ∧ Sk f' l' := by
          unfold x_X6_step_b61 x_X6_step_b97 x_X6_step_b127
          simp only [i_le]
          rw [i0, i1, if_neg (show ¬ h.toInt ≤ 0 by omega), if_neg n5, if_neg (show ¬ h.toInt ≤ 0 by omega), if_neg n22, if_neg (show ¬ h.toInt ≤ 1 by omega), if_pos bm2, if_pos bm, nm1, nm2, c_joined N c1]
          simp only [Option.bind_some, if_pos bm2, lt]
          refine ⟨h - 1, _, rfl, ?_, ?_⟩
          · rw [hv, em]; rfl
          · rw [hv, k1, k2]
            exact ⟨upd_s _ _ _, Sk_u r (Nat.le_refl _) k3⟩
        rw [if_neg (show ¬ 100 ≤ c.toInt by omega)]
        by_cases d : c.toInt < 6
        · rw [if_pos d]; exact c61
        · rw [if_neg d, if_pos (show 12 ≤ c.toInt by omega)]; exact c61
/-- the value of a part -/
theorem c_value {N : Nat} (hN : 300 < N) {g : Sg} {t w : Int32} {st sa : Nat → Int32} {i0 i1 : Nat} {v : Int32} (ht : 0 ≤ t.toInt ∧ t.toInt < 6) (hw : 0 ≤ w.toInt ∧ w.toInt ≤ 2) (h26 : ∀ i : Nat, i < 160 → g 26 (160 * t.toInt.toNat + i) = st i) (h27 : ∀ q : Nat, q < 4 → g 27 (4 * t.toInt.toNat + q) = sa q) (e0 : (sa w.toInt.toNat).toInt = i0) (e1 : (sa (w.toInt.toNat + 1)).toInt = i1) (hi : i1 ≤ 160) (hv : EV st (fun k => g 28 k) i0 i1 v) : ∃ G, x_X6_value N t w g = some (v, G) ∧ ∀ j, j ≠ 29 → G j = g j := by
  obtain ⟨h01, hex⟩ := hv
  have hex := hex []
  have f1 : (t * 4).toInt = 4 * t.toInt := by rw [i_mul] <;> simp only [Int32.reduceToInt] <;> omega
  have f2 : (t * 4 + w).toInt = 4 * t.toInt + w.toInt := by rw [i_add, f1] <;> omega
  have f3 : (t * 4 + w + 1).toInt = 4 * t.toInt + w.toInt + 1 := add_l f2 (by decide) (by omega)
  have n2 : (t * 4 + w).toNatClampNeg = 4 * t.toInt.toNat + w.toInt.toNat := by rw [i_nat, f2]; omega
  have n3 : (t * 4 + w + 1).toNatClampNeg = 4 * t.toInt.toNat + (w.toInt.toNat + 1) := by rw [i_nat, f3]; omega
  have f4 : (t * 160).toInt = 160 * t.toInt := by rw [i_mul] <;> simp only [Int32.reduceToInt] <;> omega
  -- the prefixes
  have pre : ∀ n k : Nat, ∀ l : List Int32, exR st (fun k => g 28 k) i0 (k + n) [] l → ∃ m, exR st (fun k => g 28 k) i0 k [] m ∧ m.length ≤ k ∧ (0 < n → ∃ m', spR (fun k => g 28 k) (st (i0 + k)) m m') := by
    intro n
    induction n with
    | zero =>
      intro k l h
      have len : ∀ (k : Nat) (l : List Int32), exR st (fun k => g 28 k) i0 k [] l → l.length ≤ k := by
        intro k
        induction k with
        | zero => intro l h; have h : l = [] := h; rw [h]; exact Nat.le_refl _
        | succ k ih =>
          intro l h
          obtain ⟨m, m1, m2⟩ := h
          have := ih m m1
          have := spR_len m2
          omega
      exact ⟨l, h, len k l h, fun z => absurd z (Nat.lt_irrefl 0)⟩
    | succ n ih =>
      intro k l h
      rw [show k + (n + 1) = (k + 1) + n by omega] at h
      obtain ⟨m, ⟨m0, p1, p2⟩, m2, _⟩ := ih (k + 1) l h
      have len : ∀ (k : Nat) (l : List Int32), exR st (fun k => g 28 k) i0 k [] l → l.length ≤ k := by
        intro k
        induction k with
        | zero => intro l h; have h : l = [] := h; rw [h]; exact Nat.le_refl _
        | succ k ih =>
          intro l h
          obtain ⟨m, m1, m2⟩ := h
          have := ih m m1
          have := spR_len m2
          omega
      exact ⟨m0, p1, len k m0 p1, fun _ => ⟨m, p2⟩⟩
  -- steps are one way
  have det : ∀ c l a b, spR (fun k => g 28 k) c l a → spR (fun k => g 28 k) c l b → a = b := by
    intro c l a b ha hb
    have x5 : ∀ c : Int32, (c = 5 ∨ c = 22) → c.toInt = 5 ∨ c.toInt = 22 := fun c h => by rcases h with rfl | rfl <;> decide
    have xb : ∀ c : Int32, isb c → c.toInt = 3 ∨ c.toInt = 4 ∨ (15 ≤ c.toInt ∧ c.toInt ≤ 19) := fun c h => by rcases h with rfl | rfl | rfl | rfl | rfl | rfl | rfl <;> decide
    rcases ha with ⟨c1, ha⟩ | ⟨c1, ha⟩ | ⟨c1, ha⟩ | ⟨c1, ha⟩ <;> rcases hb with ⟨c2, hb⟩ | ⟨c2, hb⟩ | ⟨c2, hb⟩ | ⟨c2, hb⟩
    · rw [ha, hb]
    · omega
    · have := x5 c c2; omega
    · have := xb c c2; omega
    · omega
    · rw [ha, hb]
    · have := x5 c c2; omega
    · have := xb c c2; omega
    · have := x5 c c1; omega
    · have := x5 c c1; omega
    · rw [ha] at hb; exact Option.some.inj hb
    · have := x5 c c1; have := xb c c2; omega
    · have := xb c c1; omega
    · have := xb c c1; omega
    · have := xb c c1; have := x5 c c2; omega
    · rw [ha] at hb; exact Option.some.inj hb
  have det2 : ∀ n a b, exR st (fun k => g 28 k) i0 n [] a → exR st (fun k => g 28 k) i0 n [] b → a = b := by
    intro n
    induction n with
    | zero => intro a b ha hb; have ha : a = [] := ha; have hb : b = [] := hb; rw [ha, hb]
    | succ n ih =>
      intro a b ⟨m, m1, m2⟩ ⟨k, k1, k2⟩
      rw [ih m k m1 k1] at m2
      exact det _ _ _ _ m2 k2
  unfold x_X6_value
  simp only [lt]
  rw [if_pos (show inb (t * 4 + w) 24 = true from i_inb.mpr ⟨by omega, by omega⟩), n2, h27 _ (by omega)]
  obtain ⟨⟨r, G⟩, t1, t2, t3⟩ := lp_tot (F := x_X6_value_B17 N) (fun x => 200 - x.2.2.2.1.toInt.toNat) (fun x => x.1 = t ∧ x.2.1 = t * 4 + w ∧ ∃ (k : Nat) (l : List Int32), x.2.2.2.1.toInt = ((i0 + k : Nat) : Int) ∧ i0 + k ≤ i1 ∧ exR st (fun k => g 28 k) i0 k [] l ∧ x.2.2.1.toInt = l.length ∧ Sk (x.2.2.2.2 29) l ∧ ∀ j, j ≠ 29 → x.2.2.2.2 j = g j) (fun _ r => r.1 = v ∧ ∀ j, j ≠ 29 → r.2 j = g j) (by
    intro hh' ⟨y1, y2, h, i, X⟩ ⟨j1, j2, k, l, j3, j4, j5, j6, j7, j8⟩ ih
    have i1' : y1 = t := j1
    have i2 : y2 = t * 4 + w := j2
    have i3 : i.toInt = ((i0 + k : Nat) : Int) := j3
    have i6 : h.toInt = l.length := j6
    have i7 : Sk (X 29) l := j7
    have i8 : ∀ j, j ≠ 29 → X j = g j := j8
    clear j1 j2 j3 j6 j7 j8
    subst i1'; subst i2
    have z0 : (0 : Int32).toInt = 0 := by decide
    unfold x_X6_value_B17
    simp only [i_le]
    rw [if_pos (show inb (y1 * 4 + w + 1) 24 = true from i_inb.mpr ⟨by omega, by omega⟩), n3, i8 27 (by omega), h27 _ (by omega), e1, i3, z0]
    by_cases c1 : i0 + k = i1
    · rw [if_pos (by omega)]
      have el : l = [v] := by
        rw [show i1 - i0 = k by omega] at hex
        exact det2 k l [v] j5 hex
      subst el
      have hl1 : ([v] : List Int32).length = 1 := rfl
      rw [hl1] at i6
      rw [if_neg (show ¬ h.toInt ≤ 0 by omega), if_pos (by decide)]
      exact ⟨_, rfl, i7.1, i8⟩
    · rw [if_neg (by omega)]
      have f5 : (y1 * 160 + i).toInt = 160 * y1.toInt + ((i0 + k : Nat) : Int) := by rw [i_add, f4, i3] <;> omega
      have n5 : (y1 * 160 + i).toNatClampNeg = 160 * y1.toInt.toNat + (i0 + k) := by rw [i_nat, f5]; omega
      rw [if_pos (show inb (y1 * 160 + i) 960 = true from i_inb.mpr ⟨by omega, by omega⟩), n5, i8 26 (by omega), h26 _ (by omega)]
      obtain ⟨m, m1, m2, m3⟩ := pre (i1 - i0 - k) k [v] (by rw [show k + (i1 - i0 - k) = i1 - i0 by omega]; exact hex)
      have em := det2 k l m j5 m1
      subst em
      obtain ⟨l', hl'⟩ := m3 (by omega)
      obtain ⟨h', f', s1, s2, s3⟩ := c_step (N := N) (g := X) hl' (fun q _ => by rw [i8 28 (by omega)]) i6 (by omega) i7
      rw [s1]
      simp only [Option.bind_some, lt]
      have e5 := inc1 (x := i) (by omega)
      refine ih (y1, y1 * 4 + w, h', i + 1, up X 29 f') ⟨rfl, rfl, k + 1, l', by show (i + 1).toInt = _; omega, by omega, ⟨l, j5, hl'⟩, s2, ?_, fun j hj => ?_⟩ (by show 200 - (i + 1).toInt.toNat < 200 - i.toInt.toNat; omega)
      · show Sk (up X 29 f' 29) l'
        rw [up_s]; exact s3
      · show up X 29 f' j = _
        rw [up_n _ _ hj]; exact i8 j hj) N (t, t * 4 + w, 0, sa w.toInt.toNat, g) ⟨rfl, rfl, 0, [], e0, by omega, rfl, rfl, trivial, fun _ _ => rfl⟩ (by show 200 - _ < N; omega)
  have t2 : r = v := t2
  subst t2
  exact ⟨G, t1, t3⟩
