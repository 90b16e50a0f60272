/-! all levels, all depths -/
def kc2 (lev o : Nat) : Nat := 3 + 11 * (5 - o) + 2 * (5 - lev)
theorem lk_all {N : Nat} (hN : 300 < N) : ∀ d : Nat, d ≤ 5 → ∀ lev : Nat, lev ≤ 5 → ∀ ec er : Nat, kc2 lev (5 - d) ≤ ec → kr lev (5 - d) ≤ er → LK N lev (5 - d) ec er := by
  intro d
  induction d with
  | zero =>
    intro hd
    have h5 : ∀ ec er : Nat, kc2 5 5 ≤ ec → kr 5 5 ≤ er → LK N 5 5 ec er := fun ec er h1 h2 => by
      unfold kc2 at h1
      unfold kr at h2
      obtain ⟨a, rfl⟩ : ∃ a, ec = a + 3 := ⟨ec - 3, by omega⟩
      obtain ⟨b, rfl⟩ : ∃ b, er = b + 1 := ⟨er - 1, by omega⟩
      exact lk_5 hN (by omega) (fun z => by omega) (fun z => by omega)
    have h4 : ∀ ec er : Nat, kc2 4 5 ≤ ec → kr 4 5 ≤ er → LK N 4 5 ec er := fun ec er h1 h2 => by
      unfold kc2 at h1
      unfold kr at h2
      obtain ⟨a, rfl⟩ : ∃ a, ec = a + 2 := ⟨ec - 2, by omega⟩
      obtain ⟨b, rfl⟩ : ∃ b, er = b + 1 := ⟨er - 1, by omega⟩
      exact lk_4 hN (h5 a b (by unfold kc2; omega) (by unfold kr; omega))
    have h3 : ∀ ec er : Nat, kc2 3 5 ≤ ec → kr 3 5 ≤ er → LK N 3 5 ec er := fun ec er h1 h2 => by
      unfold kc2 at h1
      unfold kr at h2
      obtain ⟨a, rfl⟩ : ∃ a, ec = a + 2 := ⟨ec - 2, by omega⟩
      obtain ⟨b, rfl⟩ : ∃ b, er = b + 1 := ⟨er - 1, by omega⟩
      exact lk_3 hN (h4 a b (by unfold kc2; omega) (by unfold kr; omega))
    have h2' : ∀ ec er : Nat, kc2 2 5 ≤ ec → kr 2 5 ≤ er → LK N 2 5 ec er := fun ec er h1 h2 => by
      unfold kc2 at h1
      unfold kr at h2
      obtain ⟨a, rfl⟩ : ∃ a, ec = a + 3 := ⟨ec - 3, by omega⟩
      obtain ⟨b, rfl⟩ : ∃ b, er = b + 1 := ⟨er - 1, by omega⟩
      exact lk_2 hN (by omega) (h3 (a + 1) b (by unfold kc2; omega) (by unfold kr; omega)) (fun z => by omega)
    have h1' : ∀ ec er : Nat, kc2 1 5 ≤ ec → kr 1 5 ≤ er → LK N 1 5 ec er := fun ec er h1 h2 => by
      unfold kc2 at h1
      unfold kr at h2
      obtain ⟨a, rfl⟩ : ∃ a, ec = a + 2 := ⟨ec - 2, by omega⟩
      obtain ⟨b, rfl⟩ : ∃ b, er = b + 1 := ⟨er - 1, by omega⟩
      exact lk_1 hN (h2' a b (by unfold kc2; omega) (by unfold kr; omega))
    have h0 : ∀ ec er : Nat, kc2 0 5 ≤ ec → kr 0 5 ≤ er → LK N 0 5 ec er := fun ec er h1 h2 => by
      unfold kc2 at h1
      unfold kr at h2
      obtain ⟨a, rfl⟩ : ∃ a, ec = a + 2 := ⟨ec - 2, by omega⟩
      obtain ⟨b, rfl⟩ : ∃ b, er = b + 1 := ⟨er - 1, by omega⟩
      exact lk_0 hN (h1' a b (by unfold kc2; omega) (by unfold kr; omega))
    intro lev hl ec er
    have : lev = 0 ∨ lev = 1 ∨ lev = 2 ∨ lev = 3 ∨ lev = 4 ∨ lev = 5 := by omega
    rcases this with e | e | e | e | e | e <;> subst e
    · exact h0 ec er
    · exact h1' ec er
    · exact h2' ec er
    · exact h3 ec er
    · exact h4 ec er
    · exact h5 ec er
  | succ d ih =>
    intro hd
    have ih := ih (by omega)
    obtain ⟨o, ho⟩ : ∃ o, o = 5 - (d + 1) := ⟨_, rfl⟩
    have ho2 : 5 - d = o + 1 := by omega
    have ho3 : o < 5 := by omega
    rw [← ho]
    rw [ho2] at ih
    have h5 : ∀ ec er : Nat, kc2 5 o ≤ ec → kr 5 o ≤ er → LK N 5 o ec er := fun ec er h1 h2 => by
      unfold kc2 at h1
      unfold kr at h2
      obtain ⟨a, rfl⟩ : ∃ a, ec = a + 3 := ⟨ec - 3, by omega⟩
      obtain ⟨b, rfl⟩ : ∃ b, er = b + 1 := ⟨er - 1, by omega⟩
      exact lk_5 hN (by omega) (fun z => ih 0 (by omega) (a + 2) b (by unfold kc2; omega) (by unfold kr; omega)) (fun z => ih 5 (by omega) a b (by unfold kc2; omega) (by unfold kr; omega))
    have h4 : ∀ ec er : Nat, kc2 4 o ≤ ec → kr 4 o ≤ er → LK N 4 o ec er := fun ec er h1 h2 => by
      unfold kc2 at h1
      unfold kr at h2
      obtain ⟨a, rfl⟩ : ∃ a, ec = a + 2 := ⟨ec - 2, by omega⟩
      obtain ⟨b, rfl⟩ : ∃ b, er = b + 1 := ⟨er - 1, by omega⟩
      exact lk_4 hN (h5 a b (by unfold kc2; omega) (by unfold kr; omega))
    have h3 : ∀ ec er : Nat, kc2 3 o ≤ ec → kr 3 o ≤ er → LK N 3 o ec er := fun ec er h1 h2 => by
      unfold kc2 at h1
      unfold kr at h2
      obtain ⟨a, rfl⟩ : ∃ a, ec = a + 2 := ⟨ec - 2, by omega⟩
      obtain ⟨b, rfl⟩ : ∃ b, er = b + 1 := ⟨er - 1, by omega⟩
      exact lk_3 hN (h4 a b (by unfold kc2; omega) (by unfold kr; omega))
    have h2' : ∀ ec er : Nat, kc2 2 o ≤ ec → kr 2 o ≤ er → LK N 2 o ec er := fun ec er h1 h2 => by
      unfold kc2 at h1
      unfold kr at h2
      obtain ⟨a, rfl⟩ : ∃ a, ec = a + 3 := ⟨ec - 3, by omega⟩
      obtain ⟨b, rfl⟩ : ∃ b, er = b + 1 := ⟨er - 1, by omega⟩
      exact lk_2 hN (by omega) (h3 (a + 1) b (by unfold kc2; omega) (by unfold kr; omega)) (fun z => ih 2 (by omega) a b (by unfold kc2; omega) (by unfold kr; omega))
    have h1' : ∀ ec er : Nat, kc2 1 o ≤ ec → kr 1 o ≤ er → LK N 1 o ec er := fun ec er h1 h2 => by
      unfold kc2 at h1
      unfold kr at h2
      obtain ⟨a, rfl⟩ : ∃ a, ec = a + 2 := ⟨ec - 2, by omega⟩
      obtain ⟨b, rfl⟩ : ∃ b, er = b + 1 := ⟨er - 1, by omega⟩
      exact lk_1 hN (h2' a b (by unfold kc2; omega) (by unfold kr; omega))
    have h0 : ∀ ec er : Nat, kc2 0 o ≤ ec → kr 0 o ≤ er → LK N 0 o ec er := fun ec er h1 h2 => by
      unfold kc2 at h1
      unfold kr at h2
      obtain ⟨a, rfl⟩ : ∃ a, ec = a + 2 := ⟨ec - 2, by omega⟩
      obtain ⟨b, rfl⟩ : ∃ b, er = b + 1 := ⟨er - 1, by omega⟩
      exact lk_0 hN (h1' a b (by unfold kc2; omega) (by unfold kr; omega))
    intro lev hl ec er
    have : lev = 0 ∨ lev = 1 ∨ lev = 2 ∨ lev = 3 ∨ lev = 4 ∨ lev = 5 := by omega
    rcases this with e | e | e | e | e | e <;> subst e
    · exact h0 ec er
    · exact h1' ec er
    · exact h2' ec er
    · exact h3 ec er
    · exact h4 ec er
    · exact h5 ec er
theorem lk_top {N : Nat} (hN : 300 < N) : LK N 0 0 100 60 := lk_all hN 5 (by omega) 0 (by omega) 100 60 (by decide) (by decide)
