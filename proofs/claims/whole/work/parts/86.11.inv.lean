/-! stores -/
theorem up_s (g : Sg) (i : Nat) (f : Nat → Int32) : up g i f i = f := if_pos rfl
theorem up_n (g : Sg) {i j : Nat} (f : Nat → Int32) (h : j ≠ i) : up g i f j = g j := if_neg h
theorem upd_s (f : Nat → Int32) (k : Nat) (x : Int32) : upd f k x k = x := if_pos rfl
theorem upd_n (f : Nat → Int32) {k j : Nat} (x : Int32) (h : j ≠ k) : upd f k x j = f j := if_neg h
/-! loops -/
theorem lp_tot {α β : Type} {F : (α → Option β) → α → Option β} (μ : α → Nat) (I : α → Prop) (P : α → β → Prop) (step : ∀ (h : α → Option β) (x : α), I x → (∀ y, I y → μ y < μ x → ∃ r, h y = some r ∧ P y r) → ∃ r, F h x = some r ∧ P x r) : ∀ (n : Nat) (x : α), I x → μ x < n → ∃ r, lp F n x = some r ∧ P x r := by
  intro n
  induction n with
  | zero => intro x _ h; exact absurd h (Nat.not_lt_zero _)
  | succ n ih =>
    intro x hI hn
    exact step (lp F n) x hI (fun y hy hlt => ih y hy (by omega))
/-! what couples the two stores -/
def IvT (a b : Nat → Int32) : Prop := ∀ f : Nat, f < 100 → a f = b f ∧ 0 ≤ (a f).toInt ∧ (a f).toInt ≤ 9
def IvM (nb rn sk nb2 rn2 sk2 : Nat → Int32) : Prop := ∀ m : Nat, m < 5 → (nb m = nb2 m ∧ 0 ≤ (nb m).toInt ∧ (nb m).toInt ≤ 9) ∧ (rn m = rn2 m ∧ -9 ≤ (rn m).toInt ∧ (rn m).toInt ≤ 9) ∧ (sk m = sk2 m ∧ 0 ≤ (sk m).toInt ∧ (sk m).toInt ≤ 1048575)
def IvK (mk : Int32) (kd kd2 : Nat → Int32) : Prop := ∀ m : Nat, (m : Int) < mk.toInt → kd m = kd2 m ∧ 0 ≤ (kd m).toInt ∧ (kd m).toInt ≤ 5
def IvS (l r h u k l2 r2 h2 u2 k2 held : Int32) : Prop := (l = l2 ∧ 0 ≤ l.toInt ∧ l.toInt ≤ 99) ∧ (r = r2 ∧ 0 ≤ r.toInt ∧ r.toInt ≤ 99) ∧ (h = h2 ∧ 0 ≤ h.toInt ∧ h.toInt ≤ 23) ∧ (u = u2 ∧ 0 ≤ u.toInt ∧ u.toInt < held.toInt) ∧ (k = k2 ∧ 0 ≤ k.toInt ∧ k.toInt ≤ 5)
def IvB (g : Sg) (s : Sg) : Prop := (g 0 2 = 0 ∧ s 0 46 = -1) ∨ (g 0 2 = 1 ∧ IvS (g 2 0) (g 2 1) (g 2 2) (g 2 3) (g 2 4) (s 0 47) (s 0 48) (s 0 49) (s 0 50) (s 0 46) (g 4 0) ∧ (g 2 4).toInt ≤ (g 1 4).toInt ∧ IvT (g 16) (s 16) ∧ IvM (g 18) (g 19) (g 20) (s 17) (fun m => s 17 (5 + m)) (fun m => s 17 (10 + m)) ∧ ∀ m : Nat, (m : Int) < (g 2 4).toInt → g 17 m = g 12 m)
def IvP (g : Sg) (s : Sg) : Prop := g 3 1 = s 0 6 ∧ 0 ≤ (g 3 1).toInt ∧ (g 3 1).toInt ≤ 160 ∧ ∀ i : Nat, (i : Int) < (g 3 1).toInt → g 21 i = s 3 i ∧ 0 ≤ (g 21 i).toInt ∧ (g 21 i).toInt ≤ 255
def IvH (g : Sg) (s : Sg) : Prop := ∀ k : Nat, k < 4 → (g 30 k = -1 ∧ s 18 k = 0) ∨ ((0 ≤ (g 30 k).toInt ∧ (g 30 k).toInt ≤ 2) ∧ s 18 k = 1 ∧ s 19 k = g 30 k ∧ s 20 k = g 31 k ∧ (0 ≤ (g 31 k).toInt ∧ (g 31 k).toInt ≤ 40) ∧ ∀ i : Nat, (i : Int) < (g 31 k).toInt → g (33 + k) i = s 21 (40 * k + i))
/-- TX: what couples a kept text's steps and starts with its bytes and size -/
def IvX (TX : (Nat → Int32) → (Nat → Int32) → (Nat → Int32) → Int32 → Prop) (g : Sg) (s : Sg) : Prop := g 4 0 = s 0 3 ∧ 1 ≤ (g 4 0).toInt ∧ (g 4 0).toInt ≤ 6 ∧ ∀ t : Nat, (t : Int) < (g 4 0).toInt → TX (fun i => g 26 (160 * t + i)) (fun q => g 27 (4 * t + q)) (fun i => s 1 (160 * t + i)) (s 2 t)
def Inv (TX : (Nat → Int32) → (Nat → Int32) → (Nat → Int32) → Int32 → Prop) (g : Sg) (S : SM) : Prop := IvS (g 1 0) (g 1 1) (g 1 2) (g 1 3) (g 1 4) (S.1 0 7) (S.1 0 8) (S.1 0 9) (S.1 0 4) (S.1 0 15) (g 4 0) ∧ IvT (g 11) (S.1 4) ∧ IvM (g 13) (g 14) (g 15) (S.1 6) (S.1 7) (S.1 8) ∧ IvK (g 1 4) (g 12) (S.1 5) ∧ IvB g S.1 ∧ IvP g S.1 ∧ IvH g S.1 ∧ IvX TX g S.1
def Sim (TX : (Nat → Int32) → (Nat → Int32) → (Nat → Int32) → Int32 → Prop) (p : Option (Int32 × Sg)) (q : Option (Int32 × SM)) : Prop := ∃ (r : Int32) (g : Sg) (S : SM), p = some (r, g) ∧ q = some (r, S) ∧ Inv TX g S
theorem Sim.mk {TX : (Nat → Int32) → (Nat → Int32) → (Nat → Int32) → Int32 → Prop} {r : Int32} {g : Sg} {S : SM} (h : Inv TX g S) : Sim TX (some (r, g)) (some (r, S)) := ⟨r, g, S, rfl, rfl, h⟩
theorem IvH_c {g G s T : Sg} (h : IvH g s) (e30 : G 30 = g 30) (e31 : G 31 = g 31) (e33 : ∀ k, k < 4 → G (33 + k) = g (33 + k)) (t18 : T 18 = s 18) (t19 : T 19 = s 19) (t20 : T 20 = s 20) (t21 : T 21 = s 21) : IvH G T := fun k hk => by
  rw [e30, e31, e33 k hk, t18, t19, t20, t21]; exact h k hk
theorem z0_up (g : Sg) (i : Nat) (F : Nat → Int32) (h : 0 ≠ i) : up g i F 0 = g 0 := up_n _ _ h
theorem add_l {x c : Int32} {k z : Int} (hz : x.toInt = z) (hc : c.toInt = k) (h : -2147483648 ≤ z + k ∧ z + k ≤ 2147483647) : (x + c).toInt = z + k := by
  subst hz; subst hc; exact i_add h.1 h.2
theorem sub_l {x c : Int32} {k z : Int} (hz : x.toInt = z) (hc : c.toInt = k) (h : -2147483648 ≤ z - k ∧ z - k ≤ 2147483647) : (x - c).toInt = z - k := by
  subst hz; subst hc; exact i_sub h.1 h.2
theorem mul_l {x c : Int32} {k z : Int} (hc : c.toInt = k) (hz : x.toInt = z) (h : -2147483648 ≤ k * z ∧ k * z ≤ 2147483647) : (c * x).toInt = k * z := by
  subst hz; subst hc; exact i_mul h.1 h.2
