def c1 : Nat → Nat → Nat
  | 0, _ => 0
  | n + 1, x => (x % 4 - x % 4 / 2) + 4 * c1 n (x / 4)
def mk1 : Nat → Nat
  | 0 => 0
  | n + 1 => 1 + 4 * mk1 n
theorem bits_1 : ∀ (n x : Nat), x < 4 ^ n → x - ((x / 2) &&& mk1 n) = c1 n x := by
  intro n
  induction n with
  | zero => intro x h; have h : x < 1 := h; show x - _ = 0; omega
  | succ n ih =>
    intro x h
    have i1 := ih (x / 4) (by rw [Nat.pow_succ] at h; omega)
    have i2 : (x / 4 / 2) &&& mk1 n ≤ x / 4 / 2 := Nat.and_le_left
    show x - ((x / 2) &&& (1 + 4 * mk1 n)) = (x % 4 - x % 4 / 2) + 4 * c1 n (x / 4)
    rw [land_1, ← i1, show x / 2 / 4 = x / 4 / 2 by omega]
    omega
def c2 : Nat → Nat → Nat
  | 0, _ => 0
  | n + 1, y => (y % 4 + y / 4 % 4) + 16 * c2 n (y / 16)
def mk2 : Nat → Nat
  | 0 => 0
  | n + 1 => 3 + 16 * mk2 n
theorem bits_2 : ∀ (n y : Nat), (y &&& mk2 n) + ((y / 4) &&& mk2 n) = c2 n y := by
  intro n
  induction n with
  | zero => intro y; show (y &&& 0) + ((y / 4) &&& 0) = 0; rw [Nat.and_zero, Nat.and_zero]
  | succ n ih =>
    intro y
    have i1 := ih (y / 16)
    show (y &&& (3 + 16 * mk2 n)) + ((y / 4) &&& (3 + 16 * mk2 n)) = (y % 4 + y / 4 % 4) + 16 * c2 n (y / 16)
    rw [land_3, land_3, ← i1, show y / 4 / 16 = y / 16 / 4 by omega]
    omega
def c3 : Nat → Nat → Nat
  | 0, _ => 0
  | n + 1, v => v % 16 + 256 * c3 n (v / 256)
def mk3 : Nat → Nat
  | 0 => 0
  | n + 1 => 15 + 256 * mk3 n
theorem bits_3 : ∀ (n v : Nat), v &&& mk3 n = c3 n v := by
  intro n
  induction n with
  | zero => intro v; exact Nat.and_zero v
  | succ n ih =>
    intro v
    have i1 := ih (v / 256)
    show v &&& (15 + 256 * mk3 n) = v % 16 + 256 * c3 n (v / 256)
    rw [land_f, i1]
theorem mk1_16 : mk1 16 = 1431655765 := rfl
theorem mk2_8 : mk2 8 = 858993459 := rfl
theorem mk3_4 : mk3 4 = 252645135 := rfl
