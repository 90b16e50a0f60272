def bN : Nat → Nat → Nat
  | 0, _ => 0
  | n + 1, x => x % 2 + bN n (x / 2)
theorem c1_st {d : Nat} (n r : Nat) (h : d < 4) : c1 (n + 1) (d + 4 * r) = (d - d / 2) + 4 * c1 n r := by
  show ((d + 4 * r) % 4 - (d + 4 * r) % 4 / 2) + 4 * c1 n ((d + 4 * r) / 4) = _
  rw [show (d + 4 * r) % 4 = d by omega, show (d + 4 * r) / 4 = r by omega]
theorem bN_st {d : Nat} (n r : Nat) (h : d < 4) : bN (n + 2) (d + 4 * r) = (d - d / 2) + bN n r := by
  show (d + 4 * r) % 2 + ((d + 4 * r) / 2 % 2 + bN n ((d + 4 * r) / 2 / 2)) = _
  rw [show (d + 4 * r) / 2 / 2 = r by omega]
  omega
theorem c2_st {p q : Nat} (n r : Nat) (h : p < 4) (h' : q < 4) : c2 (n + 1) (p + 4 * (q + 4 * r)) = (p + q) + 16 * c2 n r := by
  show ((p + 4 * (q + 4 * r)) % 4 + (p + 4 * (q + 4 * r)) / 4 % 4) + 16 * c2 n ((p + 4 * (q + 4 * r)) / 16) = _
  rw [show (p + 4 * (q + 4 * r)) % 4 = p by omega, show (p + 4 * (q + 4 * r)) / 4 % 4 = q by omega, show (p + 4 * (q + 4 * r)) / 16 = r by omega]
theorem c3_st {a b : Nat} (n r : Nat) (h : a < 16) (h' : b < 16) : c3 (n + 1) (a + 16 * (b + 16 * r)) = a + 256 * c3 n r := by
  show (a + 16 * (b + 16 * r)) % 16 + 256 * c3 n ((a + 16 * (b + 16 * r)) / 256) = _
  rw [show (a + 16 * (b + 16 * r)) % 16 = a by omega, show (a + 16 * (b + 16 * r)) / 256 = r by omega]
theorem digits {x : Nat} (n : Nat) (h : x < 4 ^ (n + 1)) : ∃ d r, d < 4 ∧ r < 4 ^ n ∧ x = d + 4 * r := ⟨x % 4, x / 4, by omega, by rw [Nat.pow_succ] at h; omega, by omega⟩
