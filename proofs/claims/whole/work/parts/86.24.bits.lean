/-! the count of bits -/
theorem land_cut (k z M : Nat) : z &&& (2 ^ k - 1 + 2 ^ (2 * k) * M) = z % 2 ^ k + 2 ^ (2 * k) * ((z / 2 ^ (2 * k)) &&& M) := by
  have hk : 2 ^ k ≤ 2 ^ (2 * k) := Nat.pow_le_pow_right (by decide) (by omega)
  have hp : 0 < 2 ^ k := Nat.two_pow_pos k
  have h1 : 2 ^ k - 1 < 2 ^ (2 * k) := by omega
  have h2 : z % 2 ^ k < 2 ^ (2 * k) := Nat.lt_of_lt_of_le (Nat.mod_lt _ hp) hk
  refine Nat.eq_of_testBit_eq (fun i => ?_)
  rw [Nat.testBit_and, Nat.add_comm (2 ^ k - 1), Nat.add_comm (z % 2 ^ k), Nat.testBit_two_pow_mul_add _ h1, Nat.testBit_two_pow_mul_add _ h2, Nat.testBit_two_pow_sub_one, Nat.testBit_mod_two_pow]
  by_cases h : i < 2 * k
  · rw [if_pos h, if_pos h, Bool.and_comm]
  · rw [if_neg h, if_neg h, Nat.testBit_and, Nat.testBit_div_two_pow]
    rw [Nat.sub_add_cancel (by omega)]
theorem land_1 (z M : Nat) : z &&& (1 + 4 * M) = z % 2 + 4 * ((z / 4) &&& M) := land_cut 1 z M
theorem land_3 (z M : Nat) : z &&& (3 + 16 * M) = z % 4 + 16 * ((z / 16) &&& M) := land_cut 2 z M
theorem land_f (z M : Nat) : z &&& (15 + 256 * M) = z % 16 + 256 * ((z / 256) &&& M) := land_cut 4 z M
