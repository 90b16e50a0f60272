/-! for every script -/
theorem pure_main (L : Nat) (xs : Nat → Int32) (hL : L ≤ 3072) : ∃ (gX : Sg) (S : SM), x_X7_init 1200 gz = some gX ∧ x_X8_init 1200 (gm0, 0) = some S ∧ x_L_law 1200 L xs 0 (gX, S) = some () := pure_all L xs hL
