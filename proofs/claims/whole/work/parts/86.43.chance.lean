/-! chance -/
def SimL (TX : TXt) (p : Option (Int64 × Sg)) (q : Option (Int64 × SM)) : Prop := ∃ (r : Int64) (g : Sg) (S : SM), p = some (r, g) ∧ q = some (r, S) ∧ Inv TX g S
theorem SimL.mk {TX : TXt} {r : Int64} {g : Sg} {S : SM} (h : Inv TX g S) : SimL TX (some (r, g)) (some (r, S)) := ⟨r, g, S, rfl, rfl, h⟩
theorem cmp_0 {x y : Int64} : lg_cmp x y = 0 ↔ x.toInt = y.toInt := by
  constructor
  · intro h
    have h1 : ¬ x.toInt < y.toInt := fun z => by have := cmp_neg.mpr z; rw [h] at this; exact absurd this (by decide)
    have h2 : ¬ y.toInt < x.toInt := fun z => by have := cmp_pos.mpr z; rw [h] at this; exact absurd this (by decide)
    omega
  · intro h
    rw [l_eq.mpr h]
    unfold lg_cmp
    rw [if_neg (fun z => by have := l_lt.mp z; omega), if_pos rfl]
theorem l_bm {z : Int} (h1 : -9223372036854775808 ≤ z) (h2 : z ≤ 9223372036854775807) : z.bmod (2 ^ 64) = z := by
  rw [Int.bmod_eq_of_le] <;> omega
theorem l_div {x y : Int64} (hx : 0 ≤ x.toInt) (hy : 0 < y.toInt) : (x / y).toInt = x.toInt / y.toInt := by
  have h2 : x.toInt < 9223372036854775808 := Int64.toInt_lt x
  have h3 : x.toInt / y.toInt ≤ x.toInt := Int.ediv_le_self _ hx
  have h4 : 0 ≤ x.toInt / y.toInt := Int.ediv_nonneg hx (by omega)
  rw [Int64.toInt_div, Int.tdiv_eq_ediv_of_nonneg hx]
  exact l_bm (by omega) (by omega)
theorem l_rm {x y : Int64} (hx : 0 ≤ x.toInt) (hy : 0 < y.toInt) : (rmL x y).toInt = x.toInt % y.toInt := by
  have h2 : x.toInt < 9223372036854775808 := Int64.toInt_lt x
  have h5 := Int.emod_nonneg x.toInt (show y.toInt ≠ 0 by omega)
  have h6 : x.toInt / y.toInt * y.toInt = x.toInt - x.toInt % y.toInt := by have := Int.mul_ediv_add_emod x.toInt y.toInt; rw [Int.mul_comm] at this; omega
  have h7 : x.toInt % y.toInt ≤ x.toInt := by
    have h4 : 0 ≤ x.toInt / y.toInt * y.toInt := Int.mul_nonneg (Int.ediv_nonneg hx (by omega)) (by omega)
    omega
  unfold rmL
  rw [Int64.toInt_sub, Int64.toInt_mul, l_div hx hy, h6, l_bm (z := x.toInt - x.toInt % y.toInt) (by omega) (by omega), l_bm (by omega) (by omega)]
  omega
theorem l_add {x y : Int64} (h1 : -9223372036854775808 ≤ x.toInt + y.toInt) (h2 : x.toInt + y.toInt ≤ 9223372036854775807) : (x + y).toInt = x.toInt + y.toInt := by
  rw [Int64.toInt_add]; exact l_bm h1 h2
