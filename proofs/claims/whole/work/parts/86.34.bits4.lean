theorem bsA {d0 d1 d2 d3 d4 d5 d6 d7 d8 d9 : Nat} (h0 : d0 < 4) (h1 : d1 < 4) (h2 : d2 < 4) (h3 : d3 < 4) (h4 : d4 < 4) (h5 : d5 < 4) (h6 : d6 < 4) (h7 : d7 < 4) (h8 : d8 < 4) (h9 : d9 < 4) : c1 16 (d0 + 4 * (d1 + 4 * (d2 + 4 * (d3 + 4 * (d4 + 4 * (d5 + 4 * (d6 + 4 * (d7 + 4 * (d8 + 4 * (d9 + 4 * 0)))))))))) = (d0 - d0 / 2) + 4 * ((d1 - d1 / 2) + 4 * ((d2 - d2 / 2) + 4 * ((d3 - d3 / 2) + 4 * ((d4 - d4 / 2) + 4 * ((d5 - d5 / 2) + 4 * ((d6 - d6 / 2) + 4 * ((d7 - d7 / 2) + 4 * ((d8 - d8 / 2) + 4 * ((d9 - d9 / 2) + 4 * c1 6 0))))))))) := by
  rw [c1_st 15 _ h0, c1_st 14 _ h1, c1_st 13 _ h2, c1_st 12 _ h3, c1_st 11 _ h4, c1_st 10 _ h5, c1_st 9 _ h6, c1_st 8 _ h7, c1_st 7 _ h8, c1_st 6 _ h9]
theorem bsB {d0 d1 d2 d3 d4 d5 d6 d7 d8 d9 : Nat} (h0 : d0 < 4) (h1 : d1 < 4) (h2 : d2 < 4) (h3 : d3 < 4) (h4 : d4 < 4) (h5 : d5 < 4) (h6 : d6 < 4) (h7 : d7 < 4) (h8 : d8 < 4) (h9 : d9 < 4) : bN 20 (d0 + 4 * (d1 + 4 * (d2 + 4 * (d3 + 4 * (d4 + 4 * (d5 + 4 * (d6 + 4 * (d7 + 4 * (d8 + 4 * (d9 + 4 * 0)))))))))) = (d0 - d0 / 2) + ((d1 - d1 / 2) + ((d2 - d2 / 2) + ((d3 - d3 / 2) + ((d4 - d4 / 2) + ((d5 - d5 / 2) + ((d6 - d6 / 2) + ((d7 - d7 / 2) + ((d8 - d8 / 2) + ((d9 - d9 / 2) + 0))))))))) := by
  rw [bN_st 18 _ h0, bN_st 16 _ h1, bN_st 14 _ h2, bN_st 12 _ h3, bN_st 10 _ h4, bN_st 8 _ h5, bN_st 6 _ h6, bN_st 4 _ h7, bN_st 2 _ h8, bN_st 0 _ h9]
  rfl
theorem bsC {d0 d1 d2 d3 d4 d5 d6 d7 d8 d9 : Nat} (h0 : d0 < 4) (h1 : d1 < 4) (h2 : d2 < 4) (h3 : d3 < 4) (h4 : d4 < 4) (h5 : d5 < 4) (h6 : d6 < 4) (h7 : d7 < 4) (h8 : d8 < 4) (h9 : d9 < 4) : c2 8 (d0 + 4 * (d1 + 4 * (d2 + 4 * (d3 + 4 * (d4 + 4 * (d5 + 4 * (d6 + 4 * (d7 + 4 * (d8 + 4 * (d9 + 4 * 0)))))))))) = (d0 + d1) + 16 * ((d2 + d3) + 16 * ((d4 + d5) + 16 * ((d6 + d7) + 16 * ((d8 + d9) + 16 * c2 3 0)))) := by
  rw [c2_st 7 _ h0 h1, c2_st 6 _ h2 h3, c2_st 5 _ h4 h5, c2_st 4 _ h6 h7, c2_st 3 _ h8 h9]
theorem bsD {a0 a1 a2 a3 a4 : Nat} (h0 : a0 ≤ 4) (h1 : a1 ≤ 4) (h2 : a2 ≤ 4) (h3 : a3 ≤ 4) (h4 : a4 ≤ 4) {z : Nat} (hz : z = a0 + 16 * (a1 + 16 * (a2 + 16 * (a3 + 16 * (a4 + 16 * 0))))) : c3 4 (z + z / 16) = (a0 + a1) + 256 * ((a2 + a3) + 256 * (a4 + 256 * c3 1 0)) := by
  have z3 : z / 16 = a1 + 16 * (a2 + 16 * (a3 + 16 * (a4 + 16 * 0))) := by omega
  have z2 : z + z / 16 = (a0 + a1) + 16 * ((a1 + a2) + 16 * ((a2 + a3) + 16 * ((a3 + a4) + 16 * (a4 + 16 * (0 + 16 * 0))))) := by rw [z3, hz]; omega
  rw [z2, c3_st 3 _ (show a0 + a1 < 16 by omega) (show a1 + a2 < 16 by omega), c3_st 2 _ (show a2 + a3 < 16 by omega) (show a3 + a4 < 16 by omega), c3_st 1 _ (show a4 < 16 by omega) (show 0 < 16 by omega)]
theorem bsE {u0 u1 u2 w : Nat} (h0 : u0 ≤ 8) (h1 : u1 ≤ 8) (h2 : u2 ≤ 4) (hw : w = u0 + 256 * (u1 + 256 * (u2 + 256 * 0))) : w < 16777216 ∧ (w + w / 256 + (w + w / 256) / 65536) % 64 = u0 + u1 + u2 := by
  have e1 : w / 256 = u1 + 256 * u2 := by omega
  have e2 : w + w / 256 = (u0 + u1) + 256 * (u1 + u2) + 65536 * u2 := by rw [e1, hw]; omega
  have e3 : (w + w / 256) / 65536 = u2 := by rw [e2]; omega
  rw [e3, e2]
  omega
theorem bsF {d : Nat} (h : d < 4) : d - d / 2 ≤ 2 := by omega
theorem bsK {q r B : Nat} (h : q ≤ 2) (hr : r < B) : q + 4 * r < 4 * B := by omega
theorem bsH {q0 q1 q2 q3 q4 q5 q6 q7 q8 q9 y : Nat} (h0 : q0 ≤ 2) (h1 : q1 ≤ 2) (h2 : q2 ≤ 2) (h3 : q3 ≤ 2) (h4 : q4 ≤ 2) (h5 : q5 ≤ 2) (h6 : q6 ≤ 2) (h7 : q7 ≤ 2) (h8 : q8 ≤ 2) (h9 : q9 ≤ 2) (hy : y = q0 + 4 * (q1 + 4 * (q2 + 4 * (q3 + 4 * (q4 + 4 * (q5 + 4 * (q6 + 4 * (q7 + 4 * (q8 + 4 * (q9 + 4 * 0)))))))))) : y < 1048576 := by
  rw [hy]
  exact Nat.lt_of_lt_of_le (bsK h0 (bsK h1 (bsK h2 (bsK h3 (bsK h4 (bsK h5 (bsK h6 (bsK h7 (bsK h8 (bsK h9 (Nat.lt_succ_self 0))))))))))) (by decide)
theorem bsI {a0 a1 a2 a3 a4 z : Nat} (h0 : a0 ≤ 4) (h1 : a1 ≤ 4) (h2 : a2 ≤ 4) (h3 : a3 ≤ 4) (h4 : a4 ≤ 4) (hz : z = a0 + 16 * (a1 + 16 * (a2 + 16 * (a3 + 16 * (a4 + 16 * 0))))) : z < 1048576 := by omega
theorem bsJ (q0 q1 q2 q3 q4 q5 q6 q7 q8 q9 : Nat) : q0 + q1 + (q2 + q3) + (q4 + q5 + (q6 + q7)) + (q8 + q9) = q0 + (q1 + (q2 + (q3 + (q4 + (q5 + (q6 + (q7 + (q8 + (q9 + 0))))))))) := by omega
theorem bsG {q0 q1 q2 q3 q4 q5 q6 q7 q8 q9 : Nat} (h0 : q0 ≤ 2) (h1 : q1 ≤ 2) (h2 : q2 ≤ 2) (h3 : q3 ≤ 2) (h4 : q4 ≤ 2) (h5 : q5 ≤ 2) (h6 : q6 ≤ 2) (h7 : q7 ≤ 2) (h8 : q8 ≤ 2) (h9 : q9 ≤ 2) {y z w : Nat} (hy : y = q0 + 4 * (q1 + 4 * (q2 + 4 * (q3 + 4 * (q4 + 4 * (q5 + 4 * (q6 + 4 * (q7 + 4 * (q8 + 4 * (q9 + 4 * 0)))))))))) (hz : z = c2 8 y) (hw : w = c3 4 (z + z / 16)) : y < 1048576 ∧ z < 1048576 ∧ w < 16777216 ∧ (w + w / 256 + (w + w / 256) / 65536) % 64 = q0 + (q1 + (q2 + (q3 + (q4 + (q5 + (q6 + (q7 + (q8 + (q9 + 0))))))))) := by
  have l : ∀ q : Nat, q ≤ 2 → q < 4 := fun q h => by omega
  have e : ∀ p q : Nat, p ≤ 2 → q ≤ 2 → p + q ≤ 4 := fun p q h h' => by omega
  rw [hy, bsC (l _ h0) (l _ h1) (l _ h2) (l _ h3) (l _ h4) (l _ h5) (l _ h6) (l _ h7) (l _ h8) (l _ h9), show c2 3 0 = 0 from rfl] at hz
  have e0 := e _ _ h0 h1
  have e1 := e _ _ h2 h3
  have e2 := e _ _ h4 h5
  have e3 := e _ _ h6 h7
  have e4 := e _ _ h8 h9
  rw [bsD e0 e1 e2 e3 e4 hz, show c3 1 0 = 0 from rfl] at hw
  have f := bsE (u0 := q0 + q1 + (q2 + q3)) (u1 := q4 + q5 + (q6 + q7)) (u2 := q8 + q9) (Nat.add_le_add e0 e1) (Nat.add_le_add e2 e3) e4 hw
  exact ⟨bsH h0 h1 h2 h3 h4 h5 h6 h7 h8 h9 hy, bsI e0 e1 e2 e3 e4 hz, f.1, by rw [f.2, bsJ]⟩
theorem bits_all {x y z w : Nat} (hx : x < 1048576) (hy : y = x - ((x / 2) &&& 1431655765)) (hz : z = (y &&& 858993459) + ((y / 4) &&& 858993459)) (hw : w = (z + z / 16) &&& 252645135) : y < 1048576 ∧ z < 1048576 ∧ w < 16777216 ∧ (w + w / 256 + (w + w / 256) / 65536) % 64 = bN 20 x := by
  have hx0 : x < 4 ^ 10 := hx
  have hy : y = c1 16 x := by rw [hy, ← mk1_16]; exact bits_1 16 x (Nat.lt_of_lt_of_le hx0 (by decide))
  have hz : z = c2 8 y := by rw [hz, ← mk2_8]; exact bits_2 8 y
  have hw : w = c3 4 (z + z / 16) := by rw [hw, ← mk3_4]; exact bits_3 4 _
  obtain ⟨d0, x1, h0, hx1, e0⟩ := digits 9 hx0
  obtain ⟨d1, x2, h1, hx2, e1⟩ := digits 8 hx1
  obtain ⟨d2, x3, h2, hx3, e2⟩ := digits 7 hx2
  obtain ⟨d3, x4, h3, hx4, e3⟩ := digits 6 hx3
  obtain ⟨d4, x5, h4, hx5, e4⟩ := digits 5 hx4
  obtain ⟨d5, x6, h5, hx6, e5⟩ := digits 4 hx5
  obtain ⟨d6, x7, h6, hx7, e6⟩ := digits 3 hx6
  obtain ⟨d7, x8, h7, hx8, e7⟩ := digits 2 hx7
  obtain ⟨d8, x9, h8, hx9, e8⟩ := digits 1 hx8
  obtain ⟨d9, x10, h9, hx10, e9⟩ := digits 0 hx9
  have e10 : x10 = 0 := Nat.lt_one_iff.mp hx10
  have ex : x = d0 + 4 * (d1 + 4 * (d2 + 4 * (d3 + 4 * (d4 + 4 * (d5 + 4 * (d6 + 4 * (d7 + 4 * (d8 + 4 * (d9 + 4 * 0))))))))) := by rw [e0, e1, e2, e3, e4, e5, e6, e7, e8, e9, e10]
  rw [ex, bsA h0 h1 h2 h3 h4 h5 h6 h7 h8 h9, show c1 6 0 = 0 from rfl] at hy
  rw [ex, bsB h0 h1 h2 h3 h4 h5 h6 h7 h8 h9]
  exact bsG (bsF h0) (bsF h1) (bsF h2) (bsF h3) (bsF h4) (bsF h5) (bsF h6) (bsF h7) (bsF h8) (bsF h9) hy hz hw
