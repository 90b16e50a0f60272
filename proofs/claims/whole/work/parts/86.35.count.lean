theorem nz {x : Int32} {n : Nat} (h : x.toBitVec.toNat = n) (hn : n < 2147483648) : x.toInt = n := by
  show x.toBitVec.toInt = n
  rw [BitVec.toInt_eq_toNat_cond, h, if_pos (by omega)]
theorem tn_v {x : Int32} {n : Nat} (h : x.toInt = n) : x.toBitVec.toNat = n := by
  rw [tn_n (by omega), h]; rfl
theorem nlt {x : Int32} {n : Nat} (h : x.toInt = n) : n < 2147483648 := by have := i_hi x; omega
theorem and_n {a b : Int32} {m n : Nat} (ha : a.toInt = m) (hb : b.toInt = n) : (a &&& b).toInt = ((m &&& n : Nat) : Int) := by
  refine nz ?_ (Nat.lt_of_le_of_lt Nat.and_le_left (nlt ha))
  rw [Int32.toBitVec_and, BitVec.toNat_and, tn_v ha, tn_v hb]
theorem ush_n {a k : Int32} {n : Nat} (m : Nat) (hk : (k.toUInt32 &&& Int32.toUInt32 31).toNat % 32 = m) (ha : a.toInt = n) : ((a.toUInt32 >>> (k.toUInt32 &&& Int32.toUInt32 31)).toInt32).toInt = ((n / 2 ^ m : Nat) : Int) := by
  refine nz ?_ (Nat.lt_of_le_of_lt (Nat.div_le_self _ _) (nlt ha))
  show (a.toUInt32 >>> (k.toUInt32 &&& Int32.toUInt32 31)).toNat = _
  rw [UInt32.toNat_shiftRight, hk, Nat.shiftRight_eq_div_pow]
  have : a.toUInt32.toNat = n := tn_v ha
  rw [this]
theorem c_bits {N : Nat} {s : Int32} {g : Sg} (h : 0 ≤ s.toInt ∧ s.toInt ≤ 1048575) : ∃ v, x_J6_bitCount_0f7a4 N s g = some (v, g) ∧ v.toInt = bN 20 s.toInt.toNat := by
  obtain ⟨x, hx⟩ : ∃ x : Nat, s.toInt = x := ⟨s.toInt.toNat, by omega⟩
  rw [hx]
  rw [show ((x : Int)).toNat = x from rfl]
  have hl : x < 1048576 := by omega
  unfold x_J6_bitCount_0f7a4
  simp only [lt]
  have b := bits_all hl rfl rfl rfl
  have a1 := and_n (ush_n (k := 1) 1 (by decide) hx) (show Int32.toInt 1431655765 = (1431655765 : Nat) by decide)
  have l1 : (x / 2 ^ 1) &&& 1431655765 ≤ x := Nat.le_trans Nat.and_le_left (Nat.div_le_self _ _)
  have ey : (s - (((s.toUInt32 >>> ((1 : Int32).toUInt32 &&& Int32.toUInt32 31)).toInt32) &&& 1431655765)).toInt = ((x - ((x / 2) &&& 1431655765) : Nat) : Int) := by
    rw [i_sub, hx, a1]
    · show (x : Int) - ((x / 2 ^ 1 &&& 1431655765 : Nat) : Int) = _
      rw [show x / 2 ^ 1 = x / 2 from rfl] at l1 ⊢
      omega
    · rw [hx, a1]; omega
    · rw [hx, a1]; omega
  generalize s - (((s.toUInt32 >>> ((1 : Int32).toUInt32 &&& Int32.toUInt32 31)).toInt32) &&& 1431655765) = Y at *
  generalize x - ((x / 2) &&& 1431655765) = y at *
  have a2 := and_n ey (show Int32.toInt 858993459 = (858993459 : Nat) by decide)
  have a3 := and_n (ush_n (k := 2) 2 (by decide) ey) (show Int32.toInt 858993459 = (858993459 : Nat) by decide)
  have ez : ((Y &&& 858993459) + (((Y.toUInt32 >>> ((2 : Int32).toUInt32 &&& Int32.toUInt32 31)).toInt32) &&& 858993459)).toInt = (((y &&& 858993459) + ((y / 4) &&& 858993459) : Nat) : Int) := by
    rw [show y / 2 ^ 2 = y / 4 from rfl] at a3
    have bz := b.2.1
    rw [i_add, a2, a3]
    · omega
    · rw [a2, a3]; omega
    · rw [a2, a3]; omega
  generalize (Y &&& 858993459) + (((Y.toUInt32 >>> ((2 : Int32).toUInt32 &&& Int32.toUInt32 31)).toInt32) &&& 858993459) = Z at *
  generalize (y &&& 858993459) + ((y / 4) &&& 858993459) = z at *
  have a4 := ush_n (k := 4) 4 (by decide) ez
  rw [show z / 2 ^ 4 = z / 16 from rfl] at a4
  have bz := b.2.1
  have es : (Z + ((Z.toUInt32 >>> ((4 : Int32).toUInt32 &&& Int32.toUInt32 31)).toInt32)).toInt = ((z + z / 16 : Nat) : Int) := by
    rw [i_add, ez, a4]
    · omega
    · rw [ez, a4]; omega
    · rw [ez, a4]; omega
  have ew := and_n es (show Int32.toInt 252645135 = (252645135 : Nat) by decide)
  generalize (Z + ((Z.toUInt32 >>> ((4 : Int32).toUInt32 &&& Int32.toUInt32 31)).toInt32)) &&& 252645135 = W at *
  generalize (z + z / 16) &&& 252645135 = w at *
  obtain ⟨b1, b2, b3, b4⟩ := b
  have a5 := ush_n (k := 8) 8 (by decide) ew
  rw [show w / 2 ^ 8 = w / 256 from rfl] at a5
  have ev : (W + ((W.toUInt32 >>> ((8 : Int32).toUInt32 &&& Int32.toUInt32 31)).toInt32)).toInt = ((w + w / 256 : Nat) : Int) := by
    rw [i_add, ew, a5]
    · omega
    · rw [ew, a5]; omega
    · rw [ew, a5]; omega
  generalize W + ((W.toUInt32 >>> ((8 : Int32).toUInt32 &&& Int32.toUInt32 31)).toInt32) = V at *
  have hv : w + w / 256 < 33554432 := by omega
  generalize w + w / 256 = v at *
  have a6 := ush_n (k := 16) 16 (by decide) ev
  rw [show v / 2 ^ 16 = v / 65536 from rfl] at a6
  have eu : (V + ((V.toUInt32 >>> ((16 : Int32).toUInt32 &&& Int32.toUInt32 31)).toInt32)).toInt = ((v + v / 65536 : Nat) : Int) := by
    rw [i_add, ev, a6]
    · omega
    · rw [ev, a6]; omega
    · rw [ev, a6]; omega
  refine ⟨_, rfl, ?_⟩
  rw [and_n eu (show Int32.toInt 63 = (63 : Nat) by decide), show (63 : Nat) = 2 ^ 6 - 1 from rfl, Nat.and_two_pow_sub_one_eq_mod]
  rw [show 2 ^ 6 = 64 from rfl, b4]
