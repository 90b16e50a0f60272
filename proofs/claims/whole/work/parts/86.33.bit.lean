/-! a bit of a number -/
theorem and1 (x : BitVec 32) : x &&& 1#32 = 1#32 ↔ x.getLsbD 0 = true := by
  rw [BitVec.and_one_eq_setWidth_ofBool_getLsbD]
  cases x.getLsbD 0 <;> decide
theorem twenty {z : Int32} (hz : 0 ≤ z.toInt ∧ z.toInt < 20) : z = 0 ∨ z = 1 ∨ z = 2 ∨ z = 3 ∨ z = 4 ∨ z = 5 ∨ z = 6 ∨ z = 7 ∨ z = 8 ∨ z = 9 ∨ z = 10 ∨ z = 11 ∨ z = 12 ∨ z = 13 ∨ z = 14 ∨ z = 15 ∨ z = 16 ∨ z = 17 ∨ z = 18 ∨ z = 19 := by
  simp only [i_eq (x := z), Int32.reduceToInt]
  omega
theorem sh_n {z : Int32} (hz : 0 ≤ z.toInt ∧ z.toInt < 20) : ((z &&& 31).toBitVec.smod 32).toNat = z.toInt.toNat := by
  rcases twenty hz with rfl | rfl | rfl | rfl | rfl | rfl | rfl | rfl | rfl | rfl | rfl | rfl | rfl | rfl | rfl | rfl | rfl | rfl | rfl | rfl <;> decide
theorem tn_n {s : Int32} (hs : 0 ≤ s.toInt) : s.toBitVec.toNat = s.toInt.toNat := by
  have h1 : s.toBitVec.toInt = s.toInt := rfl
  rw [← h1] at hs ⊢
  have := BitVec.toInt_eq_toNat_bmod s.toBitVec
  have hl := s.toBitVec.isLt
  rw [BitVec.toInt_eq_toNat_cond] at hs ⊢
  split at hs <;> rename_i h
  · rw [if_pos h]; omega
  · omega
theorem bit_i {s z : Int32} (hs : 0 ≤ s.toInt) (hz : 0 ≤ z.toInt ∧ z.toInt < 20) : ((s >>> (z &&& 31)) &&& 1) = 1 ↔ s.toInt.toNat.testBit z.toInt.toNat = true := by
  rw [← Int32.toBitVec_inj, Int32.toBitVec_and]
  show (s >>> (z &&& 31)).toBitVec &&& 1#32 = 1#32 ↔ _
  rw [and1]
  show (s.toBitVec.sshiftRight ((z &&& 31).toBitVec.smod 32).toNat).getLsbD 0 = true ↔ _
  rw [sh_n hz, BitVec.getLsbD_sshiftRight, ← tn_n hs]
  simp only [Nat.add_zero]
  rw [if_pos (show z.toInt.toNat < 32 by omega)]
  show (true && s.toBitVec.getLsbD z.toInt.toNat) = true ↔ _
  rw [Bool.true_and]
  rfl
