theorem o_u1 {c : ByteArray} {pc : Nat} {b : UInt8} (h : c[pc]? = some b) : (Reader.u1 : Decoder Nat) c pc = .ok (b.toNat, pc + 1) := by
  obtain ⟨h1, h2⟩ := getElem?_eq_some_iff.mp h
  have : (Reader.u1 : Decoder Nat) c pc = (if h : pc < c.size then (do set (pc + 1); pure c[pc].toNat : Decoder Nat) else throw (HasTruncated.truncated pc)) c pc := rfl
  rw [this, dif_pos h1, h2]
  rfl
theorem o_get {c : ByteArray} {l : List UInt8} (hc : c = ⟨⟨l⟩⟩) (pc : Nat) : c[pc]? = l[pc]? := by
  subst hc
  by_cases h : pc < l.length
  · rw [List.getElem?_eq_getElem h]
    exact getElem?_pos (⟨⟨l⟩⟩ : ByteArray) pc h
  · rw [List.getElem?_eq_none (Nat.le_of_not_lt h)]
    exact getElem?_neg (⟨⟨l⟩⟩ : ByteArray) pc h
def bk (c : List UInt8) : Nat → List UInt8 → Bool
  | _, [] => true
  | pc, b :: l => (match c[pc]? with | some x => x == b | none => false) && bk c (pc + 1) l
theorem bk_e {c : List UInt8} {pc : Nat} {b : UInt8} {l : List UInt8} (h : bk c pc (b :: l) = true) : c[pc]? = some b ∧ bk c (pc + 1) l = true := by
  unfold bk at h
  rw [Bool.and_eq_true] at h
  refine ⟨?_, h.2⟩
  have h1 := h.1
  cases hc : c[pc]? with
  | none => rw [hc] at h1; cases h1
  | some x => rw [hc] at h1; exact congrArg some (eq_of_beq h1)
theorem o_2 {c : ByteArray} {l : List UInt8} {pc : Nat} (hc : c = ⟨⟨l⟩⟩) (h : bk l pc [2] = true) : decode c pc = .ok (.iconst (-1), 1) := by
  have h1 : (Decoder.instr pc) c pc = .ok (.iconst (-1), pc + 1) := by
    show Except.bind ((Reader.u1 : Decoder Nat) c pc) _ = _
    rw [o_u1 ((o_get hc _).trans (bk_e h).1)]
    rfl
  show Except.bind ((Decoder.instr pc) c pc) _ = _
  rw [h1]
  show Except.ok (_, pc + 1 - pc) = _
  rw [Nat.add_sub_cancel_left]
theorem o_3 {c : ByteArray} {l : List UInt8} {pc : Nat} (hc : c = ⟨⟨l⟩⟩) (h : bk l pc [3] = true) : decode c pc = .ok (.iconst 0, 1) := by
  have h1 : (Decoder.instr pc) c pc = .ok (.iconst 0, pc + 1) := by
    show Except.bind ((Reader.u1 : Decoder Nat) c pc) _ = _
    rw [o_u1 ((o_get hc _).trans (bk_e h).1)]
    rfl
  show Except.bind ((Decoder.instr pc) c pc) _ = _
  rw [h1]
  show Except.ok (_, pc + 1 - pc) = _
  rw [Nat.add_sub_cancel_left]
theorem o_4 {c : ByteArray} {l : List UInt8} {pc : Nat} (hc : c = ⟨⟨l⟩⟩) (h : bk l pc [4] = true) : decode c pc = .ok (.iconst 1, 1) := by
  have h1 : (Decoder.instr pc) c pc = .ok (.iconst 1, pc + 1) := by
    show Except.bind ((Reader.u1 : Decoder Nat) c pc) _ = _
    rw [o_u1 ((o_get hc _).trans (bk_e h).1)]
    rfl
  show Except.bind ((Decoder.instr pc) c pc) _ = _
  rw [h1]
  show Except.ok (_, pc + 1 - pc) = _
  rw [Nat.add_sub_cancel_left]
theorem o_5 {c : ByteArray} {l : List UInt8} {pc : Nat} (hc : c = ⟨⟨l⟩⟩) (h : bk l pc [5] = true) : decode c pc = .ok (.iconst 2, 1) := by
  have h1 : (Decoder.instr pc) c pc = .ok (.iconst 2, pc + 1) := by
    show Except.bind ((Reader.u1 : Decoder Nat) c pc) _ = _
    rw [o_u1 ((o_get hc _).trans (bk_e h).1)]
    rfl
  show Except.bind ((Decoder.instr pc) c pc) _ = _
  rw [h1]
  show Except.ok (_, pc + 1 - pc) = _
  rw [Nat.add_sub_cancel_left]
theorem o_6 {c : ByteArray} {l : List UInt8} {pc : Nat} (hc : c = ⟨⟨l⟩⟩) (h : bk l pc [6] = true) : decode c pc = .ok (.iconst 3, 1) := by
  have h1 : (Decoder.instr pc) c pc = .ok (.iconst 3, pc + 1) := by
    show Except.bind ((Reader.u1 : Decoder Nat) c pc) _ = _
    rw [o_u1 ((o_get hc _).trans (bk_e h).1)]
    rfl
  show Except.bind ((Decoder.instr pc) c pc) _ = _
  rw [h1]
  show Except.ok (_, pc + 1 - pc) = _
  rw [Nat.add_sub_cancel_left]
theorem o_7 {c : ByteArray} {l : List UInt8} {pc : Nat} (hc : c = ⟨⟨l⟩⟩) (h : bk l pc [7] = true) : decode c pc = .ok (.iconst 4, 1) := by
  have h1 : (Decoder.instr pc) c pc = .ok (.iconst 4, pc + 1) := by
    show Except.bind ((Reader.u1 : Decoder Nat) c pc) _ = _
    rw [o_u1 ((o_get hc _).trans (bk_e h).1)]
    rfl
  show Except.bind ((Decoder.instr pc) c pc) _ = _
  rw [h1]
  show Except.ok (_, pc + 1 - pc) = _
  rw [Nat.add_sub_cancel_left]
theorem o_8 {c : ByteArray} {l : List UInt8} {pc : Nat} (hc : c = ⟨⟨l⟩⟩) (h : bk l pc [8] = true) : decode c pc = .ok (.iconst 5, 1) := by
  have h1 : (Decoder.instr pc) c pc = .ok (.iconst 5, pc + 1) := by
    show Except.bind ((Reader.u1 : Decoder Nat) c pc) _ = _
    rw [o_u1 ((o_get hc _).trans (bk_e h).1)]
    rfl
  show Except.bind ((Decoder.instr pc) c pc) _ = _
  rw [h1]
  show Except.ok (_, pc + 1 - pc) = _
  rw [Nat.add_sub_cancel_left]
theorem o_9 {c : ByteArray} {l : List UInt8} {pc : Nat} (hc : c = ⟨⟨l⟩⟩) (h : bk l pc [9] = true) : decode c pc = .ok (.lconst 0, 1) := by
  have h1 : (Decoder.instr pc) c pc = .ok (.lconst 0, pc + 1) := by
    show Except.bind ((Reader.u1 : Decoder Nat) c pc) _ = _
    rw [o_u1 ((o_get hc _).trans (bk_e h).1)]
    rfl
  show Except.bind ((Decoder.instr pc) c pc) _ = _
  rw [h1]
  show Except.ok (_, pc + 1 - pc) = _
  rw [Nat.add_sub_cancel_left]
theorem o_10 {c : ByteArray} {l : List UInt8} {pc : Nat} (hc : c = ⟨⟨l⟩⟩) (h : bk l pc [10] = true) : decode c pc = .ok (.lconst 1, 1) := by
  have h1 : (Decoder.instr pc) c pc = .ok (.lconst 1, pc + 1) := by
    show Except.bind ((Reader.u1 : Decoder Nat) c pc) _ = _
    rw [o_u1 ((o_get hc _).trans (bk_e h).1)]
    rfl
  show Except.bind ((Decoder.instr pc) c pc) _ = _
  rw [h1]
  show Except.ok (_, pc + 1 - pc) = _
  rw [Nat.add_sub_cancel_left]
theorem o_16 {c : ByteArray} {l : List UInt8} {pc : Nat} (x : UInt8) {v : Int} (hv : Reader.signed 8 x.toNat = v) (hc : c = ⟨⟨l⟩⟩) (h : bk l pc [16, x] = true) : decode c pc = .ok (.bipush v, 2) := by
  have f1 := bk_e h
  have f2 := bk_e f1.2
  have g1 := (o_get hc pc).trans f1.1
  have g2 := (o_get hc (pc + 1)).trans f2.1
  subst hv
  have h1 : (Decoder.instr pc) c pc = .ok (.bipush (Reader.signed 8 x.toNat), pc + 2) := by
    show Except.bind ((Reader.u1 : Decoder Nat) c pc) _ = _
    rw [o_u1 g1]
    have e : (Reader.s1 : Decoder Int) c (pc + 1) = .ok (Reader.signed 8 x.toNat, pc + 2) := by
      show Except.map _ ((Reader.u1 : Decoder Nat) c (pc + 1)) = _
      rw [o_u1 g2]
      rfl
    show Except.bind ((Reader.s1 : Decoder Int) c (pc + 1)) _ = _
    rw [e]
    rfl
  show Except.bind ((Decoder.instr pc) c pc) _ = _
  rw [h1]
  show Except.ok (_, pc + 2 - pc) = _
  rw [Nat.add_sub_cancel_left]
theorem o_17 {c : ByteArray} {l : List UInt8} {pc : Nat} (x y : UInt8) {v : Int} (hv : Reader.signed 16 (x.toNat * 256 + y.toNat) = v) (hc : c = ⟨⟨l⟩⟩) (h : bk l pc [17, x, y] = true) : decode c pc = .ok (.sipush v, 3) := by
  have f1 := bk_e h
  have f2 := bk_e f1.2
  have g1 := (o_get hc pc).trans f1.1
  have g2 := (o_get hc (pc + 1)).trans f2.1
  have f3 := bk_e f2.2
  have g3 := (o_get hc (pc + 2)).trans f3.1
  subst hv
  have h1 : (Decoder.instr pc) c pc = .ok (.sipush (Reader.signed 16 (x.toNat * 256 + y.toNat)), pc + 3) := by
    show Except.bind ((Reader.u1 : Decoder Nat) c pc) _ = _
    rw [o_u1 g1]
    have e0 : (Reader.u2 : Decoder Nat) c (pc + 1) = .ok (x.toNat * 256 + y.toNat, pc + 3) := by
      show Except.bind ((Reader.u1 : Decoder Nat) c (pc + 1)) _ = _
      rw [o_u1 g2]
      show Except.bind ((Reader.u1 : Decoder Nat) c (pc + 2)) _ = _
      rw [o_u1 g3]
      rfl
    have e : (Reader.s2 : Decoder Int) c (pc + 1) = .ok (Reader.signed 16 (x.toNat * 256 + y.toNat), pc + 3) := by
      show Except.map _ ((Reader.u2 : Decoder Nat) c (pc + 1)) = _
      rw [e0]
      rfl
    show Except.bind ((Reader.s2 : Decoder Int) c (pc + 1)) _ = _
    rw [e]
    rfl
  show Except.bind ((Decoder.instr pc) c pc) _ = _
  rw [h1]
  show Except.ok (_, pc + 3 - pc) = _
  rw [Nat.add_sub_cancel_left]
theorem o_18 {c : ByteArray} {l : List UInt8} {pc : Nat} (x : UInt8) (hc : c = ⟨⟨l⟩⟩) (h : bk l pc [18, x] = true) : decode c pc = .ok (.ldc x.toNat, 2) := by
  have f1 := bk_e h
  have f2 := bk_e f1.2
  have g1 := (o_get hc pc).trans f1.1
  have g2 := (o_get hc (pc + 1)).trans f2.1
  have h1 : (Decoder.instr pc) c pc = .ok (.ldc x.toNat, pc + 2) := by
    show Except.bind ((Reader.u1 : Decoder Nat) c pc) _ = _
    rw [o_u1 g1]
    show Except.bind ((Reader.u1 : Decoder Nat) c (pc + 1)) _ = _
    rw [o_u1 g2]
    rfl
  show Except.bind ((Decoder.instr pc) c pc) _ = _
  rw [h1]
  show Except.ok (_, pc + 2 - pc) = _
  rw [Nat.add_sub_cancel_left]
theorem o_19 {c : ByteArray} {l : List UInt8} {pc : Nat} (x y : UInt8) (hc : c = ⟨⟨l⟩⟩) (h : bk l pc [19, x, y] = true) : decode c pc = .ok (.ldc_w (x.toNat * 256 + y.toNat), 3) := by
  have f1 := bk_e h
  have f2 := bk_e f1.2
  have g1 := (o_get hc pc).trans f1.1
  have g2 := (o_get hc (pc + 1)).trans f2.1
  have f3 := bk_e f2.2
  have g3 := (o_get hc (pc + 2)).trans f3.1
  have h1 : (Decoder.instr pc) c pc = .ok (.ldc_w (x.toNat * 256 + y.toNat), pc + 3) := by
    show Except.bind ((Reader.u1 : Decoder Nat) c pc) _ = _
    rw [o_u1 g1]
    show Except.bind (Except.bind ((Reader.u1 : Decoder Nat) c (pc + 1)) _) _ = _
    rw [o_u1 g2]
    show Except.bind (Except.bind ((Reader.u1 : Decoder Nat) c (pc + 2)) _) _ = _
    rw [o_u1 g3]
    rfl
  show Except.bind ((Decoder.instr pc) c pc) _ = _
  rw [h1]
  show Except.ok (_, pc + 3 - pc) = _
  rw [Nat.add_sub_cancel_left]
theorem o_20 {c : ByteArray} {l : List UInt8} {pc : Nat} (x y : UInt8) (hc : c = ⟨⟨l⟩⟩) (h : bk l pc [20, x, y] = true) : decode c pc = .ok (.ldc2_w (x.toNat * 256 + y.toNat), 3) := by
  have f1 := bk_e h
  have f2 := bk_e f1.2
  have g1 := (o_get hc pc).trans f1.1
  have g2 := (o_get hc (pc + 1)).trans f2.1
  have f3 := bk_e f2.2
  have g3 := (o_get hc (pc + 2)).trans f3.1
  have h1 : (Decoder.instr pc) c pc = .ok (.ldc2_w (x.toNat * 256 + y.toNat), pc + 3) := by
    show Except.bind ((Reader.u1 : Decoder Nat) c pc) _ = _
    rw [o_u1 g1]
    show Except.bind (Except.bind ((Reader.u1 : Decoder Nat) c (pc + 1)) _) _ = _
    rw [o_u1 g2]
    show Except.bind (Except.bind ((Reader.u1 : Decoder Nat) c (pc + 2)) _) _ = _
    rw [o_u1 g3]
    rfl
  show Except.bind ((Decoder.instr pc) c pc) _ = _
  rw [h1]
  show Except.ok (_, pc + 3 - pc) = _
  rw [Nat.add_sub_cancel_left]
theorem o_21 {c : ByteArray} {l : List UInt8} {pc : Nat} (x : UInt8) (hc : c = ⟨⟨l⟩⟩) (h : bk l pc [21, x] = true) : decode c pc = .ok (.iload x.toNat, 2) := by
  have f1 := bk_e h
  have f2 := bk_e f1.2
  have g1 := (o_get hc pc).trans f1.1
  have g2 := (o_get hc (pc + 1)).trans f2.1
  have h1 : (Decoder.instr pc) c pc = .ok (.iload x.toNat, pc + 2) := by
    show Except.bind ((Reader.u1 : Decoder Nat) c pc) _ = _
    rw [o_u1 g1]
    show Except.bind ((Reader.u1 : Decoder Nat) c (pc + 1)) _ = _
    rw [o_u1 g2]
    rfl
  show Except.bind ((Decoder.instr pc) c pc) _ = _
  rw [h1]
  show Except.ok (_, pc + 2 - pc) = _
  rw [Nat.add_sub_cancel_left]
theorem o_22 {c : ByteArray} {l : List UInt8} {pc : Nat} (x : UInt8) (hc : c = ⟨⟨l⟩⟩) (h : bk l pc [22, x] = true) : decode c pc = .ok (.lload x.toNat, 2) := by
  have f1 := bk_e h
  have f2 := bk_e f1.2
  have g1 := (o_get hc pc).trans f1.1
  have g2 := (o_get hc (pc + 1)).trans f2.1
  have h1 : (Decoder.instr pc) c pc = .ok (.lload x.toNat, pc + 2) := by
    show Except.bind ((Reader.u1 : Decoder Nat) c pc) _ = _
    rw [o_u1 g1]
    show Except.bind ((Reader.u1 : Decoder Nat) c (pc + 1)) _ = _
    rw [o_u1 g2]
    rfl
  show Except.bind ((Decoder.instr pc) c pc) _ = _
  rw [h1]
  show Except.ok (_, pc + 2 - pc) = _
  rw [Nat.add_sub_cancel_left]
theorem o_26 {c : ByteArray} {l : List UInt8} {pc : Nat} (hc : c = ⟨⟨l⟩⟩) (h : bk l pc [26] = true) : decode c pc = .ok (.iload_n 0, 1) := by
  have h1 : (Decoder.instr pc) c pc = .ok (.iload_n 0, pc + 1) := by
    show Except.bind ((Reader.u1 : Decoder Nat) c pc) _ = _
    rw [o_u1 ((o_get hc _).trans (bk_e h).1)]
    rfl
  show Except.bind ((Decoder.instr pc) c pc) _ = _
  rw [h1]
  show Except.ok (_, pc + 1 - pc) = _
  rw [Nat.add_sub_cancel_left]
theorem o_27 {c : ByteArray} {l : List UInt8} {pc : Nat} (hc : c = ⟨⟨l⟩⟩) (h : bk l pc [27] = true) : decode c pc = .ok (.iload_n 1, 1) := by
  have h1 : (Decoder.instr pc) c pc = .ok (.iload_n 1, pc + 1) := by
    show Except.bind ((Reader.u1 : Decoder Nat) c pc) _ = _
    rw [o_u1 ((o_get hc _).trans (bk_e h).1)]
    rfl
  show Except.bind ((Decoder.instr pc) c pc) _ = _
  rw [h1]
  show Except.ok (_, pc + 1 - pc) = _
  rw [Nat.add_sub_cancel_left]
theorem o_28 {c : ByteArray} {l : List UInt8} {pc : Nat} (hc : c = ⟨⟨l⟩⟩) (h : bk l pc [28] = true) : decode c pc = .ok (.iload_n 2, 1) := by
  have h1 : (Decoder.instr pc) c pc = .ok (.iload_n 2, pc + 1) := by
    show Except.bind ((Reader.u1 : Decoder Nat) c pc) _ = _
    rw [o_u1 ((o_get hc _).trans (bk_e h).1)]
    rfl
  show Except.bind ((Decoder.instr pc) c pc) _ = _
  rw [h1]
  show Except.ok (_, pc + 1 - pc) = _
  rw [Nat.add_sub_cancel_left]
theorem o_29 {c : ByteArray} {l : List UInt8} {pc : Nat} (hc : c = ⟨⟨l⟩⟩) (h : bk l pc [29] = true) : decode c pc = .ok (.iload_n 3, 1) := by
  have h1 : (Decoder.instr pc) c pc = .ok (.iload_n 3, pc + 1) := by
    show Except.bind ((Reader.u1 : Decoder Nat) c pc) _ = _
    rw [o_u1 ((o_get hc _).trans (bk_e h).1)]
    rfl
  show Except.bind ((Decoder.instr pc) c pc) _ = _
  rw [h1]
  show Except.ok (_, pc + 1 - pc) = _
  rw [Nat.add_sub_cancel_left]
theorem o_30 {c : ByteArray} {l : List UInt8} {pc : Nat} (hc : c = ⟨⟨l⟩⟩) (h : bk l pc [30] = true) : decode c pc = .ok (.lload_n 0, 1) := by
  have h1 : (Decoder.instr pc) c pc = .ok (.lload_n 0, pc + 1) := by
    show Except.bind ((Reader.u1 : Decoder Nat) c pc) _ = _
    rw [o_u1 ((o_get hc _).trans (bk_e h).1)]
    rfl
  show Except.bind ((Decoder.instr pc) c pc) _ = _
  rw [h1]
  show Except.ok (_, pc + 1 - pc) = _
  rw [Nat.add_sub_cancel_left]
theorem o_32 {c : ByteArray} {l : List UInt8} {pc : Nat} (hc : c = ⟨⟨l⟩⟩) (h : bk l pc [32] = true) : decode c pc = .ok (.lload_n 2, 1) := by
  have h1 : (Decoder.instr pc) c pc = .ok (.lload_n 2, pc + 1) := by
    show Except.bind ((Reader.u1 : Decoder Nat) c pc) _ = _
    rw [o_u1 ((o_get hc _).trans (bk_e h).1)]
    rfl
  show Except.bind ((Decoder.instr pc) c pc) _ = _
  rw [h1]
  show Except.ok (_, pc + 1 - pc) = _
  rw [Nat.add_sub_cancel_left]
theorem o_42 {c : ByteArray} {l : List UInt8} {pc : Nat} (hc : c = ⟨⟨l⟩⟩) (h : bk l pc [42] = true) : decode c pc = .ok (.aload_n 0, 1) := by
  have h1 : (Decoder.instr pc) c pc = .ok (.aload_n 0, pc + 1) := by
    show Except.bind ((Reader.u1 : Decoder Nat) c pc) _ = _
    rw [o_u1 ((o_get hc _).trans (bk_e h).1)]
    rfl
  show Except.bind ((Decoder.instr pc) c pc) _ = _
  rw [h1]
  show Except.ok (_, pc + 1 - pc) = _
  rw [Nat.add_sub_cancel_left]
theorem o_43 {c : ByteArray} {l : List UInt8} {pc : Nat} (hc : c = ⟨⟨l⟩⟩) (h : bk l pc [43] = true) : decode c pc = .ok (.aload_n 1, 1) := by
  have h1 : (Decoder.instr pc) c pc = .ok (.aload_n 1, pc + 1) := by
    show Except.bind ((Reader.u1 : Decoder Nat) c pc) _ = _
    rw [o_u1 ((o_get hc _).trans (bk_e h).1)]
    rfl
  show Except.bind ((Decoder.instr pc) c pc) _ = _
  rw [h1]
  show Except.ok (_, pc + 1 - pc) = _
  rw [Nat.add_sub_cancel_left]
theorem o_44 {c : ByteArray} {l : List UInt8} {pc : Nat} (hc : c = ⟨⟨l⟩⟩) (h : bk l pc [44] = true) : decode c pc = .ok (.aload_n 2, 1) := by
  have h1 : (Decoder.instr pc) c pc = .ok (.aload_n 2, pc + 1) := by
    show Except.bind ((Reader.u1 : Decoder Nat) c pc) _ = _
    rw [o_u1 ((o_get hc _).trans (bk_e h).1)]
    rfl
  show Except.bind ((Decoder.instr pc) c pc) _ = _
  rw [h1]
  show Except.ok (_, pc + 1 - pc) = _
  rw [Nat.add_sub_cancel_left]
theorem o_45 {c : ByteArray} {l : List UInt8} {pc : Nat} (hc : c = ⟨⟨l⟩⟩) (h : bk l pc [45] = true) : decode c pc = .ok (.aload_n 3, 1) := by
  have h1 : (Decoder.instr pc) c pc = .ok (.aload_n 3, pc + 1) := by
    show Except.bind ((Reader.u1 : Decoder Nat) c pc) _ = _
    rw [o_u1 ((o_get hc _).trans (bk_e h).1)]
    rfl
  show Except.bind ((Decoder.instr pc) c pc) _ = _
  rw [h1]
  show Except.ok (_, pc + 1 - pc) = _
  rw [Nat.add_sub_cancel_left]
theorem o_46 {c : ByteArray} {l : List UInt8} {pc : Nat} (hc : c = ⟨⟨l⟩⟩) (h : bk l pc [46] = true) : decode c pc = .ok (.iaload, 1) := by
  have h1 : (Decoder.instr pc) c pc = .ok (.iaload, pc + 1) := by
    show Except.bind ((Reader.u1 : Decoder Nat) c pc) _ = _
    rw [o_u1 ((o_get hc _).trans (bk_e h).1)]
    rfl
  show Except.bind ((Decoder.instr pc) c pc) _ = _
  rw [h1]
  show Except.ok (_, pc + 1 - pc) = _
  rw [Nat.add_sub_cancel_left]
theorem o_50 {c : ByteArray} {l : List UInt8} {pc : Nat} (hc : c = ⟨⟨l⟩⟩) (h : bk l pc [50] = true) : decode c pc = .ok (.aaload, 1) := by
  have h1 : (Decoder.instr pc) c pc = .ok (.aaload, pc + 1) := by
    show Except.bind ((Reader.u1 : Decoder Nat) c pc) _ = _
    rw [o_u1 ((o_get hc _).trans (bk_e h).1)]
    rfl
  show Except.bind ((Decoder.instr pc) c pc) _ = _
  rw [h1]
  show Except.ok (_, pc + 1 - pc) = _
  rw [Nat.add_sub_cancel_left]
theorem o_51 {c : ByteArray} {l : List UInt8} {pc : Nat} (hc : c = ⟨⟨l⟩⟩) (h : bk l pc [51] = true) : decode c pc = .ok (.baload, 1) := by
  have h1 : (Decoder.instr pc) c pc = .ok (.baload, pc + 1) := by
    show Except.bind ((Reader.u1 : Decoder Nat) c pc) _ = _
    rw [o_u1 ((o_get hc _).trans (bk_e h).1)]
    rfl
  show Except.bind ((Decoder.instr pc) c pc) _ = _
  rw [h1]
  show Except.ok (_, pc + 1 - pc) = _
  rw [Nat.add_sub_cancel_left]
theorem o_54 {c : ByteArray} {l : List UInt8} {pc : Nat} (x : UInt8) (hc : c = ⟨⟨l⟩⟩) (h : bk l pc [54, x] = true) : decode c pc = .ok (.istore x.toNat, 2) := by
  have f1 := bk_e h
  have f2 := bk_e f1.2
  have g1 := (o_get hc pc).trans f1.1
  have g2 := (o_get hc (pc + 1)).trans f2.1
  have h1 : (Decoder.instr pc) c pc = .ok (.istore x.toNat, pc + 2) := by
    show Except.bind ((Reader.u1 : Decoder Nat) c pc) _ = _
    rw [o_u1 g1]
    show Except.bind ((Reader.u1 : Decoder Nat) c (pc + 1)) _ = _
    rw [o_u1 g2]
    rfl
  show Except.bind ((Decoder.instr pc) c pc) _ = _
  rw [h1]
  show Except.ok (_, pc + 2 - pc) = _
  rw [Nat.add_sub_cancel_left]
theorem o_55 {c : ByteArray} {l : List UInt8} {pc : Nat} (x : UInt8) (hc : c = ⟨⟨l⟩⟩) (h : bk l pc [55, x] = true) : decode c pc = .ok (.lstore x.toNat, 2) := by
  have f1 := bk_e h
  have f2 := bk_e f1.2
  have g1 := (o_get hc pc).trans f1.1
  have g2 := (o_get hc (pc + 1)).trans f2.1
  have h1 : (Decoder.instr pc) c pc = .ok (.lstore x.toNat, pc + 2) := by
    show Except.bind ((Reader.u1 : Decoder Nat) c pc) _ = _
    rw [o_u1 g1]
    show Except.bind ((Reader.u1 : Decoder Nat) c (pc + 1)) _ = _
    rw [o_u1 g2]
    rfl
  show Except.bind ((Decoder.instr pc) c pc) _ = _
  rw [h1]
  show Except.ok (_, pc + 2 - pc) = _
  rw [Nat.add_sub_cancel_left]
theorem o_59 {c : ByteArray} {l : List UInt8} {pc : Nat} (hc : c = ⟨⟨l⟩⟩) (h : bk l pc [59] = true) : decode c pc = .ok (.istore_n 0, 1) := by
  have h1 : (Decoder.instr pc) c pc = .ok (.istore_n 0, pc + 1) := by
    show Except.bind ((Reader.u1 : Decoder Nat) c pc) _ = _
    rw [o_u1 ((o_get hc _).trans (bk_e h).1)]
    rfl
  show Except.bind ((Decoder.instr pc) c pc) _ = _
  rw [h1]
  show Except.ok (_, pc + 1 - pc) = _
  rw [Nat.add_sub_cancel_left]
theorem o_60 {c : ByteArray} {l : List UInt8} {pc : Nat} (hc : c = ⟨⟨l⟩⟩) (h : bk l pc [60] = true) : decode c pc = .ok (.istore_n 1, 1) := by
  have h1 : (Decoder.instr pc) c pc = .ok (.istore_n 1, pc + 1) := by
    show Except.bind ((Reader.u1 : Decoder Nat) c pc) _ = _
    rw [o_u1 ((o_get hc _).trans (bk_e h).1)]
    rfl
  show Except.bind ((Decoder.instr pc) c pc) _ = _
  rw [h1]
  show Except.ok (_, pc + 1 - pc) = _
  rw [Nat.add_sub_cancel_left]
theorem o_61 {c : ByteArray} {l : List UInt8} {pc : Nat} (hc : c = ⟨⟨l⟩⟩) (h : bk l pc [61] = true) : decode c pc = .ok (.istore_n 2, 1) := by
  have h1 : (Decoder.instr pc) c pc = .ok (.istore_n 2, pc + 1) := by
    show Except.bind ((Reader.u1 : Decoder Nat) c pc) _ = _
    rw [o_u1 ((o_get hc _).trans (bk_e h).1)]
    rfl
  show Except.bind ((Decoder.instr pc) c pc) _ = _
  rw [h1]
  show Except.ok (_, pc + 1 - pc) = _
  rw [Nat.add_sub_cancel_left]
theorem o_62 {c : ByteArray} {l : List UInt8} {pc : Nat} (hc : c = ⟨⟨l⟩⟩) (h : bk l pc [62] = true) : decode c pc = .ok (.istore_n 3, 1) := by
  have h1 : (Decoder.instr pc) c pc = .ok (.istore_n 3, pc + 1) := by
    show Except.bind ((Reader.u1 : Decoder Nat) c pc) _ = _
    rw [o_u1 ((o_get hc _).trans (bk_e h).1)]
    rfl
  show Except.bind ((Decoder.instr pc) c pc) _ = _
  rw [h1]
  show Except.ok (_, pc + 1 - pc) = _
  rw [Nat.add_sub_cancel_left]
theorem o_76 {c : ByteArray} {l : List UInt8} {pc : Nat} (hc : c = ⟨⟨l⟩⟩) (h : bk l pc [76] = true) : decode c pc = .ok (.astore_n 1, 1) := by
  have h1 : (Decoder.instr pc) c pc = .ok (.astore_n 1, pc + 1) := by
    show Except.bind ((Reader.u1 : Decoder Nat) c pc) _ = _
    rw [o_u1 ((o_get hc _).trans (bk_e h).1)]
    rfl
  show Except.bind ((Decoder.instr pc) c pc) _ = _
  rw [h1]
  show Except.ok (_, pc + 1 - pc) = _
  rw [Nat.add_sub_cancel_left]
theorem o_77 {c : ByteArray} {l : List UInt8} {pc : Nat} (hc : c = ⟨⟨l⟩⟩) (h : bk l pc [77] = true) : decode c pc = .ok (.astore_n 2, 1) := by
  have h1 : (Decoder.instr pc) c pc = .ok (.astore_n 2, pc + 1) := by
    show Except.bind ((Reader.u1 : Decoder Nat) c pc) _ = _
    rw [o_u1 ((o_get hc _).trans (bk_e h).1)]
    rfl
  show Except.bind ((Decoder.instr pc) c pc) _ = _
  rw [h1]
  show Except.ok (_, pc + 1 - pc) = _
  rw [Nat.add_sub_cancel_left]
theorem o_79 {c : ByteArray} {l : List UInt8} {pc : Nat} (hc : c = ⟨⟨l⟩⟩) (h : bk l pc [79] = true) : decode c pc = .ok (.iastore, 1) := by
  have h1 : (Decoder.instr pc) c pc = .ok (.iastore, pc + 1) := by
    show Except.bind ((Reader.u1 : Decoder Nat) c pc) _ = _
    rw [o_u1 ((o_get hc _).trans (bk_e h).1)]
    rfl
  show Except.bind ((Decoder.instr pc) c pc) _ = _
  rw [h1]
  show Except.ok (_, pc + 1 - pc) = _
  rw [Nat.add_sub_cancel_left]
theorem o_84 {c : ByteArray} {l : List UInt8} {pc : Nat} (hc : c = ⟨⟨l⟩⟩) (h : bk l pc [84] = true) : decode c pc = .ok (.bastore, 1) := by
  have h1 : (Decoder.instr pc) c pc = .ok (.bastore, pc + 1) := by
    show Except.bind ((Reader.u1 : Decoder Nat) c pc) _ = _
    rw [o_u1 ((o_get hc _).trans (bk_e h).1)]
    rfl
  show Except.bind ((Decoder.instr pc) c pc) _ = _
  rw [h1]
  show Except.ok (_, pc + 1 - pc) = _
  rw [Nat.add_sub_cancel_left]
theorem o_87 {c : ByteArray} {l : List UInt8} {pc : Nat} (hc : c = ⟨⟨l⟩⟩) (h : bk l pc [87] = true) : decode c pc = .ok (.pop, 1) := by
  have h1 : (Decoder.instr pc) c pc = .ok (.pop, pc + 1) := by
    show Except.bind ((Reader.u1 : Decoder Nat) c pc) _ = _
    rw [o_u1 ((o_get hc _).trans (bk_e h).1)]
    rfl
  show Except.bind ((Decoder.instr pc) c pc) _ = _
  rw [h1]
  show Except.ok (_, pc + 1 - pc) = _
  rw [Nat.add_sub_cancel_left]
theorem o_89 {c : ByteArray} {l : List UInt8} {pc : Nat} (hc : c = ⟨⟨l⟩⟩) (h : bk l pc [89] = true) : decode c pc = .ok (.dup, 1) := by
  have h1 : (Decoder.instr pc) c pc = .ok (.dup, pc + 1) := by
    show Except.bind ((Reader.u1 : Decoder Nat) c pc) _ = _
    rw [o_u1 ((o_get hc _).trans (bk_e h).1)]
    rfl
  show Except.bind ((Decoder.instr pc) c pc) _ = _
  rw [h1]
  show Except.ok (_, pc + 1 - pc) = _
  rw [Nat.add_sub_cancel_left]
theorem o_92 {c : ByteArray} {l : List UInt8} {pc : Nat} (hc : c = ⟨⟨l⟩⟩) (h : bk l pc [92] = true) : decode c pc = .ok (.dup2, 1) := by
  have h1 : (Decoder.instr pc) c pc = .ok (.dup2, pc + 1) := by
    show Except.bind ((Reader.u1 : Decoder Nat) c pc) _ = _
    rw [o_u1 ((o_get hc _).trans (bk_e h).1)]
    rfl
  show Except.bind ((Decoder.instr pc) c pc) _ = _
  rw [h1]
  show Except.ok (_, pc + 1 - pc) = _
  rw [Nat.add_sub_cancel_left]
theorem o_96 {c : ByteArray} {l : List UInt8} {pc : Nat} (hc : c = ⟨⟨l⟩⟩) (h : bk l pc [96] = true) : decode c pc = .ok (.iadd, 1) := by
  have h1 : (Decoder.instr pc) c pc = .ok (.iadd, pc + 1) := by
    show Except.bind ((Reader.u1 : Decoder Nat) c pc) _ = _
    rw [o_u1 ((o_get hc _).trans (bk_e h).1)]
    rfl
  show Except.bind ((Decoder.instr pc) c pc) _ = _
  rw [h1]
  show Except.ok (_, pc + 1 - pc) = _
  rw [Nat.add_sub_cancel_left]
theorem o_97 {c : ByteArray} {l : List UInt8} {pc : Nat} (hc : c = ⟨⟨l⟩⟩) (h : bk l pc [97] = true) : decode c pc = .ok (.ladd, 1) := by
  have h1 : (Decoder.instr pc) c pc = .ok (.ladd, pc + 1) := by
    show Except.bind ((Reader.u1 : Decoder Nat) c pc) _ = _
    rw [o_u1 ((o_get hc _).trans (bk_e h).1)]
    rfl
  show Except.bind ((Decoder.instr pc) c pc) _ = _
  rw [h1]
  show Except.ok (_, pc + 1 - pc) = _
  rw [Nat.add_sub_cancel_left]
theorem o_100 {c : ByteArray} {l : List UInt8} {pc : Nat} (hc : c = ⟨⟨l⟩⟩) (h : bk l pc [100] = true) : decode c pc = .ok (.isub, 1) := by
  have h1 : (Decoder.instr pc) c pc = .ok (.isub, pc + 1) := by
    show Except.bind ((Reader.u1 : Decoder Nat) c pc) _ = _
    rw [o_u1 ((o_get hc _).trans (bk_e h).1)]
    rfl
  show Except.bind ((Decoder.instr pc) c pc) _ = _
  rw [h1]
  show Except.ok (_, pc + 1 - pc) = _
  rw [Nat.add_sub_cancel_left]
theorem o_101 {c : ByteArray} {l : List UInt8} {pc : Nat} (hc : c = ⟨⟨l⟩⟩) (h : bk l pc [101] = true) : decode c pc = .ok (.lsub, 1) := by
  have h1 : (Decoder.instr pc) c pc = .ok (.lsub, pc + 1) := by
    show Except.bind ((Reader.u1 : Decoder Nat) c pc) _ = _
    rw [o_u1 ((o_get hc _).trans (bk_e h).1)]
    rfl
  show Except.bind ((Decoder.instr pc) c pc) _ = _
  rw [h1]
  show Except.ok (_, pc + 1 - pc) = _
  rw [Nat.add_sub_cancel_left]
theorem o_104 {c : ByteArray} {l : List UInt8} {pc : Nat} (hc : c = ⟨⟨l⟩⟩) (h : bk l pc [104] = true) : decode c pc = .ok (.imul, 1) := by
  have h1 : (Decoder.instr pc) c pc = .ok (.imul, pc + 1) := by
    show Except.bind ((Reader.u1 : Decoder Nat) c pc) _ = _
    rw [o_u1 ((o_get hc _).trans (bk_e h).1)]
    rfl
  show Except.bind ((Decoder.instr pc) c pc) _ = _
  rw [h1]
  show Except.ok (_, pc + 1 - pc) = _
  rw [Nat.add_sub_cancel_left]
theorem o_105 {c : ByteArray} {l : List UInt8} {pc : Nat} (hc : c = ⟨⟨l⟩⟩) (h : bk l pc [105] = true) : decode c pc = .ok (.lmul, 1) := by
  have h1 : (Decoder.instr pc) c pc = .ok (.lmul, pc + 1) := by
    show Except.bind ((Reader.u1 : Decoder Nat) c pc) _ = _
    rw [o_u1 ((o_get hc _).trans (bk_e h).1)]
    rfl
  show Except.bind ((Decoder.instr pc) c pc) _ = _
  rw [h1]
  show Except.ok (_, pc + 1 - pc) = _
  rw [Nat.add_sub_cancel_left]
theorem o_108 {c : ByteArray} {l : List UInt8} {pc : Nat} (hc : c = ⟨⟨l⟩⟩) (h : bk l pc [108] = true) : decode c pc = .ok (.idiv, 1) := by
  have h1 : (Decoder.instr pc) c pc = .ok (.idiv, pc + 1) := by
    show Except.bind ((Reader.u1 : Decoder Nat) c pc) _ = _
    rw [o_u1 ((o_get hc _).trans (bk_e h).1)]
    rfl
  show Except.bind ((Decoder.instr pc) c pc) _ = _
  rw [h1]
  show Except.ok (_, pc + 1 - pc) = _
  rw [Nat.add_sub_cancel_left]
theorem o_109 {c : ByteArray} {l : List UInt8} {pc : Nat} (hc : c = ⟨⟨l⟩⟩) (h : bk l pc [109] = true) : decode c pc = .ok (.ldiv, 1) := by
  have h1 : (Decoder.instr pc) c pc = .ok (.ldiv, pc + 1) := by
    show Except.bind ((Reader.u1 : Decoder Nat) c pc) _ = _
    rw [o_u1 ((o_get hc _).trans (bk_e h).1)]
    rfl
  show Except.bind ((Decoder.instr pc) c pc) _ = _
  rw [h1]
  show Except.ok (_, pc + 1 - pc) = _
  rw [Nat.add_sub_cancel_left]
theorem o_112 {c : ByteArray} {l : List UInt8} {pc : Nat} (hc : c = ⟨⟨l⟩⟩) (h : bk l pc [112] = true) : decode c pc = .ok (.irem, 1) := by
  have h1 : (Decoder.instr pc) c pc = .ok (.irem, pc + 1) := by
    show Except.bind ((Reader.u1 : Decoder Nat) c pc) _ = _
    rw [o_u1 ((o_get hc _).trans (bk_e h).1)]
    rfl
  show Except.bind ((Decoder.instr pc) c pc) _ = _
  rw [h1]
  show Except.ok (_, pc + 1 - pc) = _
  rw [Nat.add_sub_cancel_left]
theorem o_113 {c : ByteArray} {l : List UInt8} {pc : Nat} (hc : c = ⟨⟨l⟩⟩) (h : bk l pc [113] = true) : decode c pc = .ok (.lrem, 1) := by
  have h1 : (Decoder.instr pc) c pc = .ok (.lrem, pc + 1) := by
    show Except.bind ((Reader.u1 : Decoder Nat) c pc) _ = _
    rw [o_u1 ((o_get hc _).trans (bk_e h).1)]
    rfl
  show Except.bind ((Decoder.instr pc) c pc) _ = _
  rw [h1]
  show Except.ok (_, pc + 1 - pc) = _
  rw [Nat.add_sub_cancel_left]
theorem o_116 {c : ByteArray} {l : List UInt8} {pc : Nat} (hc : c = ⟨⟨l⟩⟩) (h : bk l pc [116] = true) : decode c pc = .ok (.ineg, 1) := by
  have h1 : (Decoder.instr pc) c pc = .ok (.ineg, pc + 1) := by
    show Except.bind ((Reader.u1 : Decoder Nat) c pc) _ = _
    rw [o_u1 ((o_get hc _).trans (bk_e h).1)]
    rfl
  show Except.bind ((Decoder.instr pc) c pc) _ = _
  rw [h1]
  show Except.ok (_, pc + 1 - pc) = _
  rw [Nat.add_sub_cancel_left]
theorem o_120 {c : ByteArray} {l : List UInt8} {pc : Nat} (hc : c = ⟨⟨l⟩⟩) (h : bk l pc [120] = true) : decode c pc = .ok (.ishl, 1) := by
  have h1 : (Decoder.instr pc) c pc = .ok (.ishl, pc + 1) := by
    show Except.bind ((Reader.u1 : Decoder Nat) c pc) _ = _
    rw [o_u1 ((o_get hc _).trans (bk_e h).1)]
    rfl
  show Except.bind ((Decoder.instr pc) c pc) _ = _
  rw [h1]
  show Except.ok (_, pc + 1 - pc) = _
  rw [Nat.add_sub_cancel_left]
theorem o_122 {c : ByteArray} {l : List UInt8} {pc : Nat} (hc : c = ⟨⟨l⟩⟩) (h : bk l pc [122] = true) : decode c pc = .ok (.ishr, 1) := by
  have h1 : (Decoder.instr pc) c pc = .ok (.ishr, pc + 1) := by
    show Except.bind ((Reader.u1 : Decoder Nat) c pc) _ = _
    rw [o_u1 ((o_get hc _).trans (bk_e h).1)]
    rfl
  show Except.bind ((Decoder.instr pc) c pc) _ = _
  rw [h1]
  show Except.ok (_, pc + 1 - pc) = _
  rw [Nat.add_sub_cancel_left]
theorem o_124 {c : ByteArray} {l : List UInt8} {pc : Nat} (hc : c = ⟨⟨l⟩⟩) (h : bk l pc [124] = true) : decode c pc = .ok (.iushr, 1) := by
  have h1 : (Decoder.instr pc) c pc = .ok (.iushr, pc + 1) := by
    show Except.bind ((Reader.u1 : Decoder Nat) c pc) _ = _
    rw [o_u1 ((o_get hc _).trans (bk_e h).1)]
    rfl
  show Except.bind ((Decoder.instr pc) c pc) _ = _
  rw [h1]
  show Except.ok (_, pc + 1 - pc) = _
  rw [Nat.add_sub_cancel_left]
theorem o_126 {c : ByteArray} {l : List UInt8} {pc : Nat} (hc : c = ⟨⟨l⟩⟩) (h : bk l pc [126] = true) : decode c pc = .ok (.iand, 1) := by
  have h1 : (Decoder.instr pc) c pc = .ok (.iand, pc + 1) := by
    show Except.bind ((Reader.u1 : Decoder Nat) c pc) _ = _
    rw [o_u1 ((o_get hc _).trans (bk_e h).1)]
    rfl
  show Except.bind ((Decoder.instr pc) c pc) _ = _
  rw [h1]
  show Except.ok (_, pc + 1 - pc) = _
  rw [Nat.add_sub_cancel_left]
theorem o_128 {c : ByteArray} {l : List UInt8} {pc : Nat} (hc : c = ⟨⟨l⟩⟩) (h : bk l pc [128] = true) : decode c pc = .ok (.ior, 1) := by
  have h1 : (Decoder.instr pc) c pc = .ok (.ior, pc + 1) := by
    show Except.bind ((Reader.u1 : Decoder Nat) c pc) _ = _
    rw [o_u1 ((o_get hc _).trans (bk_e h).1)]
    rfl
  show Except.bind ((Decoder.instr pc) c pc) _ = _
  rw [h1]
  show Except.ok (_, pc + 1 - pc) = _
  rw [Nat.add_sub_cancel_left]
theorem o_130 {c : ByteArray} {l : List UInt8} {pc : Nat} (hc : c = ⟨⟨l⟩⟩) (h : bk l pc [130] = true) : decode c pc = .ok (.ixor, 1) := by
  have h1 : (Decoder.instr pc) c pc = .ok (.ixor, pc + 1) := by
    show Except.bind ((Reader.u1 : Decoder Nat) c pc) _ = _
    rw [o_u1 ((o_get hc _).trans (bk_e h).1)]
    rfl
  show Except.bind ((Decoder.instr pc) c pc) _ = _
  rw [h1]
  show Except.ok (_, pc + 1 - pc) = _
  rw [Nat.add_sub_cancel_left]
theorem o_132 {c : ByteArray} {l : List UInt8} {pc : Nat} (x y : UInt8) {v : Int} (hv : Reader.signed 8 y.toNat = v) (hc : c = ⟨⟨l⟩⟩) (h : bk l pc [132, x, y] = true) : decode c pc = .ok (.iinc x.toNat v, 3) := by
  have f1 := bk_e h
  have f2 := bk_e f1.2
  have g1 := (o_get hc pc).trans f1.1
  have g2 := (o_get hc (pc + 1)).trans f2.1
  have f3 := bk_e f2.2
  have g3 := (o_get hc (pc + 2)).trans f3.1
  subst hv
  have h1 : (Decoder.instr pc) c pc = .ok (.iinc x.toNat (Reader.signed 8 y.toNat), pc + 3) := by
    show Except.bind ((Reader.u1 : Decoder Nat) c pc) _ = _
    rw [o_u1 g1]
    show Except.bind ((Reader.u1 : Decoder Nat) c (pc + 1)) _ = _
    rw [o_u1 g2]
    have e : (Reader.s1 : Decoder Int) c (pc + 2) = .ok (Reader.signed 8 y.toNat, pc + 3) := by
      show Except.map _ ((Reader.u1 : Decoder Nat) c (pc + 2)) = _
      rw [o_u1 g3]
      rfl
    show Except.bind ((Reader.s1 : Decoder Int) c (pc + 2)) _ = _
    rw [e]
    rfl
  show Except.bind ((Decoder.instr pc) c pc) _ = _
  rw [h1]
  show Except.ok (_, pc + 3 - pc) = _
  rw [Nat.add_sub_cancel_left]
theorem o_133 {c : ByteArray} {l : List UInt8} {pc : Nat} (hc : c = ⟨⟨l⟩⟩) (h : bk l pc [133] = true) : decode c pc = .ok (.i2l, 1) := by
  have h1 : (Decoder.instr pc) c pc = .ok (.i2l, pc + 1) := by
    show Except.bind ((Reader.u1 : Decoder Nat) c pc) _ = _
    rw [o_u1 ((o_get hc _).trans (bk_e h).1)]
    rfl
  show Except.bind ((Decoder.instr pc) c pc) _ = _
  rw [h1]
  show Except.ok (_, pc + 1 - pc) = _
  rw [Nat.add_sub_cancel_left]
theorem o_136 {c : ByteArray} {l : List UInt8} {pc : Nat} (hc : c = ⟨⟨l⟩⟩) (h : bk l pc [136] = true) : decode c pc = .ok (.l2i, 1) := by
  have h1 : (Decoder.instr pc) c pc = .ok (.l2i, pc + 1) := by
    show Except.bind ((Reader.u1 : Decoder Nat) c pc) _ = _
    rw [o_u1 ((o_get hc _).trans (bk_e h).1)]
    rfl
  show Except.bind ((Decoder.instr pc) c pc) _ = _
  rw [h1]
  show Except.ok (_, pc + 1 - pc) = _
  rw [Nat.add_sub_cancel_left]
theorem o_145 {c : ByteArray} {l : List UInt8} {pc : Nat} (hc : c = ⟨⟨l⟩⟩) (h : bk l pc [145] = true) : decode c pc = .ok (.i2b, 1) := by
  have h1 : (Decoder.instr pc) c pc = .ok (.i2b, pc + 1) := by
    show Except.bind ((Reader.u1 : Decoder Nat) c pc) _ = _
    rw [o_u1 ((o_get hc _).trans (bk_e h).1)]
    rfl
  show Except.bind ((Decoder.instr pc) c pc) _ = _
  rw [h1]
  show Except.ok (_, pc + 1 - pc) = _
  rw [Nat.add_sub_cancel_left]
theorem o_146 {c : ByteArray} {l : List UInt8} {pc : Nat} (hc : c = ⟨⟨l⟩⟩) (h : bk l pc [146] = true) : decode c pc = .ok (.i2c, 1) := by
  have h1 : (Decoder.instr pc) c pc = .ok (.i2c, pc + 1) := by
    show Except.bind ((Reader.u1 : Decoder Nat) c pc) _ = _
    rw [o_u1 ((o_get hc _).trans (bk_e h).1)]
    rfl
  show Except.bind ((Decoder.instr pc) c pc) _ = _
  rw [h1]
  show Except.ok (_, pc + 1 - pc) = _
  rw [Nat.add_sub_cancel_left]
theorem o_147 {c : ByteArray} {l : List UInt8} {pc : Nat} (hc : c = ⟨⟨l⟩⟩) (h : bk l pc [147] = true) : decode c pc = .ok (.i2s, 1) := by
  have h1 : (Decoder.instr pc) c pc = .ok (.i2s, pc + 1) := by
    show Except.bind ((Reader.u1 : Decoder Nat) c pc) _ = _
    rw [o_u1 ((o_get hc _).trans (bk_e h).1)]
    rfl
  show Except.bind ((Decoder.instr pc) c pc) _ = _
  rw [h1]
  show Except.ok (_, pc + 1 - pc) = _
  rw [Nat.add_sub_cancel_left]
theorem o_148 {c : ByteArray} {l : List UInt8} {pc : Nat} (hc : c = ⟨⟨l⟩⟩) (h : bk l pc [148] = true) : decode c pc = .ok (.lcmp, 1) := by
  have h1 : (Decoder.instr pc) c pc = .ok (.lcmp, pc + 1) := by
    show Except.bind ((Reader.u1 : Decoder Nat) c pc) _ = _
    rw [o_u1 ((o_get hc _).trans (bk_e h).1)]
    rfl
  show Except.bind ((Decoder.instr pc) c pc) _ = _
  rw [h1]
  show Except.ok (_, pc + 1 - pc) = _
  rw [Nat.add_sub_cancel_left]
theorem o_153 {c : ByteArray} {l : List UInt8} {pc : Nat} (x y : UInt8) {v : Int} (hv : Reader.signed 16 (x.toNat * 256 + y.toNat) = v) (hc : c = ⟨⟨l⟩⟩) (h : bk l pc [153, x, y] = true) : decode c pc = .ok (.ifCond .eq v, 3) := by
  have f1 := bk_e h
  have f2 := bk_e f1.2
  have g1 := (o_get hc pc).trans f1.1
  have g2 := (o_get hc (pc + 1)).trans f2.1
  have f3 := bk_e f2.2
  have g3 := (o_get hc (pc + 2)).trans f3.1
  subst hv
  have h1 : (Decoder.instr pc) c pc = .ok (.ifCond .eq (Reader.signed 16 (x.toNat * 256 + y.toNat)), pc + 3) := by
    show Except.bind ((Reader.u1 : Decoder Nat) c pc) _ = _
    rw [o_u1 g1]
    have e0 : (Reader.u2 : Decoder Nat) c (pc + 1) = .ok (x.toNat * 256 + y.toNat, pc + 3) := by
      show Except.bind ((Reader.u1 : Decoder Nat) c (pc + 1)) _ = _
      rw [o_u1 g2]
      show Except.bind ((Reader.u1 : Decoder Nat) c (pc + 2)) _ = _
      rw [o_u1 g3]
      rfl
    have e : (Reader.s2 : Decoder Int) c (pc + 1) = .ok (Reader.signed 16 (x.toNat * 256 + y.toNat), pc + 3) := by
      show Except.map _ ((Reader.u2 : Decoder Nat) c (pc + 1)) = _
      rw [e0]
      rfl
    show Except.bind ((Reader.s2 : Decoder Int) c (pc + 1)) _ = _
    rw [e]
    rfl
  show Except.bind ((Decoder.instr pc) c pc) _ = _
  rw [h1]
  show Except.ok (_, pc + 3 - pc) = _
  rw [Nat.add_sub_cancel_left]
theorem o_154 {c : ByteArray} {l : List UInt8} {pc : Nat} (x y : UInt8) {v : Int} (hv : Reader.signed 16 (x.toNat * 256 + y.toNat) = v) (hc : c = ⟨⟨l⟩⟩) (h : bk l pc [154, x, y] = true) : decode c pc = .ok (.ifCond .ne v, 3) := by
  have f1 := bk_e h
  have f2 := bk_e f1.2
  have g1 := (o_get hc pc).trans f1.1
  have g2 := (o_get hc (pc + 1)).trans f2.1
  have f3 := bk_e f2.2
  have g3 := (o_get hc (pc + 2)).trans f3.1
  subst hv
  have h1 : (Decoder.instr pc) c pc = .ok (.ifCond .ne (Reader.signed 16 (x.toNat * 256 + y.toNat)), pc + 3) := by
    show Except.bind ((Reader.u1 : Decoder Nat) c pc) _ = _
    rw [o_u1 g1]
    have e0 : (Reader.u2 : Decoder Nat) c (pc + 1) = .ok (x.toNat * 256 + y.toNat, pc + 3) := by
      show Except.bind ((Reader.u1 : Decoder Nat) c (pc + 1)) _ = _
      rw [o_u1 g2]
      show Except.bind ((Reader.u1 : Decoder Nat) c (pc + 2)) _ = _
      rw [o_u1 g3]
      rfl
    have e : (Reader.s2 : Decoder Int) c (pc + 1) = .ok (Reader.signed 16 (x.toNat * 256 + y.toNat), pc + 3) := by
      show Except.map _ ((Reader.u2 : Decoder Nat) c (pc + 1)) = _
      rw [e0]
      rfl
    show Except.bind ((Reader.s2 : Decoder Int) c (pc + 1)) _ = _
    rw [e]
    rfl
  show Except.bind ((Decoder.instr pc) c pc) _ = _
  rw [h1]
  show Except.ok (_, pc + 3 - pc) = _
  rw [Nat.add_sub_cancel_left]
theorem o_155 {c : ByteArray} {l : List UInt8} {pc : Nat} (x y : UInt8) {v : Int} (hv : Reader.signed 16 (x.toNat * 256 + y.toNat) = v) (hc : c = ⟨⟨l⟩⟩) (h : bk l pc [155, x, y] = true) : decode c pc = .ok (.ifCond .lt v, 3) := by
  have f1 := bk_e h
  have f2 := bk_e f1.2
  have g1 := (o_get hc pc).trans f1.1
  have g2 := (o_get hc (pc + 1)).trans f2.1
  have f3 := bk_e f2.2
  have g3 := (o_get hc (pc + 2)).trans f3.1
  subst hv
  have h1 : (Decoder.instr pc) c pc = .ok (.ifCond .lt (Reader.signed 16 (x.toNat * 256 + y.toNat)), pc + 3) := by
    show Except.bind ((Reader.u1 : Decoder Nat) c pc) _ = _
    rw [o_u1 g1]
    have e0 : (Reader.u2 : Decoder Nat) c (pc + 1) = .ok (x.toNat * 256 + y.toNat, pc + 3) := by
      show Except.bind ((Reader.u1 : Decoder Nat) c (pc + 1)) _ = _
      rw [o_u1 g2]
      show Except.bind ((Reader.u1 : Decoder Nat) c (pc + 2)) _ = _
      rw [o_u1 g3]
      rfl
    have e : (Reader.s2 : Decoder Int) c (pc + 1) = .ok (Reader.signed 16 (x.toNat * 256 + y.toNat), pc + 3) := by
      show Except.map _ ((Reader.u2 : Decoder Nat) c (pc + 1)) = _
      rw [e0]
      rfl
    show Except.bind ((Reader.s2 : Decoder Int) c (pc + 1)) _ = _
    rw [e]
    rfl
  show Except.bind ((Decoder.instr pc) c pc) _ = _
  rw [h1]
  show Except.ok (_, pc + 3 - pc) = _
  rw [Nat.add_sub_cancel_left]
theorem o_156 {c : ByteArray} {l : List UInt8} {pc : Nat} (x y : UInt8) {v : Int} (hv : Reader.signed 16 (x.toNat * 256 + y.toNat) = v) (hc : c = ⟨⟨l⟩⟩) (h : bk l pc [156, x, y] = true) : decode c pc = .ok (.ifCond .ge v, 3) := by
  have f1 := bk_e h
  have f2 := bk_e f1.2
  have g1 := (o_get hc pc).trans f1.1
  have g2 := (o_get hc (pc + 1)).trans f2.1
  have f3 := bk_e f2.2
  have g3 := (o_get hc (pc + 2)).trans f3.1
  subst hv
  have h1 : (Decoder.instr pc) c pc = .ok (.ifCond .ge (Reader.signed 16 (x.toNat * 256 + y.toNat)), pc + 3) := by
    show Except.bind ((Reader.u1 : Decoder Nat) c pc) _ = _
    rw [o_u1 g1]
    have e0 : (Reader.u2 : Decoder Nat) c (pc + 1) = .ok (x.toNat * 256 + y.toNat, pc + 3) := by
      show Except.bind ((Reader.u1 : Decoder Nat) c (pc + 1)) _ = _
      rw [o_u1 g2]
      show Except.bind ((Reader.u1 : Decoder Nat) c (pc + 2)) _ = _
      rw [o_u1 g3]
      rfl
    have e : (Reader.s2 : Decoder Int) c (pc + 1) = .ok (Reader.signed 16 (x.toNat * 256 + y.toNat), pc + 3) := by
      show Except.map _ ((Reader.u2 : Decoder Nat) c (pc + 1)) = _
      rw [e0]
      rfl
    show Except.bind ((Reader.s2 : Decoder Int) c (pc + 1)) _ = _
    rw [e]
    rfl
  show Except.bind ((Decoder.instr pc) c pc) _ = _
  rw [h1]
  show Except.ok (_, pc + 3 - pc) = _
  rw [Nat.add_sub_cancel_left]
theorem o_157 {c : ByteArray} {l : List UInt8} {pc : Nat} (x y : UInt8) {v : Int} (hv : Reader.signed 16 (x.toNat * 256 + y.toNat) = v) (hc : c = ⟨⟨l⟩⟩) (h : bk l pc [157, x, y] = true) : decode c pc = .ok (.ifCond .gt v, 3) := by
  have f1 := bk_e h
  have f2 := bk_e f1.2
  have g1 := (o_get hc pc).trans f1.1
  have g2 := (o_get hc (pc + 1)).trans f2.1
  have f3 := bk_e f2.2
  have g3 := (o_get hc (pc + 2)).trans f3.1
  subst hv
  have h1 : (Decoder.instr pc) c pc = .ok (.ifCond .gt (Reader.signed 16 (x.toNat * 256 + y.toNat)), pc + 3) := by
    show Except.bind ((Reader.u1 : Decoder Nat) c pc) _ = _
    rw [o_u1 g1]
    have e0 : (Reader.u2 : Decoder Nat) c (pc + 1) = .ok (x.toNat * 256 + y.toNat, pc + 3) := by
      show Except.bind ((Reader.u1 : Decoder Nat) c (pc + 1)) _ = _
      rw [o_u1 g2]
      show Except.bind ((Reader.u1 : Decoder Nat) c (pc + 2)) _ = _
      rw [o_u1 g3]
      rfl
    have e : (Reader.s2 : Decoder Int) c (pc + 1) = .ok (Reader.signed 16 (x.toNat * 256 + y.toNat), pc + 3) := by
      show Except.map _ ((Reader.u2 : Decoder Nat) c (pc + 1)) = _
      rw [e0]
      rfl
    show Except.bind ((Reader.s2 : Decoder Int) c (pc + 1)) _ = _
    rw [e]
    rfl
  show Except.bind ((Decoder.instr pc) c pc) _ = _
  rw [h1]
  show Except.ok (_, pc + 3 - pc) = _
  rw [Nat.add_sub_cancel_left]
theorem o_158 {c : ByteArray} {l : List UInt8} {pc : Nat} (x y : UInt8) {v : Int} (hv : Reader.signed 16 (x.toNat * 256 + y.toNat) = v) (hc : c = ⟨⟨l⟩⟩) (h : bk l pc [158, x, y] = true) : decode c pc = .ok (.ifCond .le v, 3) := by
  have f1 := bk_e h
  have f2 := bk_e f1.2
  have g1 := (o_get hc pc).trans f1.1
  have g2 := (o_get hc (pc + 1)).trans f2.1
  have f3 := bk_e f2.2
  have g3 := (o_get hc (pc + 2)).trans f3.1
  subst hv
  have h1 : (Decoder.instr pc) c pc = .ok (.ifCond .le (Reader.signed 16 (x.toNat * 256 + y.toNat)), pc + 3) := by
    show Except.bind ((Reader.u1 : Decoder Nat) c pc) _ = _
    rw [o_u1 g1]
    have e0 : (Reader.u2 : Decoder Nat) c (pc + 1) = .ok (x.toNat * 256 + y.toNat, pc + 3) := by
      show Except.bind ((Reader.u1 : Decoder Nat) c (pc + 1)) _ = _
      rw [o_u1 g2]
      show Except.bind ((Reader.u1 : Decoder Nat) c (pc + 2)) _ = _
      rw [o_u1 g3]
      rfl
    have e : (Reader.s2 : Decoder Int) c (pc + 1) = .ok (Reader.signed 16 (x.toNat * 256 + y.toNat), pc + 3) := by
      show Except.map _ ((Reader.u2 : Decoder Nat) c (pc + 1)) = _
      rw [e0]
      rfl
    show Except.bind ((Reader.s2 : Decoder Int) c (pc + 1)) _ = _
    rw [e]
    rfl
  show Except.bind ((Decoder.instr pc) c pc) _ = _
  rw [h1]
  show Except.ok (_, pc + 3 - pc) = _
  rw [Nat.add_sub_cancel_left]
theorem o_159 {c : ByteArray} {l : List UInt8} {pc : Nat} (x y : UInt8) {v : Int} (hv : Reader.signed 16 (x.toNat * 256 + y.toNat) = v) (hc : c = ⟨⟨l⟩⟩) (h : bk l pc [159, x, y] = true) : decode c pc = .ok (.if_icmp .eq v, 3) := by
  have f1 := bk_e h
  have f2 := bk_e f1.2
  have g1 := (o_get hc pc).trans f1.1
  have g2 := (o_get hc (pc + 1)).trans f2.1
  have f3 := bk_e f2.2
  have g3 := (o_get hc (pc + 2)).trans f3.1
  subst hv
  have h1 : (Decoder.instr pc) c pc = .ok (.if_icmp .eq (Reader.signed 16 (x.toNat * 256 + y.toNat)), pc + 3) := by
    show Except.bind ((Reader.u1 : Decoder Nat) c pc) _ = _
    rw [o_u1 g1]
    have e0 : (Reader.u2 : Decoder Nat) c (pc + 1) = .ok (x.toNat * 256 + y.toNat, pc + 3) := by
      show Except.bind ((Reader.u1 : Decoder Nat) c (pc + 1)) _ = _
      rw [o_u1 g2]
      show Except.bind ((Reader.u1 : Decoder Nat) c (pc + 2)) _ = _
      rw [o_u1 g3]
      rfl
    have e : (Reader.s2 : Decoder Int) c (pc + 1) = .ok (Reader.signed 16 (x.toNat * 256 + y.toNat), pc + 3) := by
      show Except.map _ ((Reader.u2 : Decoder Nat) c (pc + 1)) = _
      rw [e0]
      rfl
    show Except.bind ((Reader.s2 : Decoder Int) c (pc + 1)) _ = _
    rw [e]
    rfl
  show Except.bind ((Decoder.instr pc) c pc) _ = _
  rw [h1]
  show Except.ok (_, pc + 3 - pc) = _
  rw [Nat.add_sub_cancel_left]
theorem o_160 {c : ByteArray} {l : List UInt8} {pc : Nat} (x y : UInt8) {v : Int} (hv : Reader.signed 16 (x.toNat * 256 + y.toNat) = v) (hc : c = ⟨⟨l⟩⟩) (h : bk l pc [160, x, y] = true) : decode c pc = .ok (.if_icmp .ne v, 3) := by
  have f1 := bk_e h
  have f2 := bk_e f1.2
  have g1 := (o_get hc pc).trans f1.1
  have g2 := (o_get hc (pc + 1)).trans f2.1
  have f3 := bk_e f2.2
  have g3 := (o_get hc (pc + 2)).trans f3.1
  subst hv
  have h1 : (Decoder.instr pc) c pc = .ok (.if_icmp .ne (Reader.signed 16 (x.toNat * 256 + y.toNat)), pc + 3) := by
    show Except.bind ((Reader.u1 : Decoder Nat) c pc) _ = _
    rw [o_u1 g1]
    have e0 : (Reader.u2 : Decoder Nat) c (pc + 1) = .ok (x.toNat * 256 + y.toNat, pc + 3) := by
      show Except.bind ((Reader.u1 : Decoder Nat) c (pc + 1)) _ = _
      rw [o_u1 g2]
      show Except.bind ((Reader.u1 : Decoder Nat) c (pc + 2)) _ = _
      rw [o_u1 g3]
      rfl
    have e : (Reader.s2 : Decoder Int) c (pc + 1) = .ok (Reader.signed 16 (x.toNat * 256 + y.toNat), pc + 3) := by
      show Except.map _ ((Reader.u2 : Decoder Nat) c (pc + 1)) = _
      rw [e0]
      rfl
    show Except.bind ((Reader.s2 : Decoder Int) c (pc + 1)) _ = _
    rw [e]
    rfl
  show Except.bind ((Decoder.instr pc) c pc) _ = _
  rw [h1]
  show Except.ok (_, pc + 3 - pc) = _
  rw [Nat.add_sub_cancel_left]
theorem o_161 {c : ByteArray} {l : List UInt8} {pc : Nat} (x y : UInt8) {v : Int} (hv : Reader.signed 16 (x.toNat * 256 + y.toNat) = v) (hc : c = ⟨⟨l⟩⟩) (h : bk l pc [161, x, y] = true) : decode c pc = .ok (.if_icmp .lt v, 3) := by
  have f1 := bk_e h
  have f2 := bk_e f1.2
  have g1 := (o_get hc pc).trans f1.1
  have g2 := (o_get hc (pc + 1)).trans f2.1
  have f3 := bk_e f2.2
  have g3 := (o_get hc (pc + 2)).trans f3.1
  subst hv
  have h1 : (Decoder.instr pc) c pc = .ok (.if_icmp .lt (Reader.signed 16 (x.toNat * 256 + y.toNat)), pc + 3) := by
    show Except.bind ((Reader.u1 : Decoder Nat) c pc) _ = _
    rw [o_u1 g1]
    have e0 : (Reader.u2 : Decoder Nat) c (pc + 1) = .ok (x.toNat * 256 + y.toNat, pc + 3) := by
      show Except.bind ((Reader.u1 : Decoder Nat) c (pc + 1)) _ = _
      rw [o_u1 g2]
      show Except.bind ((Reader.u1 : Decoder Nat) c (pc + 2)) _ = _
      rw [o_u1 g3]
      rfl
    have e : (Reader.s2 : Decoder Int) c (pc + 1) = .ok (Reader.signed 16 (x.toNat * 256 + y.toNat), pc + 3) := by
      show Except.map _ ((Reader.u2 : Decoder Nat) c (pc + 1)) = _
      rw [e0]
      rfl
    show Except.bind ((Reader.s2 : Decoder Int) c (pc + 1)) _ = _
    rw [e]
    rfl
  show Except.bind ((Decoder.instr pc) c pc) _ = _
  rw [h1]
  show Except.ok (_, pc + 3 - pc) = _
  rw [Nat.add_sub_cancel_left]
theorem o_162 {c : ByteArray} {l : List UInt8} {pc : Nat} (x y : UInt8) {v : Int} (hv : Reader.signed 16 (x.toNat * 256 + y.toNat) = v) (hc : c = ⟨⟨l⟩⟩) (h : bk l pc [162, x, y] = true) : decode c pc = .ok (.if_icmp .ge v, 3) := by
  have f1 := bk_e h
  have f2 := bk_e f1.2
  have g1 := (o_get hc pc).trans f1.1
  have g2 := (o_get hc (pc + 1)).trans f2.1
  have f3 := bk_e f2.2
  have g3 := (o_get hc (pc + 2)).trans f3.1
  subst hv
  have h1 : (Decoder.instr pc) c pc = .ok (.if_icmp .ge (Reader.signed 16 (x.toNat * 256 + y.toNat)), pc + 3) := by
    show Except.bind ((Reader.u1 : Decoder Nat) c pc) _ = _
    rw [o_u1 g1]
    have e0 : (Reader.u2 : Decoder Nat) c (pc + 1) = .ok (x.toNat * 256 + y.toNat, pc + 3) := by
      show Except.bind ((Reader.u1 : Decoder Nat) c (pc + 1)) _ = _
      rw [o_u1 g2]
      show Except.bind ((Reader.u1 : Decoder Nat) c (pc + 2)) _ = _
      rw [o_u1 g3]
      rfl
    have e : (Reader.s2 : Decoder Int) c (pc + 1) = .ok (Reader.signed 16 (x.toNat * 256 + y.toNat), pc + 3) := by
      show Except.map _ ((Reader.u2 : Decoder Nat) c (pc + 1)) = _
      rw [e0]
      rfl
    show Except.bind ((Reader.s2 : Decoder Int) c (pc + 1)) _ = _
    rw [e]
    rfl
  show Except.bind ((Decoder.instr pc) c pc) _ = _
  rw [h1]
  show Except.ok (_, pc + 3 - pc) = _
  rw [Nat.add_sub_cancel_left]
theorem o_163 {c : ByteArray} {l : List UInt8} {pc : Nat} (x y : UInt8) {v : Int} (hv : Reader.signed 16 (x.toNat * 256 + y.toNat) = v) (hc : c = ⟨⟨l⟩⟩) (h : bk l pc [163, x, y] = true) : decode c pc = .ok (.if_icmp .gt v, 3) := by
  have f1 := bk_e h
  have f2 := bk_e f1.2
  have g1 := (o_get hc pc).trans f1.1
  have g2 := (o_get hc (pc + 1)).trans f2.1
  have f3 := bk_e f2.2
  have g3 := (o_get hc (pc + 2)).trans f3.1
  subst hv
  have h1 : (Decoder.instr pc) c pc = .ok (.if_icmp .gt (Reader.signed 16 (x.toNat * 256 + y.toNat)), pc + 3) := by
    show Except.bind ((Reader.u1 : Decoder Nat) c pc) _ = _
    rw [o_u1 g1]
    have e0 : (Reader.u2 : Decoder Nat) c (pc + 1) = .ok (x.toNat * 256 + y.toNat, pc + 3) := by
      show Except.bind ((Reader.u1 : Decoder Nat) c (pc + 1)) _ = _
      rw [o_u1 g2]
      show Except.bind ((Reader.u1 : Decoder Nat) c (pc + 2)) _ = _
      rw [o_u1 g3]
      rfl
    have e : (Reader.s2 : Decoder Int) c (pc + 1) = .ok (Reader.signed 16 (x.toNat * 256 + y.toNat), pc + 3) := by
      show Except.map _ ((Reader.u2 : Decoder Nat) c (pc + 1)) = _
      rw [e0]
      rfl
    show Except.bind ((Reader.s2 : Decoder Int) c (pc + 1)) _ = _
    rw [e]
    rfl
  show Except.bind ((Decoder.instr pc) c pc) _ = _
  rw [h1]
  show Except.ok (_, pc + 3 - pc) = _
  rw [Nat.add_sub_cancel_left]
theorem o_164 {c : ByteArray} {l : List UInt8} {pc : Nat} (x y : UInt8) {v : Int} (hv : Reader.signed 16 (x.toNat * 256 + y.toNat) = v) (hc : c = ⟨⟨l⟩⟩) (h : bk l pc [164, x, y] = true) : decode c pc = .ok (.if_icmp .le v, 3) := by
  have f1 := bk_e h
  have f2 := bk_e f1.2
  have g1 := (o_get hc pc).trans f1.1
  have g2 := (o_get hc (pc + 1)).trans f2.1
  have f3 := bk_e f2.2
  have g3 := (o_get hc (pc + 2)).trans f3.1
  subst hv
  have h1 : (Decoder.instr pc) c pc = .ok (.if_icmp .le (Reader.signed 16 (x.toNat * 256 + y.toNat)), pc + 3) := by
    show Except.bind ((Reader.u1 : Decoder Nat) c pc) _ = _
    rw [o_u1 g1]
    have e0 : (Reader.u2 : Decoder Nat) c (pc + 1) = .ok (x.toNat * 256 + y.toNat, pc + 3) := by
      show Except.bind ((Reader.u1 : Decoder Nat) c (pc + 1)) _ = _
      rw [o_u1 g2]
      show Except.bind ((Reader.u1 : Decoder Nat) c (pc + 2)) _ = _
      rw [o_u1 g3]
      rfl
    have e : (Reader.s2 : Decoder Int) c (pc + 1) = .ok (Reader.signed 16 (x.toNat * 256 + y.toNat), pc + 3) := by
      show Except.map _ ((Reader.u2 : Decoder Nat) c (pc + 1)) = _
      rw [e0]
      rfl
    show Except.bind ((Reader.s2 : Decoder Int) c (pc + 1)) _ = _
    rw [e]
    rfl
  show Except.bind ((Decoder.instr pc) c pc) _ = _
  rw [h1]
  show Except.ok (_, pc + 3 - pc) = _
  rw [Nat.add_sub_cancel_left]
theorem o_167 {c : ByteArray} {l : List UInt8} {pc : Nat} (x y : UInt8) {v : Int} (hv : Reader.signed 16 (x.toNat * 256 + y.toNat) = v) (hc : c = ⟨⟨l⟩⟩) (h : bk l pc [167, x, y] = true) : decode c pc = .ok (.goto v, 3) := by
  have f1 := bk_e h
  have f2 := bk_e f1.2
  have g1 := (o_get hc pc).trans f1.1
  have g2 := (o_get hc (pc + 1)).trans f2.1
  have f3 := bk_e f2.2
  have g3 := (o_get hc (pc + 2)).trans f3.1
  subst hv
  have h1 : (Decoder.instr pc) c pc = .ok (.goto (Reader.signed 16 (x.toNat * 256 + y.toNat)), pc + 3) := by
    show Except.bind ((Reader.u1 : Decoder Nat) c pc) _ = _
    rw [o_u1 g1]
    have e0 : (Reader.u2 : Decoder Nat) c (pc + 1) = .ok (x.toNat * 256 + y.toNat, pc + 3) := by
      show Except.bind ((Reader.u1 : Decoder Nat) c (pc + 1)) _ = _
      rw [o_u1 g2]
      show Except.bind ((Reader.u1 : Decoder Nat) c (pc + 2)) _ = _
      rw [o_u1 g3]
      rfl
    have e : (Reader.s2 : Decoder Int) c (pc + 1) = .ok (Reader.signed 16 (x.toNat * 256 + y.toNat), pc + 3) := by
      show Except.map _ ((Reader.u2 : Decoder Nat) c (pc + 1)) = _
      rw [e0]
      rfl
    show Except.bind ((Reader.s2 : Decoder Int) c (pc + 1)) _ = _
    rw [e]
    rfl
  show Except.bind ((Decoder.instr pc) c pc) _ = _
  rw [h1]
  show Except.ok (_, pc + 3 - pc) = _
  rw [Nat.add_sub_cancel_left]
theorem o_172 {c : ByteArray} {l : List UInt8} {pc : Nat} (hc : c = ⟨⟨l⟩⟩) (h : bk l pc [172] = true) : decode c pc = .ok (.ireturn, 1) := by
  have h1 : (Decoder.instr pc) c pc = .ok (.ireturn, pc + 1) := by
    show Except.bind ((Reader.u1 : Decoder Nat) c pc) _ = _
    rw [o_u1 ((o_get hc _).trans (bk_e h).1)]
    rfl
  show Except.bind ((Decoder.instr pc) c pc) _ = _
  rw [h1]
  show Except.ok (_, pc + 1 - pc) = _
  rw [Nat.add_sub_cancel_left]
theorem o_173 {c : ByteArray} {l : List UInt8} {pc : Nat} (hc : c = ⟨⟨l⟩⟩) (h : bk l pc [173] = true) : decode c pc = .ok (.lreturn, 1) := by
  have h1 : (Decoder.instr pc) c pc = .ok (.lreturn, pc + 1) := by
    show Except.bind ((Reader.u1 : Decoder Nat) c pc) _ = _
    rw [o_u1 ((o_get hc _).trans (bk_e h).1)]
    rfl
  show Except.bind ((Decoder.instr pc) c pc) _ = _
  rw [h1]
  show Except.ok (_, pc + 1 - pc) = _
  rw [Nat.add_sub_cancel_left]
theorem o_177 {c : ByteArray} {l : List UInt8} {pc : Nat} (hc : c = ⟨⟨l⟩⟩) (h : bk l pc [177] = true) : decode c pc = .ok (.return_, 1) := by
  have h1 : (Decoder.instr pc) c pc = .ok (.return_, pc + 1) := by
    show Except.bind ((Reader.u1 : Decoder Nat) c pc) _ = _
    rw [o_u1 ((o_get hc _).trans (bk_e h).1)]
    rfl
  show Except.bind ((Decoder.instr pc) c pc) _ = _
  rw [h1]
  show Except.ok (_, pc + 1 - pc) = _
  rw [Nat.add_sub_cancel_left]
theorem o_178 {c : ByteArray} {l : List UInt8} {pc : Nat} (x y : UInt8) (hc : c = ⟨⟨l⟩⟩) (h : bk l pc [178, x, y] = true) : decode c pc = .ok (.getstatic (x.toNat * 256 + y.toNat), 3) := by
  have f1 := bk_e h
  have f2 := bk_e f1.2
  have g1 := (o_get hc pc).trans f1.1
  have g2 := (o_get hc (pc + 1)).trans f2.1
  have f3 := bk_e f2.2
  have g3 := (o_get hc (pc + 2)).trans f3.1
  have h1 : (Decoder.instr pc) c pc = .ok (.getstatic (x.toNat * 256 + y.toNat), pc + 3) := by
    show Except.bind ((Reader.u1 : Decoder Nat) c pc) _ = _
    rw [o_u1 g1]
    show Except.bind (Except.bind ((Reader.u1 : Decoder Nat) c (pc + 1)) _) _ = _
    rw [o_u1 g2]
    show Except.bind (Except.bind ((Reader.u1 : Decoder Nat) c (pc + 2)) _) _ = _
    rw [o_u1 g3]
    rfl
  show Except.bind ((Decoder.instr pc) c pc) _ = _
  rw [h1]
  show Except.ok (_, pc + 3 - pc) = _
  rw [Nat.add_sub_cancel_left]
theorem o_180 {c : ByteArray} {l : List UInt8} {pc : Nat} (x y : UInt8) (hc : c = ⟨⟨l⟩⟩) (h : bk l pc [180, x, y] = true) : decode c pc = .ok (.getfield (x.toNat * 256 + y.toNat), 3) := by
  have f1 := bk_e h
  have f2 := bk_e f1.2
  have g1 := (o_get hc pc).trans f1.1
  have g2 := (o_get hc (pc + 1)).trans f2.1
  have f3 := bk_e f2.2
  have g3 := (o_get hc (pc + 2)).trans f3.1
  have h1 : (Decoder.instr pc) c pc = .ok (.getfield (x.toNat * 256 + y.toNat), pc + 3) := by
    show Except.bind ((Reader.u1 : Decoder Nat) c pc) _ = _
    rw [o_u1 g1]
    show Except.bind (Except.bind ((Reader.u1 : Decoder Nat) c (pc + 1)) _) _ = _
    rw [o_u1 g2]
    show Except.bind (Except.bind ((Reader.u1 : Decoder Nat) c (pc + 2)) _) _ = _
    rw [o_u1 g3]
    rfl
  show Except.bind ((Decoder.instr pc) c pc) _ = _
  rw [h1]
  show Except.ok (_, pc + 3 - pc) = _
  rw [Nat.add_sub_cancel_left]
theorem o_181 {c : ByteArray} {l : List UInt8} {pc : Nat} (x y : UInt8) (hc : c = ⟨⟨l⟩⟩) (h : bk l pc [181, x, y] = true) : decode c pc = .ok (.putfield (x.toNat * 256 + y.toNat), 3) := by
  have f1 := bk_e h
  have f2 := bk_e f1.2
  have g1 := (o_get hc pc).trans f1.1
  have g2 := (o_get hc (pc + 1)).trans f2.1
  have f3 := bk_e f2.2
  have g3 := (o_get hc (pc + 2)).trans f3.1
  have h1 : (Decoder.instr pc) c pc = .ok (.putfield (x.toNat * 256 + y.toNat), pc + 3) := by
    show Except.bind ((Reader.u1 : Decoder Nat) c pc) _ = _
    rw [o_u1 g1]
    show Except.bind (Except.bind ((Reader.u1 : Decoder Nat) c (pc + 1)) _) _ = _
    rw [o_u1 g2]
    show Except.bind (Except.bind ((Reader.u1 : Decoder Nat) c (pc + 2)) _) _ = _
    rw [o_u1 g3]
    rfl
  show Except.bind ((Decoder.instr pc) c pc) _ = _
  rw [h1]
  show Except.ok (_, pc + 3 - pc) = _
  rw [Nat.add_sub_cancel_left]
theorem o_182 {c : ByteArray} {l : List UInt8} {pc : Nat} (x y : UInt8) (hc : c = ⟨⟨l⟩⟩) (h : bk l pc [182, x, y] = true) : decode c pc = .ok (.invokevirtual (x.toNat * 256 + y.toNat), 3) := by
  have f1 := bk_e h
  have f2 := bk_e f1.2
  have g1 := (o_get hc pc).trans f1.1
  have g2 := (o_get hc (pc + 1)).trans f2.1
  have f3 := bk_e f2.2
  have g3 := (o_get hc (pc + 2)).trans f3.1
  have h1 : (Decoder.instr pc) c pc = .ok (.invokevirtual (x.toNat * 256 + y.toNat), pc + 3) := by
    show Except.bind ((Reader.u1 : Decoder Nat) c pc) _ = _
    rw [o_u1 g1]
    show Except.bind (Except.bind ((Reader.u1 : Decoder Nat) c (pc + 1)) _) _ = _
    rw [o_u1 g2]
    show Except.bind (Except.bind ((Reader.u1 : Decoder Nat) c (pc + 2)) _) _ = _
    rw [o_u1 g3]
    rfl
  show Except.bind ((Decoder.instr pc) c pc) _ = _
  rw [h1]
  show Except.ok (_, pc + 3 - pc) = _
  rw [Nat.add_sub_cancel_left]
theorem o_183 {c : ByteArray} {l : List UInt8} {pc : Nat} (x y : UInt8) (hc : c = ⟨⟨l⟩⟩) (h : bk l pc [183, x, y] = true) : decode c pc = .ok (.invokespecial (x.toNat * 256 + y.toNat), 3) := by
  have f1 := bk_e h
  have f2 := bk_e f1.2
  have g1 := (o_get hc pc).trans f1.1
  have g2 := (o_get hc (pc + 1)).trans f2.1
  have f3 := bk_e f2.2
  have g3 := (o_get hc (pc + 2)).trans f3.1
  have h1 : (Decoder.instr pc) c pc = .ok (.invokespecial (x.toNat * 256 + y.toNat), pc + 3) := by
    show Except.bind ((Reader.u1 : Decoder Nat) c pc) _ = _
    rw [o_u1 g1]
    show Except.bind (Except.bind ((Reader.u1 : Decoder Nat) c (pc + 1)) _) _ = _
    rw [o_u1 g2]
    show Except.bind (Except.bind ((Reader.u1 : Decoder Nat) c (pc + 2)) _) _ = _
    rw [o_u1 g3]
    rfl
  show Except.bind ((Decoder.instr pc) c pc) _ = _
  rw [h1]
  show Except.ok (_, pc + 3 - pc) = _
  rw [Nat.add_sub_cancel_left]
theorem o_184 {c : ByteArray} {l : List UInt8} {pc : Nat} (x y : UInt8) (hc : c = ⟨⟨l⟩⟩) (h : bk l pc [184, x, y] = true) : decode c pc = .ok (.invokestatic (x.toNat * 256 + y.toNat), 3) := by
  have f1 := bk_e h
  have f2 := bk_e f1.2
  have g1 := (o_get hc pc).trans f1.1
  have g2 := (o_get hc (pc + 1)).trans f2.1
  have f3 := bk_e f2.2
  have g3 := (o_get hc (pc + 2)).trans f3.1
  have h1 : (Decoder.instr pc) c pc = .ok (.invokestatic (x.toNat * 256 + y.toNat), pc + 3) := by
    show Except.bind ((Reader.u1 : Decoder Nat) c pc) _ = _
    rw [o_u1 g1]
    show Except.bind (Except.bind ((Reader.u1 : Decoder Nat) c (pc + 1)) _) _ = _
    rw [o_u1 g2]
    show Except.bind (Except.bind ((Reader.u1 : Decoder Nat) c (pc + 2)) _) _ = _
    rw [o_u1 g3]
    rfl
  show Except.bind ((Decoder.instr pc) c pc) _ = _
  rw [h1]
  show Except.ok (_, pc + 3 - pc) = _
  rw [Nat.add_sub_cancel_left]
theorem o_187 {c : ByteArray} {l : List UInt8} {pc : Nat} (x y : UInt8) (hc : c = ⟨⟨l⟩⟩) (h : bk l pc [187, x, y] = true) : decode c pc = .ok (.new (x.toNat * 256 + y.toNat), 3) := by
  have f1 := bk_e h
  have f2 := bk_e f1.2
  have g1 := (o_get hc pc).trans f1.1
  have g2 := (o_get hc (pc + 1)).trans f2.1
  have f3 := bk_e f2.2
  have g3 := (o_get hc (pc + 2)).trans f3.1
  have h1 : (Decoder.instr pc) c pc = .ok (.new (x.toNat * 256 + y.toNat), pc + 3) := by
    show Except.bind ((Reader.u1 : Decoder Nat) c pc) _ = _
    rw [o_u1 g1]
    show Except.bind (Except.bind ((Reader.u1 : Decoder Nat) c (pc + 1)) _) _ = _
    rw [o_u1 g2]
    show Except.bind (Except.bind ((Reader.u1 : Decoder Nat) c (pc + 2)) _) _ = _
    rw [o_u1 g3]
    rfl
  show Except.bind ((Decoder.instr pc) c pc) _ = _
  rw [h1]
  show Except.ok (_, pc + 3 - pc) = _
  rw [Nat.add_sub_cancel_left]
theorem o_190 {c : ByteArray} {l : List UInt8} {pc : Nat} (hc : c = ⟨⟨l⟩⟩) (h : bk l pc [190] = true) : decode c pc = .ok (.arraylength, 1) := by
  have h1 : (Decoder.instr pc) c pc = .ok (.arraylength, pc + 1) := by
    show Except.bind ((Reader.u1 : Decoder Nat) c pc) _ = _
    rw [o_u1 ((o_get hc _).trans (bk_e h).1)]
    rfl
  show Except.bind ((Decoder.instr pc) c pc) _ = _
  rw [h1]
  show Except.ok (_, pc + 1 - pc) = _
  rw [Nat.add_sub_cancel_left]
theorem o_191 {c : ByteArray} {l : List UInt8} {pc : Nat} (hc : c = ⟨⟨l⟩⟩) (h : bk l pc [191] = true) : decode c pc = .ok (.athrow, 1) := by
  have h1 : (Decoder.instr pc) c pc = .ok (.athrow, pc + 1) := by
    show Except.bind ((Reader.u1 : Decoder Nat) c pc) _ = _
    rw [o_u1 ((o_get hc _).trans (bk_e h).1)]
    rfl
  show Except.bind ((Decoder.instr pc) c pc) _ = _
  rw [h1]
  show Except.ok (_, pc + 1 - pc) = _
  rw [Nat.add_sub_cancel_left]
