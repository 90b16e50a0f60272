theorem kI_0 : Int32.ofInt (0) = (0 : Int32) := by decide +kernel
theorem kI_1 : Int32.ofInt (1) = (1 : Int32) := by decide +kernel
theorem kc_J6_265 : Cond.constant RJ6 265 (1431655765) ∈ WL := wl (by decide +kernel) rfl
theorem kc_J6_266 : Cond.constant RJ6 266 (858993459) ∈ WL := wl (by decide +kernel) rfl
theorem kI_2 : Int32.ofInt (2) = (2 : Int32) := by decide +kernel
theorem kI_4 : Int32.ofInt (4) = (4 : Int32) := by decide +kernel
theorem kc_J6_267 : Cond.constant RJ6 267 (252645135) ∈ WL := wl (by decide +kernel) rfl
theorem kB_8 : (Int8.ofInt (8)).toInt32 = (8 : Int32) := by decide +kernel
theorem kB_16 : (Int8.ofInt (16)).toInt32 = (16 : Int32) := by decide +kernel
theorem kB_63 : (Int8.ofInt (63)).toInt32 = (63 : Int32) := by decide +kernel
theorem kI_m1 : Int32.ofInt (-1) = (-1 : Int32) := by decide +kernel
theorem kc_J6_264 : Cond.constant RJ6 264 (65536) ∈ WL := wl (by decide +kernel) rfl
theorem kS_256 : (Int16.ofInt (256)).toInt32 = (256 : Int32) := by decide +kernel
theorem kI_8 : Int32.ofInt (8) = (8 : Int32) := by decide +kernel
theorem kI_16 : Int32.ofInt (16) = (16 : Int32) := by decide +kernel
theorem kB_32 : (Int8.ofInt (32)).toInt32 = (32 : Int32) := by decide +kernel
theorem fl_J0_1053 : Cond.fieldLink RJ0 1053 "jdk/internal/util/Preconditions" "SIOOBE_FORMATTER" "Ljava/util/function/BiFunction;" ∈ WL := wl (by decide +kernel) rfl
theorem sk_J3_checkIndex_8e157 : SOK yJ3_checkIndex_8e157 cJ3_checkIndex_8e157 3 (some .int) 3 := sok_of (by decide +kernel)
theorem ml_J0_1059 : Cond.methodLink RJ0 1059 yJ3_checkIndex_8e157 ∈ WL := wl (by decide +kernel) rfl
theorem fl_J0_38 : Cond.fieldLink RJ0 38 "java/lang/String" "COMPACT_STRINGS" "Z" ∈ WL := wl (by decide +kernel) rfl
theorem fl_J0_15 : Cond.fieldLink RJ0 15 "java/lang/String" "coder" "B" ∈ WL := wl (by decide +kernel) rfl
theorem fl_J0_9 : Cond.fieldLink RJ0 9 "java/lang/String" "value" "[B" ∈ WL := wl (by decide +kernel) rfl
theorem kN_57 : Int32.ofNat 57 = (57 : Int32) := by decide +kernel
theorem vk_J0_coder_7d493 : VOK yJ0_coder_7d493 cJ0_coder_7d493 1 (some .byte) 0 := vok_of (by decide +kernel)
theorem ml_J0_335 : Cond.methodLink RJ0 335 yJ0_coder_7d493 ∈ WL := wl (by decide +kernel) rfl
theorem kN_8 : Int32.ofNat 8 = (8 : Int32) := by decide +kernel
theorem sk_J0_checkIndex_df160 : SOK yJ0_checkIndex_df160 cJ0_checkIndex_df160 2 none 2 := sok_of (by decide +kernel)
theorem ml_J1_9 : Cond.methodLink RJ1 9 yJ0_checkIndex_df160 ∈ WL := wl (by decide +kernel) rfl
theorem kS_255 : (Int16.ofInt (255)).toInt32 = (255 : Int32) := by decide +kernel
theorem kN_72 : Int32.ofNat 72 = (72 : Int32) := by decide +kernel
theorem vk_J0_isLatin1_aae02 : VOK yJ0_isLatin1_aae02 cJ0_isLatin1_aae02 1 (some .boolean) 0 := vok_of (by decide +kernel)
theorem ml_J0_492 : Cond.methodLink RJ0 492 yJ0_isLatin1_aae02 ∈ WL := wl (by decide +kernel) rfl
theorem sk_J1_charAt_3b067 : SOK yJ1_charAt_3b067 cJ1_charAt_3b067 2 (some .char) 2 := sok_of (by decide +kernel)
theorem ml_J0_495 : Cond.methodLink RJ0 495 yJ1_charAt_3b067 ∈ WL := wl (by decide +kernel) rfl
theorem sk_J1_canEncode_9a6ad : SOK yJ1_canEncode_9a6ad cJ1_canEncode_9a6ad 1 (some .boolean) 1 := sok_of (by decide +kernel)
theorem ml_J1_88 : Cond.methodLink RJ1 88 yJ1_canEncode_9a6ad ∈ WL := wl (by decide +kernel) rfl
theorem ml_J1_92 : Cond.methodLink RJ1 92 Lib.Math.max.name ∈ WL := wl (by decide +kernel) rfl
theorem mS_max : Cond.static Lib.Math.max.name ∈ WL := wl (by decide +kernel) rfl
theorem mI_math : Cond.initialized "java/lang/Math" ∈ WL := wl (by decide +kernel) rfl
theorem mC_max : Cond.code Lib.Math.max.name Lib.Math.max.code 2 (some .int) ∈ WL := wl (by decide +kernel) rfl
theorem ml_J1_38 : Cond.methodLink RJ1 38 Lib.Math.min.name ∈ WL := wl (by decide +kernel) rfl
theorem mS_min : Cond.static Lib.Math.min.name ∈ WL := wl (by decide +kernel) rfl
theorem mC_min : Cond.code Lib.Math.min.name Lib.Math.min.code 2 (some .int) ∈ WL := wl (by decide +kernel) rfl
theorem sk_J1_indexOfChar_4cfef : SOK yJ1_indexOfChar_4cfef cJ1_indexOfChar_4cfef 6 (some .int) 4 := sok_of (by decide +kernel)
theorem ml_J1_95 : Cond.methodLink RJ1 95 yJ1_indexOfChar_4cfef ∈ WL := wl (by decide +kernel) rfl
theorem vk_J0_length_8abf5 : VOK yJ0_length_8abf5 cJ0_length_8abf5 1 (some .int) 0 := vok_of (by decide +kernel)
theorem ml_J0_505 : Cond.methodLink RJ0 505 yJ0_length_8abf5 ∈ WL := wl (by decide +kernel) rfl
theorem sk_J1_indexOf_4cfef : SOK yJ1_indexOf_4cfef cJ1_indexOf_4cfef 4 (some .int) 4 := sok_of (by decide +kernel)
theorem ml_J0_637 : Cond.methodLink RJ0 637 yJ1_indexOf_4cfef ∈ WL := wl (by decide +kernel) rfl
theorem vk_J0_indexOf_7cf53 : VOK yJ0_indexOf_7cf53 cJ0_indexOf_7cf53 3 (some .int) 2 := vok_of (by decide +kernel)
theorem ml_J0_633 : Cond.methodLink RJ0 633 yJ0_indexOf_7cf53 ∈ WL := wl (by decide +kernel) rfl
abbrev rm_J7_fill_53178 : Room := { frames := 1, cells := 0, slots := 0, locals := 60 }
set_option maxRecDepth 100000 in
theorem t_J7_fill_53178 (l : Launch) (v : Ev) (N : Nat) (qc nc : Nat) (hq : ∀ g : Sg, (zW v g)[qc]? = some (zA v qc, .inl (zC v 0, nc, .inl (g qc)))) (hqs : ∀ (g : Sg) (F : Nat → Int32), (zW v g).set qc (zA v qc, .inl (zC v 0, nc, .inl F)) = zW v (up g qc F)) (a1 : Int32) (g : Sg) (res : Sg) (hf : x_J7_fill_53178 N qc nc a1 g = some res) : Cv l yJ7_fill_53178 cJ7_fill_53178 4 rm_J7_fill_53178 pX v [.ref (zA v qc), .int a1] g res := by
  refine ze_v (by decide +kernel) (Nat.le_of_ble_eq_true rfl) ?_
  intro p e s m args below meth c Q ls hcx hret hP hl
  obtain ⟨hx, hb, hml, hown, hts, hk⟩ := hcx
  have hown : s.vm.findClass RJ7 = some m.cls := hown
  have hS : va_S (An nX v) s.heap s.heap [] := va_S.rf
  have hl : lv_has ls 4 [(0, .ref (zA v qc)), (1, .int a1)] := hl
  have wL5 : ∀ (n : Nat) (x : Int32 × Int32 × Int32 × Sg), lp (x_J7_fill_53178_B5 N qc nc) n x = some res → ∀ (H : Heap) (locs : List Loc) (ls : Array Slot), va_P (zD v) vwCl (pX.1 v x.2.2.2) H → va_S (An nX v) s.heap H locs → lv_has ls 4 [(0, .ref (zA v qc)), (1, .int x.1), (2, .int x.2.1), (3, .int x.2.2.1)] → W p l e rm_J7_fill_53178 s m args below meth c H locs 0 0 Q (F0 m 5 ls []) := by
    refine lp_w (P := fun x : Int32 × Int32 × Int32 × Sg => ∀ (H : Heap) (locs : List Loc) (ls : Array Slot), va_P (zD v) vwCl (pX.1 v x.2.2.2) H → va_S (An nX v) s.heap H locs → lv_has ls 4 [(0, .ref (zA v qc)), (1, .int x.1), (2, .int x.2.1), (3, .int x.2.2.1)] → W p l e rm_J7_fill_53178 s m args below meth c H locs 0 0 Q (F0 m 5 ls [])) ?_
    intro h5 hh5 x hf H locs ls hP hS hl
    unfold x_J7_fill_53178_B5 at hf
    refine lv_iload_n hx hb dJ7_fill_53178_5 rfl (lv_at hl 2 rfl) ?_
    refine lv_iload_n hx hb dJ7_fill_53178_6 rfl (lv_at hl 3 rfl) ?_
    refine lv_icmp_ge (tgt := 20) hx hb dJ7_fill_53178_7 (by decide) (fun c2 => ?_) (fun c2 => ?_)
    · have hf := ite_t c2 hf
      exact hret _ _ _ _ _ (Option.some.inj hf) hP hS dJ7_fill_53178_20
    · have hf := ite_f c2 hf
      refine lv_aload_n hx hb dJ7_fill_53178_10 rfl (lv_at hl 0 rfl) ?_
      refine lv_iload_n hx hb dJ7_fill_53178_11 rfl (lv_at hl 2 rfl) ?_
      refine lv_iload_n hx hb dJ7_fill_53178_12 rfl (lv_at hl 1 rfl) ?_
      obtain ⟨c3, hf⟩ := gd_e hf
      refine va_iast hx hb hk.1 hP (zw_D okX hk _) hS qc 0 (hq x.2.2.2) rfl (inb_in c3) dJ7_fill_53178_13 (fun H locs hP1 _ hS => ?_)
      have hP : va_P (zD v) vwCl (pX.1 v (up x.2.2.2 qc (upd (x.2.2.2 qc) (x.2.1).toNatClampNeg x.1))) H := by rw [hqs x.2.2.2 _] at hP1; exact hP1
      obtain ⟨g4, eg4, hf⟩ := lt_e hf
      rw [← eg4] at hP
      obtain ⟨x5, ex5, hf⟩ := lt_e hf
      refine lv_iinc (v := x5) (lv' := [(2, .int x5), (0, .ref (zA v qc)), (1, .int x.1), (3, .int x.2.2.1)]) hx hb dJ7_fill_53178_14 hl (k := 2) rfl ((congrArg (fun z => x.2.1 + z) kI_1).trans ex5.symm) (by decide) rfl (fun ls hl => ?_)
      refine lv_goto (tgt := 5) hx hb dJ7_fill_53178_17 (by decide) ?_
      exact hh5 (x.1, x5, x.2.2.1, g4) hf _ _ _ hP hS (lv_sub hl [1, 2, 0, 3] rfl)
  unfold x_J7_fill_53178 at hf
  refine lv_iconst (v := 0) hx hb dJ7_fill_53178_0 kI_0 ?_
  refine lv_istore_n (lv' := [(2, .int (0 : Int32)), (0, .ref (zA v qc)), (1, .int a1)]) hx hb dJ7_fill_53178_1 rfl hl (by decide) rfl (fun ls hl => ?_)
  refine lv_aload_n hx hb dJ7_fill_53178_2 rfl (lv_at hl 1 rfl) ?_
  refine va_alen hx hb hk.1 hP qc 0 (hq g) rfl rfl dJ7_fill_53178_3 ?_
  obtain ⟨x1, ex1, hf⟩ := lt_e hf
  refine lv_nm ex1 ?_
  refine lv_istore_n (lv' := [(3, .int x1), (2, .int (0 : Int32)), (0, .ref (zA v qc)), (1, .int a1)]) hx hb dJ7_fill_53178_4 rfl hl (by decide) rfl (fun ls hl => ?_)
  exact wL5 N (a1, (0 : Int32), x1, g) hf _ _ _ hP hS (lv_sub hl [2, 3, 1, 0] rfl)
abbrev rm_J6_bitCount_0f7a4 : Room := { frames := 1, cells := 0, slots := 0, locals := 60 }
set_option maxRecDepth 100000 in
theorem t_J6_bitCount_0f7a4 (l : Launch) (v : Ev) (N : Nat) (a0 : Int32) (g : Sg) (res : Int32 × Sg) (hf : x_J6_bitCount_0f7a4 N a0 g = some res) : Ci l yJ6_bitCount_0f7a4 cJ6_bitCount_0f7a4 1 .int rm_J6_bitCount_0f7a4 pX v [.int a0] g res := by
  refine ze_i (by decide +kernel) (Nat.le_of_ble_eq_true rfl) ?_
  intro p e s m args below meth c Q ls hcx hret hP hl
  obtain ⟨hx, hb, hml, hown, hts, hk⟩ := hcx
  have hown : s.vm.findClass RJ6 = some m.cls := hown
  have hS : va_S (An nX v) s.heap s.heap [] := va_S.rf
  have hl : lv_has ls 1 [(0, .int a0)] := hl
  unfold x_J6_bitCount_0f7a4 at hf
  refine lv_iload_n hx hb dJ6_bitCount_0f7a4_0 rfl (lv_at hl 0 rfl) ?_
  refine lv_iload_n hx hb dJ6_bitCount_0f7a4_1 rfl (lv_at hl 0 rfl) ?_
  refine lv_iconst (v := 1) hx hb dJ6_bitCount_0f7a4_2 kI_1 ?_
  refine lv_iushr hx hb dJ6_bitCount_0f7a4_3 rfl ?_
  refine lv_ldcw (v := 1431655765) hx hb hown (hts _ kc_J6_265) dJ6_bitCount_0f7a4_4 ?_
  refine lv_iand hx hb dJ6_bitCount_0f7a4_7 ?_
  refine lv_isub hx hb dJ6_bitCount_0f7a4_8 ?_
  obtain ⟨x1, ex1, hf⟩ := lt_e hf
  refine lv_nm ex1 ?_
  refine lv_istore_n (lv' := [(0, .int x1)]) hx hb dJ6_bitCount_0f7a4_9 rfl hl (by decide) rfl (fun ls hl => ?_)
  refine lv_iload_n hx hb dJ6_bitCount_0f7a4_10 rfl (lv_at hl 0 rfl) ?_
  refine lv_ldcw (v := 858993459) hx hb hown (hts _ kc_J6_266) dJ6_bitCount_0f7a4_11 ?_
  refine lv_iand hx hb dJ6_bitCount_0f7a4_14 ?_
  refine lv_iload_n hx hb dJ6_bitCount_0f7a4_15 rfl (lv_at hl 0 rfl) ?_
  refine lv_iconst (v := 2) hx hb dJ6_bitCount_0f7a4_16 kI_2 ?_
  refine lv_iushr hx hb dJ6_bitCount_0f7a4_17 rfl ?_
  refine lv_ldcw (v := 858993459) hx hb hown (hts _ kc_J6_266) dJ6_bitCount_0f7a4_18 ?_
  refine lv_iand hx hb dJ6_bitCount_0f7a4_21 ?_
  refine lv_iadd hx hb dJ6_bitCount_0f7a4_22 ?_
  obtain ⟨x2, ex2, hf⟩ := lt_e hf
  refine lv_nm ex2 ?_
  refine lv_istore_n (lv' := [(0, .int x2)]) hx hb dJ6_bitCount_0f7a4_23 rfl hl (by decide) rfl (fun ls hl => ?_)
  refine lv_iload_n hx hb dJ6_bitCount_0f7a4_24 rfl (lv_at hl 0 rfl) ?_
  refine lv_iload_n hx hb dJ6_bitCount_0f7a4_25 rfl (lv_at hl 0 rfl) ?_
  refine lv_iconst (v := 4) hx hb dJ6_bitCount_0f7a4_26 kI_4 ?_
  refine lv_iushr hx hb dJ6_bitCount_0f7a4_27 rfl ?_
  refine lv_iadd hx hb dJ6_bitCount_0f7a4_28 ?_
  refine lv_ldcw (v := 252645135) hx hb hown (hts _ kc_J6_267) dJ6_bitCount_0f7a4_29 ?_
  refine lv_iand hx hb dJ6_bitCount_0f7a4_32 ?_
  obtain ⟨x3, ex3, hf⟩ := lt_e hf
  refine lv_nm ex3 ?_
  refine lv_istore_n (lv' := [(0, .int x3)]) hx hb dJ6_bitCount_0f7a4_33 rfl hl (by decide) rfl (fun ls hl => ?_)
  refine lv_iload_n hx hb dJ6_bitCount_0f7a4_34 rfl (lv_at hl 0 rfl) ?_
  refine lv_iload_n hx hb dJ6_bitCount_0f7a4_35 rfl (lv_at hl 0 rfl) ?_
  refine lv_bipush (v := 8) hx hb dJ6_bitCount_0f7a4_36 kB_8 ?_
  refine lv_iushr hx hb dJ6_bitCount_0f7a4_38 rfl ?_
  refine lv_iadd hx hb dJ6_bitCount_0f7a4_39 ?_
  obtain ⟨x4, ex4, hf⟩ := lt_e hf
  refine lv_nm ex4 ?_
  refine lv_istore_n (lv' := [(0, .int x4)]) hx hb dJ6_bitCount_0f7a4_40 rfl hl (by decide) rfl (fun ls hl => ?_)
  refine lv_iload_n hx hb dJ6_bitCount_0f7a4_41 rfl (lv_at hl 0 rfl) ?_
  refine lv_iload_n hx hb dJ6_bitCount_0f7a4_42 rfl (lv_at hl 0 rfl) ?_
  refine lv_bipush (v := 16) hx hb dJ6_bitCount_0f7a4_43 kB_16 ?_
  refine lv_iushr hx hb dJ6_bitCount_0f7a4_45 rfl ?_
  refine lv_iadd hx hb dJ6_bitCount_0f7a4_46 ?_
  obtain ⟨x5, ex5, hf⟩ := lt_e hf
  refine lv_nm ex5 ?_
  refine lv_istore_n (lv' := [(0, .int x5)]) hx hb dJ6_bitCount_0f7a4_47 rfl hl (by decide) rfl (fun ls hl => ?_)
  refine lv_iload_n hx hb dJ6_bitCount_0f7a4_48 rfl (lv_at hl 0 rfl) ?_
  refine lv_bipush (v := 63) hx hb dJ6_bitCount_0f7a4_49 kB_63 ?_
  refine lv_iand hx hb dJ6_bitCount_0f7a4_51 ?_
  exact hret _ _ _ _ _ _ (Or.inl rfl) (Option.some.inj hf) hP hS dJ6_bitCount_0f7a4_52
abbrev rm_J6_numberOfTrailingZeros_0f7a4 : Room := { frames := 1, cells := 0, slots := 0, locals := 60 }
set_option maxRecDepth 100000 in
theorem t_J6_numberOfTrailingZeros_0f7a4 (l : Launch) (v : Ev) (N : Nat) (a0 : Int32) (g : Sg) (res : Int32 × Sg) (hf : x_J6_numberOfTrailingZeros_0f7a4 N a0 g = some res) : Ci l yJ6_numberOfTrailingZeros_0f7a4 cJ6_numberOfTrailingZeros_0f7a4 2 .int rm_J6_numberOfTrailingZeros_0f7a4 pX v [.int a0] g res := by
  refine ze_i (by decide +kernel) (Nat.le_of_ble_eq_true rfl) ?_
  intro p e s m args below meth c Q ls hcx hret hP hl
  obtain ⟨hx, hb, hml, hown, hts, hk⟩ := hcx
  have hown : s.vm.findClass RJ6 = some m.cls := hown
  have hS : va_S (An nX v) s.heap s.heap [] := va_S.rf
  have hl : lv_has ls 2 [(0, .int a0)] := hl
  have wb74 : ∀ (y0 : Int32) (y1 : Int32) (g : Sg) (hf : x_J6_numberOfTrailingZeros_0f7a4_b74 N y0 y1 g = some res) (H : Heap) (locs : List Loc) (ls : Array Slot) (hP : va_P (zD v) vwCl (pX.1 v g) H) (hS : va_S (An nX v) s.heap H locs) (hl : lv_has ls 2 [(0, .int y0), (1, .int y1)]), W p l e rm_J6_numberOfTrailingZeros_0f7a4 s m args below meth c H locs 0 0 Q (F0 m 74 ls []) := by
    intro y0 y1 g hf H locs ls hP hS hl
    unfold x_J6_numberOfTrailingZeros_0f7a4_b74 at hf
    refine lv_iload_n hx hb dJ6_numberOfTrailingZeros_0f7a4_74 rfl (lv_at hl 1 rfl) ?_
    refine lv_iload_n hx hb dJ6_numberOfTrailingZeros_0f7a4_75 rfl (lv_at hl 0 rfl) ?_
    refine lv_iconst (v := 1) hx hb dJ6_numberOfTrailingZeros_0f7a4_76 kI_1 ?_
    refine lv_iushr hx hb dJ6_numberOfTrailingZeros_0f7a4_77 rfl ?_
    refine lv_iadd hx hb dJ6_numberOfTrailingZeros_0f7a4_78 ?_
    exact hret _ _ _ _ _ _ (Or.inl rfl) (Option.some.inj hf) hP hS dJ6_numberOfTrailingZeros_0f7a4_79
  have wb62 : ∀ (y0 : Int32) (y1 : Int32) (g : Sg) (hf : x_J6_numberOfTrailingZeros_0f7a4_b62 N y0 y1 g = some res) (H : Heap) (locs : List Loc) (ls : Array Slot) (hP : va_P (zD v) vwCl (pX.1 v g) H) (hS : va_S (An nX v) s.heap H locs) (hl : lv_has ls 2 [(0, .int y0), (1, .int y1)]), W p l e rm_J6_numberOfTrailingZeros_0f7a4 s m args below meth c H locs 0 0 Q (F0 m 62 ls []) := by
    intro y0 y1 g hf H locs ls hP hS hl
    unfold x_J6_numberOfTrailingZeros_0f7a4_b62 at hf
    refine lv_iload_n hx hb dJ6_numberOfTrailingZeros_0f7a4_62 rfl (lv_at hl 0 rfl) ?_
    refine lv_iconst (v := 4) hx hb dJ6_numberOfTrailingZeros_0f7a4_63 kI_4 ?_
    refine lv_icmp_le (tgt := 74) hx hb dJ6_numberOfTrailingZeros_0f7a4_64 (by decide) (fun c6 => ?_) (fun c6 => ?_)
    · have hf := ite_t c6 hf
      exact wb74 y0 y1 g hf _ _ _ hP hS (lv_sub hl [0, 1] rfl)
    · have hf := ite_f c6 hf
      obtain ⟨x7, ex7, hf⟩ := lt_e hf
      refine lv_iinc (v := x7) (lv' := [(1, .int x7), (0, .int y0)]) hx hb dJ6_numberOfTrailingZeros_0f7a4_67 hl (k := 1) rfl ((congrArg (fun z => y1 + z) kI_2).trans ex7.symm) (by decide) rfl (fun ls hl => ?_)
      refine lv_iload_n hx hb dJ6_numberOfTrailingZeros_0f7a4_70 rfl (lv_at hl 1 rfl) ?_
      refine lv_iconst (v := 2) hx hb dJ6_numberOfTrailingZeros_0f7a4_71 kI_2 ?_
      refine lv_iushr hx hb dJ6_numberOfTrailingZeros_0f7a4_72 rfl ?_
      obtain ⟨x8, ex8, hf⟩ := lt_e hf
      refine lv_nm ex8 ?_
      refine lv_istore_n (lv' := [(0, .int x8), (1, .int x7)]) hx hb dJ6_numberOfTrailingZeros_0f7a4_73 rfl hl (by decide) rfl (fun ls hl => ?_)
      exact wb74 x8 x7 g hf _ _ _ hP hS (lv_sub hl [0, 1] rfl)
  have wb49 : ∀ (y0 : Int32) (y1 : Int32) (g : Sg) (hf : x_J6_numberOfTrailingZeros_0f7a4_b49 N y0 y1 g = some res) (H : Heap) (locs : List Loc) (ls : Array Slot) (hP : va_P (zD v) vwCl (pX.1 v g) H) (hS : va_S (An nX v) s.heap H locs) (hl : lv_has ls 2 [(0, .int y0), (1, .int y1)]), W p l e rm_J6_numberOfTrailingZeros_0f7a4 s m args below meth c H locs 0 0 Q (F0 m 49 ls []) := by
    intro y0 y1 g hf H locs ls hP hS hl
    unfold x_J6_numberOfTrailingZeros_0f7a4_b49 at hf
    refine lv_iload_n hx hb dJ6_numberOfTrailingZeros_0f7a4_49 rfl (lv_at hl 0 rfl) ?_
    refine lv_bipush (v := 16) hx hb dJ6_numberOfTrailingZeros_0f7a4_50 kB_16 ?_
    refine lv_icmp_le (tgt := 62) hx hb dJ6_numberOfTrailingZeros_0f7a4_52 (by decide) (fun c5 => ?_) (fun c5 => ?_)
    · have hf := ite_t c5 hf
      exact wb62 y0 y1 g hf _ _ _ hP hS (lv_sub hl [0, 1] rfl)
    · have hf := ite_f c5 hf
      obtain ⟨x9, ex9, hf⟩ := lt_e hf
      refine lv_iinc (v := x9) (lv' := [(1, .int x9), (0, .int y0)]) hx hb dJ6_numberOfTrailingZeros_0f7a4_55 hl (k := 1) rfl ((congrArg (fun z => y1 + z) kI_4).trans ex9.symm) (by decide) rfl (fun ls hl => ?_)
      refine lv_iload_n hx hb dJ6_numberOfTrailingZeros_0f7a4_58 rfl (lv_at hl 1 rfl) ?_
      refine lv_iconst (v := 4) hx hb dJ6_numberOfTrailingZeros_0f7a4_59 kI_4 ?_
      refine lv_iushr hx hb dJ6_numberOfTrailingZeros_0f7a4_60 rfl ?_
      obtain ⟨x10, ex10, hf⟩ := lt_e hf
      refine lv_nm ex10 ?_
      refine lv_istore_n (lv' := [(0, .int x10), (1, .int x9)]) hx hb dJ6_numberOfTrailingZeros_0f7a4_61 rfl hl (by decide) rfl (fun ls hl => ?_)
      exact wb62 x10 x9 g hf _ _ _ hP hS (lv_sub hl [0, 1] rfl)
  have wb34 : ∀ (y0 : Int32) (y1 : Int32) (g : Sg) (hf : x_J6_numberOfTrailingZeros_0f7a4_b34 N y0 y1 g = some res) (H : Heap) (locs : List Loc) (ls : Array Slot) (hP : va_P (zD v) vwCl (pX.1 v g) H) (hS : va_S (An nX v) s.heap H locs) (hl : lv_has ls 2 [(0, .int y0), (1, .int y1)]), W p l e rm_J6_numberOfTrailingZeros_0f7a4 s m args below meth c H locs 0 0 Q (F0 m 34 ls []) := by
    intro y0 y1 g hf H locs ls hP hS hl
    unfold x_J6_numberOfTrailingZeros_0f7a4_b34 at hf
    refine lv_iload_n hx hb dJ6_numberOfTrailingZeros_0f7a4_34 rfl (lv_at hl 0 rfl) ?_
    refine lv_sipush (v := 256) hx hb dJ6_numberOfTrailingZeros_0f7a4_35 kS_256 ?_
    refine lv_icmp_le (tgt := 49) hx hb dJ6_numberOfTrailingZeros_0f7a4_38 (by decide) (fun c4 => ?_) (fun c4 => ?_)
    · have hf := ite_t c4 hf
      exact wb49 y0 y1 g hf _ _ _ hP hS (lv_sub hl [0, 1] rfl)
    · have hf := ite_f c4 hf
      obtain ⟨x11, ex11, hf⟩ := lt_e hf
      refine lv_iinc (v := x11) (lv' := [(1, .int x11), (0, .int y0)]) hx hb dJ6_numberOfTrailingZeros_0f7a4_41 hl (k := 1) rfl ((congrArg (fun z => y1 + z) kI_8).trans ex11.symm) (by decide) rfl (fun ls hl => ?_)
      refine lv_iload_n hx hb dJ6_numberOfTrailingZeros_0f7a4_44 rfl (lv_at hl 1 rfl) ?_
      refine lv_bipush (v := 8) hx hb dJ6_numberOfTrailingZeros_0f7a4_45 kB_8 ?_
      refine lv_iushr hx hb dJ6_numberOfTrailingZeros_0f7a4_47 rfl ?_
      obtain ⟨x12, ex12, hf⟩ := lt_e hf
      refine lv_nm ex12 ?_
      refine lv_istore_n (lv' := [(0, .int x12), (1, .int x11)]) hx hb dJ6_numberOfTrailingZeros_0f7a4_48 rfl hl (by decide) rfl (fun ls hl => ?_)
      exact wb49 x12 x11 g hf _ _ _ hP hS (lv_sub hl [0, 1] rfl)
  unfold x_J6_numberOfTrailingZeros_0f7a4 at hf
  refine lv_iload_n hx hb dJ6_numberOfTrailingZeros_0f7a4_0 rfl (lv_at hl 0 rfl) ?_
  refine lv_iconst (v := -1) hx hb dJ6_numberOfTrailingZeros_0f7a4_1 kI_m1 ?_
  refine lv_ixor hx hb dJ6_numberOfTrailingZeros_0f7a4_2 ?_
  refine lv_iload_n hx hb dJ6_numberOfTrailingZeros_0f7a4_3 rfl (lv_at hl 0 rfl) ?_
  refine lv_iconst (v := 1) hx hb dJ6_numberOfTrailingZeros_0f7a4_4 kI_1 ?_
  refine lv_isub hx hb dJ6_numberOfTrailingZeros_0f7a4_5 ?_
  refine lv_iand hx hb dJ6_numberOfTrailingZeros_0f7a4_6 ?_
  obtain ⟨x1, ex1, hf⟩ := lt_e hf
  refine lv_nm ex1 ?_
  refine lv_istore_n (lv' := [(0, .int x1)]) hx hb dJ6_numberOfTrailingZeros_0f7a4_7 rfl hl (by decide) rfl (fun ls hl => ?_)
  refine lv_iload_n hx hb dJ6_numberOfTrailingZeros_0f7a4_8 rfl (lv_at hl 0 rfl) ?_
  refine lv_if_gt (tgt := 17) hx hb dJ6_numberOfTrailingZeros_0f7a4_9 (by decide) (fun c2 => ?_) (fun c2 => ?_)
  · have hf := ite_t c2 hf
    refine lv_iconst (v := 1) hx hb dJ6_numberOfTrailingZeros_0f7a4_17 kI_1 ?_
    refine lv_istore_n (lv' := [(1, .int (1 : Int32)), (0, .int x1)]) hx hb dJ6_numberOfTrailingZeros_0f7a4_18 rfl hl (by decide) rfl (fun ls hl => ?_)
    refine lv_iload_n hx hb dJ6_numberOfTrailingZeros_0f7a4_19 rfl (lv_at hl 1 rfl) ?_
    refine lv_ldcw (v := 65536) hx hb hown (hts _ kc_J6_264) dJ6_numberOfTrailingZeros_0f7a4_20 ?_
    refine lv_icmp_le (tgt := 34) hx hb dJ6_numberOfTrailingZeros_0f7a4_23 (by decide) (fun c3 => ?_) (fun c3 => ?_)
    · have hf := ite_t c3 hf
      exact wb34 x1 (1 : Int32) g hf _ _ _ hP hS (lv_sub hl [1, 0] rfl)
    · have hf := ite_f c3 hf
      obtain ⟨x13, ex13, hf⟩ := lt_e hf
      refine lv_iinc (v := x13) (lv' := [(1, .int x13), (0, .int x1)]) hx hb dJ6_numberOfTrailingZeros_0f7a4_26 hl (k := 0) rfl ((congrArg (fun z => (1 : Int32) + z) kI_16).trans ex13.symm) (by decide) rfl (fun ls hl => ?_)
      refine lv_iload_n hx hb dJ6_numberOfTrailingZeros_0f7a4_29 rfl (lv_at hl 1 rfl) ?_
      refine lv_bipush (v := 16) hx hb dJ6_numberOfTrailingZeros_0f7a4_30 kB_16 ?_
      refine lv_iushr hx hb dJ6_numberOfTrailingZeros_0f7a4_32 rfl ?_
      obtain ⟨x14, ex14, hf⟩ := lt_e hf
      refine lv_nm ex14 ?_
      refine lv_istore_n (lv' := [(0, .int x14), (1, .int x13)]) hx hb dJ6_numberOfTrailingZeros_0f7a4_33 rfl hl (by decide) rfl (fun ls hl => ?_)
      exact wb34 x14 x13 g hf _ _ _ hP hS (lv_sub hl [0, 1] rfl)
  · have hf := ite_f c2 hf
    refine lv_iload_n hx hb dJ6_numberOfTrailingZeros_0f7a4_12 rfl (lv_at hl 0 rfl) ?_
    refine lv_bipush (v := 32) hx hb dJ6_numberOfTrailingZeros_0f7a4_13 kB_32 ?_
    refine lv_iand hx hb dJ6_numberOfTrailingZeros_0f7a4_15 ?_
    exact hret _ _ _ _ _ _ (Or.inl rfl) (Option.some.inj hf) hP hS dJ6_numberOfTrailingZeros_0f7a4_16
abbrev rm_J3_checkIndex_8e157_N : Room := { frames := 1, cells := 0, slots := 0, locals := 60 }
set_option maxRecDepth 100000 in
theorem t_J3_checkIndex_8e157_N (l : Launch) (v : Ev) (N : Nat) (a0 : Int32) (a1 : Int32) (g : Sg) (res : Int32 × Sg) (hf : x_J3_checkIndex_8e157 N a0 a1 g = some res) : Ci l yJ3_checkIndex_8e157 cJ3_checkIndex_8e157 3 .int rm_J3_checkIndex_8e157_N pX v [.int a0, .int a1, .null] g res := by
  refine ze_i (by decide +kernel) (Nat.le_of_ble_eq_true rfl) ?_
  intro p e s m args below meth c Q ls hcx hret hP hl
  obtain ⟨hx, hb, hml, hown, hts, hk⟩ := hcx
  have hown : s.vm.findClass RJ3 = some m.cls := hown
  have hS : va_S (An nX v) s.heap s.heap [] := va_S.rf
  have hl : lv_has ls 3 [(0, .int a0), (1, .int a1), (2, .null)] := hl
  have wb9 : ∀ (y0 : Int32) (y1 : Int32) (g : Sg) (hf : x_J3_checkIndex_8e157_N_b9 N y0 y1 g = some res) (H : Heap) (locs : List Loc) (ls : Array Slot) (hP : va_P (zD v) vwCl (pX.1 v g) H) (hS : va_S (An nX v) s.heap H locs) (hl : lv_has ls 3 [(0, .int y0), (1, .int y1), (2, .null)]), W p l e rm_J3_checkIndex_8e157_N s m args below meth c H locs 0 0 Q (F0 m 9 ls []) := by
    intro y0 y1 g hf H locs ls hP hS hl
    unfold x_J3_checkIndex_8e157_N_b9 at hf
    exact nn_e hf
  unfold x_J3_checkIndex_8e157 at hf
  refine lv_iload_n hx hb dJ3_checkIndex_8e157_0 rfl (lv_at hl 0 rfl) ?_
  refine lv_if_lt (tgt := 9) hx hb dJ3_checkIndex_8e157_1 (by decide) (fun c1 => ?_) (fun c1 => ?_)
  · have hf := ite_t c1 hf
    exact wb9 a0 a1 g hf _ _ _ hP hS (lv_sub hl [0, 1, 2] rfl)
  · have hf := ite_f c1 hf
    refine lv_iload_n hx hb dJ3_checkIndex_8e157_4 rfl (lv_at hl 0 rfl) ?_
    refine lv_iload_n hx hb dJ3_checkIndex_8e157_5 rfl (lv_at hl 1 rfl) ?_
    refine lv_icmp_lt (tgt := 16) hx hb dJ3_checkIndex_8e157_6 (by decide) (fun c2 => ?_) (fun c2 => ?_)
    · have hf := ite_t c2 hf
      refine lv_iload_n hx hb dJ3_checkIndex_8e157_16 rfl (lv_at hl 0 rfl) ?_
      exact hret _ _ _ _ _ _ (Or.inl rfl) (Option.some.inj hf) hP hS dJ3_checkIndex_8e157_17
    · have hf := ite_f c2 hf
      exact wb9 a0 a1 g hf _ _ _ hP hS (lv_sub hl [0, 1, 2] rfl)
abbrev rm_J3_checkIndex_8e157_P : Room := { frames := 1, cells := 0, slots := 0, locals := 60 }
set_option maxRecDepth 100000 in
theorem t_J3_checkIndex_8e157_P (l : Launch) (v : Ev) (N : Nat) (tt : Nat) (a0 : Int32) (a1 : Int32) (g : Sg) (res : Int32 × Sg) (hf : x_J3_checkIndex_8e157 N a0 a1 g = some res) : Ci l yJ3_checkIndex_8e157 cJ3_checkIndex_8e157 3 .int rm_J3_checkIndex_8e157_P pX v [.int a0, .int a1, .ref tt] g res := by
  refine ze_i (by decide +kernel) (Nat.le_of_ble_eq_true rfl) ?_
  intro p e s m args below meth c Q ls hcx hret hP hl
  obtain ⟨hx, hb, hml, hown, hts, hk⟩ := hcx
  have hown : s.vm.findClass RJ3 = some m.cls := hown
  have hS : va_S (An nX v) s.heap s.heap [] := va_S.rf
  have hl : lv_has ls 3 [(0, .int a0), (1, .int a1), (2, .ref tt)] := hl
  have wb9 : ∀ (y0 : Int32) (y1 : Int32) (g : Sg) (hf : x_J3_checkIndex_8e157_P_b9 N y0 y1 g = some res) (H : Heap) (locs : List Loc) (ls : Array Slot) (hP : va_P (zD v) vwCl (pX.1 v g) H) (hS : va_S (An nX v) s.heap H locs) (hl : lv_has ls 3 [(0, .int y0), (1, .int y1), (2, .ref tt)]), W p l e rm_J3_checkIndex_8e157_P s m args below meth c H locs 0 0 Q (F0 m 9 ls []) := by
    intro y0 y1 g hf H locs ls hP hS hl
    unfold x_J3_checkIndex_8e157_P_b9 at hf
    exact nn_e hf
  unfold x_J3_checkIndex_8e157 at hf
  refine lv_iload_n hx hb dJ3_checkIndex_8e157_0 rfl (lv_at hl 0 rfl) ?_
  refine lv_if_lt (tgt := 9) hx hb dJ3_checkIndex_8e157_1 (by decide) (fun c1 => ?_) (fun c1 => ?_)
  · have hf := ite_t c1 hf
    exact wb9 a0 a1 g hf _ _ _ hP hS (lv_sub hl [0, 1, 2] rfl)
  · have hf := ite_f c1 hf
    refine lv_iload_n hx hb dJ3_checkIndex_8e157_4 rfl (lv_at hl 0 rfl) ?_
    refine lv_iload_n hx hb dJ3_checkIndex_8e157_5 rfl (lv_at hl 1 rfl) ?_
    refine lv_icmp_lt (tgt := 16) hx hb dJ3_checkIndex_8e157_6 (by decide) (fun c2 => ?_) (fun c2 => ?_)
    · have hf := ite_t c2 hf
      refine lv_iload_n hx hb dJ3_checkIndex_8e157_16 rfl (lv_at hl 0 rfl) ?_
      exact hret _ _ _ _ _ _ (Or.inl rfl) (Option.some.inj hf) hP hS dJ3_checkIndex_8e157_17
    · have hf := ite_f c2 hf
      exact wb9 a0 a1 g hf _ _ _ hP hS (lv_sub hl [0, 1, 2] rfl)
abbrev rm_J0_checkIndex_df160 : Room := { frames := 2, cells := 0, slots := 0, locals := 82 }
set_option maxRecDepth 100000 in
theorem t_J0_checkIndex_df160 (l : Launch) (v : Ev) (N : Nat) (a0 : Int32) (a1 : Int32) (g : Sg) (res : Sg) (hf : x_J0_checkIndex_df160 N a0 a1 g = some res) : Cv l yJ0_checkIndex_df160 cJ0_checkIndex_df160 2 rm_J0_checkIndex_df160 pX v [.int a0, .int a1] g res := by
  refine ze_v (by decide +kernel) (Nat.le_of_ble_eq_true rfl) ?_
  intro p e s m args below meth c Q ls hcx hret hP hl
  obtain ⟨hx, hb, hml, hown, hts, hk⟩ := hcx
  have hown : s.vm.findClass RJ0 = some m.cls := hown
  have hS : va_S (An nX v) s.heap s.heap [] := va_S.rf
  have hl : lv_has ls 2 [(0, .int a0), (1, .int a1)] := hl
  unfold x_J0_checkIndex_df160 at hf
  refine lv_iload_n hx hb dJ0_checkIndex_df160_0 rfl (lv_at hl 0 rfl) ?_
  refine lv_iload_n hx hb dJ0_checkIndex_df160_1 rfl (lv_at hl 1 rfl) ?_
  rcases xs_si hk with hsi | ⟨tt, hsi⟩
  · refine va_gets hx hb hsi hS hown (hts _ fl_J0_1053) (fun _ h9 => h9) dJ0_checkIndex_df160_2 ?_
    obtain ⟨q1, eq1, hf⟩ := bd_e hf
    refine zki hS (zrS (As := [.int a0, .int a1, .null]) (rest := []) okX hx hb hml hown hts hk hP hS (t_J3_checkIndex_8e157_N l v N a0 a1 g _ eq1) sk_J3_checkIndex_8e157 ml_J0_1059 rfl rfl ⟨(Nat.le_of_ble_eq_true rfl), (Nat.le_of_ble_eq_true rfl)⟩ rfl hl.1 rfl (Nat.le_of_ble_eq_true rfl) dJ0_checkIndex_df160_5) (fun H locs hP hS => ?_)
    refine lv_pop hx hb dJ0_checkIndex_df160_8 rfl ?_
    exact hret _ _ _ _ _ (Option.some.inj hf) hP hS dJ0_checkIndex_df160_9
  · refine va_gets hx hb hsi hS hown (hts _ fl_J0_1053) (fun _ h9 => h9) dJ0_checkIndex_df160_2 ?_
    obtain ⟨q1, eq1, hf⟩ := bd_e hf
    refine zki hS (zrS (As := [.int a0, .int a1, .ref tt]) (rest := []) okX hx hb hml hown hts hk hP hS (t_J3_checkIndex_8e157_P l v N tt a0 a1 g _ eq1) sk_J3_checkIndex_8e157 ml_J0_1059 rfl rfl ⟨(Nat.le_of_ble_eq_true rfl), (Nat.le_of_ble_eq_true rfl)⟩ rfl hl.1 rfl (Nat.le_of_ble_eq_true rfl) dJ0_checkIndex_df160_5) (fun H locs hP hS => ?_)
    refine lv_pop hx hb dJ0_checkIndex_df160_8 rfl ?_
    exact hret _ _ _ _ _ (Option.some.inj hf) hP hS dJ0_checkIndex_df160_9
abbrev rm_J0_isLatin1_aae02_0 : Room := { frames := 1, cells := 0, slots := 0, locals := 60 }
set_option maxRecDepth 100000 in
theorem t_J0_isLatin1_aae02_0 (l : Launch) (v : Ev) (N : Nat) (g : Sg) (res : Int32 × Sg) (hf : x_J0_isLatin1_aae02_0 N g = some res) : Ci l yJ0_isLatin1_aae02 cJ0_isLatin1_aae02 1 .boolean rm_J0_isLatin1_aae02_0 pX v [.ref (zT v 10)] g res := by
  refine ze_i (by decide +kernel) (Nat.le_of_ble_eq_true rfl) ?_
  intro p e s m args below meth c Q ls hcx hret hP hl
  obtain ⟨hx, hb, hml, hown, hts, hk⟩ := hcx
  have hown : s.vm.findClass RJ0 = some m.cls := hown
  have hS : va_S (An nX v) s.heap s.heap [] := va_S.rf
  have hl : lv_has ls 1 [(0, .ref (zT v 10))] := hl
  unfold x_J0_isLatin1_aae02_0 at hf
  refine va_gets hx hb (xs_cs hk) hS hown (hts _ fl_J0_38) (fun _ h9 => h9) dJ0_isLatin1_aae02_0 ?_
  refine lv_if_eq (tgt := 17) hx hb dJ0_isLatin1_aae02_3 (by decide) (fun c1 => ?_) (fun c1 => ?_)
  · have hf := ite_t c1 hf
    refine lv_iconst (v := 0) hx hb dJ0_isLatin1_aae02_17 kI_0 ?_
    exact hret _ _ _ _ _ _ (Or.inr rfl) (Option.some.inj hf) hP hS dJ0_isLatin1_aae02_18
  · have hf := ite_f c1 hf
    refine lv_aload_n hx hb dJ0_isLatin1_aae02_6 rfl (lv_at hl 0 rfl) ?_
    refine vk_getf hx hb (((xs_str hk).1 0 (by decide)).2.1) hS hown (hts _ fl_J0_15) (fun _ h9 => h9) dJ0_isLatin1_aae02_7 ?_
    refine lv_if_ne (tgt := 17) hx hb dJ0_isLatin1_aae02_10 (by decide) (fun c2 => ?_) (fun c2 => ?_)
    · have hf := ite_f c2 hf
      refine lv_iconst (v := 0) hx hb dJ0_isLatin1_aae02_17 kI_0 ?_
      exact hret _ _ _ _ _ _ (Or.inr rfl) (Option.some.inj hf) hP hS dJ0_isLatin1_aae02_18
    · have hf := ite_t c2 hf
      refine lv_iconst (v := 1) hx hb dJ0_isLatin1_aae02_13 kI_1 ?_
      refine lv_goto (tgt := 18) hx hb dJ0_isLatin1_aae02_14 (by decide) ?_
      exact hret _ _ _ _ _ _ (Or.inr rfl) (Option.some.inj hf) hP hS dJ0_isLatin1_aae02_18
abbrev rm_J0_isLatin1_aae02_1 : Room := { frames := 1, cells := 0, slots := 0, locals := 60 }
set_option maxRecDepth 100000 in
theorem t_J0_isLatin1_aae02_1 (l : Launch) (v : Ev) (N : Nat) (g : Sg) (res : Int32 × Sg) (hf : x_J0_isLatin1_aae02_1 N g = some res) : Ci l yJ0_isLatin1_aae02 cJ0_isLatin1_aae02 1 .boolean rm_J0_isLatin1_aae02_1 pX v [.ref (zT v 11)] g res := by
  refine ze_i (by decide +kernel) (Nat.le_of_ble_eq_true rfl) ?_
  intro p e s m args below meth c Q ls hcx hret hP hl
  obtain ⟨hx, hb, hml, hown, hts, hk⟩ := hcx
  have hown : s.vm.findClass RJ0 = some m.cls := hown
  have hS : va_S (An nX v) s.heap s.heap [] := va_S.rf
  have hl : lv_has ls 1 [(0, .ref (zT v 11))] := hl
  unfold x_J0_isLatin1_aae02_1 at hf
  refine va_gets hx hb (xs_cs hk) hS hown (hts _ fl_J0_38) (fun _ h9 => h9) dJ0_isLatin1_aae02_0 ?_
  refine lv_if_eq (tgt := 17) hx hb dJ0_isLatin1_aae02_3 (by decide) (fun c1 => ?_) (fun c1 => ?_)
  · have hf := ite_t c1 hf
    refine lv_iconst (v := 0) hx hb dJ0_isLatin1_aae02_17 kI_0 ?_
    exact hret _ _ _ _ _ _ (Or.inr rfl) (Option.some.inj hf) hP hS dJ0_isLatin1_aae02_18
  · have hf := ite_f c1 hf
    refine lv_aload_n hx hb dJ0_isLatin1_aae02_6 rfl (lv_at hl 0 rfl) ?_
    refine vk_getf hx hb (((xs_str hk).1 1 (by decide)).2.1) hS hown (hts _ fl_J0_15) (fun _ h9 => h9) dJ0_isLatin1_aae02_7 ?_
    refine lv_if_ne (tgt := 17) hx hb dJ0_isLatin1_aae02_10 (by decide) (fun c2 => ?_) (fun c2 => ?_)
    · have hf := ite_f c2 hf
      refine lv_iconst (v := 0) hx hb dJ0_isLatin1_aae02_17 kI_0 ?_
      exact hret _ _ _ _ _ _ (Or.inr rfl) (Option.some.inj hf) hP hS dJ0_isLatin1_aae02_18
    · have hf := ite_t c2 hf
      refine lv_iconst (v := 1) hx hb dJ0_isLatin1_aae02_13 kI_1 ?_
      refine lv_goto (tgt := 18) hx hb dJ0_isLatin1_aae02_14 (by decide) ?_
      exact hret _ _ _ _ _ _ (Or.inr rfl) (Option.some.inj hf) hP hS dJ0_isLatin1_aae02_18
abbrev rm_J0_isLatin1_aae02_2 : Room := { frames := 1, cells := 0, slots := 0, locals := 60 }
set_option maxRecDepth 100000 in
theorem t_J0_isLatin1_aae02_2 (l : Launch) (v : Ev) (N : Nat) (g : Sg) (res : Int32 × Sg) (hf : x_J0_isLatin1_aae02_2 N g = some res) : Ci l yJ0_isLatin1_aae02 cJ0_isLatin1_aae02 1 .boolean rm_J0_isLatin1_aae02_2 pX v [.ref (zT v 12)] g res := by
  refine ze_i (by decide +kernel) (Nat.le_of_ble_eq_true rfl) ?_
  intro p e s m args below meth c Q ls hcx hret hP hl
  obtain ⟨hx, hb, hml, hown, hts, hk⟩ := hcx
  have hown : s.vm.findClass RJ0 = some m.cls := hown
  have hS : va_S (An nX v) s.heap s.heap [] := va_S.rf
  have hl : lv_has ls 1 [(0, .ref (zT v 12))] := hl
  unfold x_J0_isLatin1_aae02_2 at hf
  refine va_gets hx hb (xs_cs hk) hS hown (hts _ fl_J0_38) (fun _ h9 => h9) dJ0_isLatin1_aae02_0 ?_
  refine lv_if_eq (tgt := 17) hx hb dJ0_isLatin1_aae02_3 (by decide) (fun c1 => ?_) (fun c1 => ?_)
  · have hf := ite_t c1 hf
    refine lv_iconst (v := 0) hx hb dJ0_isLatin1_aae02_17 kI_0 ?_
    exact hret _ _ _ _ _ _ (Or.inr rfl) (Option.some.inj hf) hP hS dJ0_isLatin1_aae02_18
  · have hf := ite_f c1 hf
    refine lv_aload_n hx hb dJ0_isLatin1_aae02_6 rfl (lv_at hl 0 rfl) ?_
    refine vk_getf hx hb (((xs_str hk).1 2 (by decide)).2.1) hS hown (hts _ fl_J0_15) (fun _ h9 => h9) dJ0_isLatin1_aae02_7 ?_
    refine lv_if_ne (tgt := 17) hx hb dJ0_isLatin1_aae02_10 (by decide) (fun c2 => ?_) (fun c2 => ?_)
    · have hf := ite_f c2 hf
      refine lv_iconst (v := 0) hx hb dJ0_isLatin1_aae02_17 kI_0 ?_
      exact hret _ _ _ _ _ _ (Or.inr rfl) (Option.some.inj hf) hP hS dJ0_isLatin1_aae02_18
    · have hf := ite_t c2 hf
      refine lv_iconst (v := 1) hx hb dJ0_isLatin1_aae02_13 kI_1 ?_
      refine lv_goto (tgt := 18) hx hb dJ0_isLatin1_aae02_14 (by decide) ?_
      exact hret _ _ _ _ _ _ (Or.inr rfl) (Option.some.inj hf) hP hS dJ0_isLatin1_aae02_18
abbrev rm_J0_coder_7d493_0 : Room := { frames := 1, cells := 0, slots := 0, locals := 60 }
set_option maxRecDepth 100000 in
theorem t_J0_coder_7d493_0 (l : Launch) (v : Ev) (N : Nat) (g : Sg) (res : Int32 × Sg) (hf : x_J0_coder_7d493_0 N g = some res) : Ci l yJ0_coder_7d493 cJ0_coder_7d493 1 .byte rm_J0_coder_7d493_0 pX v [.ref (zT v 10)] g res := by
  refine ze_i (by decide +kernel) (Nat.le_of_ble_eq_true rfl) ?_
  intro p e s m args below meth c Q ls hcx hret hP hl
  obtain ⟨hx, hb, hml, hown, hts, hk⟩ := hcx
  have hown : s.vm.findClass RJ0 = some m.cls := hown
  have hS : va_S (An nX v) s.heap s.heap [] := va_S.rf
  have hl : lv_has ls 1 [(0, .ref (zT v 10))] := hl
  unfold x_J0_coder_7d493_0 at hf
  refine va_gets hx hb (xs_cs hk) hS hown (hts _ fl_J0_38) (fun _ h9 => h9) dJ0_coder_7d493_0 ?_
  refine lv_if_eq (tgt := 13) hx hb dJ0_coder_7d493_3 (by decide) (fun c1 => ?_) (fun c1 => ?_)
  · have hf := ite_t c1 hf
    refine lv_iconst (v := 1) hx hb dJ0_coder_7d493_13 kI_1 ?_
    obtain ⟨c2, hf⟩ := gd_e hf
    exact hret _ _ _ _ _ _ (Or.inr (nbyte c2)) (Option.some.inj hf) hP hS dJ0_coder_7d493_14
  · have hf := ite_f c1 hf
    refine lv_aload_n hx hb dJ0_coder_7d493_6 rfl (lv_at hl 0 rfl) ?_
    refine vk_getf hx hb (((xs_str hk).1 0 (by decide)).2.1) hS hown (hts _ fl_J0_15) (fun _ h9 => h9) dJ0_coder_7d493_7 ?_
    refine lv_goto (tgt := 14) hx hb dJ0_coder_7d493_10 (by decide) ?_
    obtain ⟨c3, hf⟩ := gd_e hf
    exact hret _ _ _ _ _ _ (Or.inr (nbyte c3)) (Option.some.inj hf) hP hS dJ0_coder_7d493_14
abbrev rm_J0_coder_7d493_1 : Room := { frames := 1, cells := 0, slots := 0, locals := 60 }
set_option maxRecDepth 100000 in
theorem t_J0_coder_7d493_1 (l : Launch) (v : Ev) (N : Nat) (g : Sg) (res : Int32 × Sg) (hf : x_J0_coder_7d493_1 N g = some res) : Ci l yJ0_coder_7d493 cJ0_coder_7d493 1 .byte rm_J0_coder_7d493_1 pX v [.ref (zT v 11)] g res := by
  refine ze_i (by decide +kernel) (Nat.le_of_ble_eq_true rfl) ?_
  intro p e s m args below meth c Q ls hcx hret hP hl
  obtain ⟨hx, hb, hml, hown, hts, hk⟩ := hcx
  have hown : s.vm.findClass RJ0 = some m.cls := hown
  have hS : va_S (An nX v) s.heap s.heap [] := va_S.rf
  have hl : lv_has ls 1 [(0, .ref (zT v 11))] := hl
  unfold x_J0_coder_7d493_1 at hf
  refine va_gets hx hb (xs_cs hk) hS hown (hts _ fl_J0_38) (fun _ h9 => h9) dJ0_coder_7d493_0 ?_
  refine lv_if_eq (tgt := 13) hx hb dJ0_coder_7d493_3 (by decide) (fun c1 => ?_) (fun c1 => ?_)
  · have hf := ite_t c1 hf
    refine lv_iconst (v := 1) hx hb dJ0_coder_7d493_13 kI_1 ?_
    obtain ⟨c2, hf⟩ := gd_e hf
    exact hret _ _ _ _ _ _ (Or.inr (nbyte c2)) (Option.some.inj hf) hP hS dJ0_coder_7d493_14
  · have hf := ite_f c1 hf
    refine lv_aload_n hx hb dJ0_coder_7d493_6 rfl (lv_at hl 0 rfl) ?_
    refine vk_getf hx hb (((xs_str hk).1 1 (by decide)).2.1) hS hown (hts _ fl_J0_15) (fun _ h9 => h9) dJ0_coder_7d493_7 ?_
    refine lv_goto (tgt := 14) hx hb dJ0_coder_7d493_10 (by decide) ?_
    obtain ⟨c3, hf⟩ := gd_e hf
    exact hret _ _ _ _ _ _ (Or.inr (nbyte c3)) (Option.some.inj hf) hP hS dJ0_coder_7d493_14
abbrev rm_J0_coder_7d493_2 : Room := { frames := 1, cells := 0, slots := 0, locals := 60 }
set_option maxRecDepth 100000 in
theorem t_J0_coder_7d493_2 (l : Launch) (v : Ev) (N : Nat) (g : Sg) (res : Int32 × Sg) (hf : x_J0_coder_7d493_2 N g = some res) : Ci l yJ0_coder_7d493 cJ0_coder_7d493 1 .byte rm_J0_coder_7d493_2 pX v [.ref (zT v 12)] g res := by
  refine ze_i (by decide +kernel) (Nat.le_of_ble_eq_true rfl) ?_
  intro p e s m args below meth c Q ls hcx hret hP hl
  obtain ⟨hx, hb, hml, hown, hts, hk⟩ := hcx
  have hown : s.vm.findClass RJ0 = some m.cls := hown
  have hS : va_S (An nX v) s.heap s.heap [] := va_S.rf
  have hl : lv_has ls 1 [(0, .ref (zT v 12))] := hl
  unfold x_J0_coder_7d493_2 at hf
  refine va_gets hx hb (xs_cs hk) hS hown (hts _ fl_J0_38) (fun _ h9 => h9) dJ0_coder_7d493_0 ?_
  refine lv_if_eq (tgt := 13) hx hb dJ0_coder_7d493_3 (by decide) (fun c1 => ?_) (fun c1 => ?_)
  · have hf := ite_t c1 hf
    refine lv_iconst (v := 1) hx hb dJ0_coder_7d493_13 kI_1 ?_
    obtain ⟨c2, hf⟩ := gd_e hf
    exact hret _ _ _ _ _ _ (Or.inr (nbyte c2)) (Option.some.inj hf) hP hS dJ0_coder_7d493_14
  · have hf := ite_f c1 hf
    refine lv_aload_n hx hb dJ0_coder_7d493_6 rfl (lv_at hl 0 rfl) ?_
    refine vk_getf hx hb (((xs_str hk).1 2 (by decide)).2.1) hS hown (hts _ fl_J0_15) (fun _ h9 => h9) dJ0_coder_7d493_7 ?_
    refine lv_goto (tgt := 14) hx hb dJ0_coder_7d493_10 (by decide) ?_
    obtain ⟨c3, hf⟩ := gd_e hf
    exact hret _ _ _ _ _ _ (Or.inr (nbyte c3)) (Option.some.inj hf) hP hS dJ0_coder_7d493_14
abbrev rm_J0_length_8abf5_0 : Room := { frames := 2, cells := 0, slots := 0, locals := 80 }
set_option maxRecDepth 100000 in
theorem t_J0_length_8abf5_0 (l : Launch) (v : Ev) (N : Nat) (g : Sg) (res : Int32 × Sg) (hf : x_J0_length_8abf5_0 N g = some res) : Ci l yJ0_length_8abf5 cJ0_length_8abf5 1 .int rm_J0_length_8abf5_0 pX v [.ref (zT v 10)] g res := by
  refine ze_i (by decide +kernel) (Nat.le_of_ble_eq_true rfl) ?_
  intro p e s m args below meth c Q ls hcx hret hP hl
  obtain ⟨hx, hb, hml, hown, hts, hk⟩ := hcx
  have hown : s.vm.findClass RJ0 = some m.cls := hown
  have hS : va_S (An nX v) s.heap s.heap [] := va_S.rf
  have hl : lv_has ls 1 [(0, .ref (zT v 10))] := hl
  unfold x_J0_length_8abf5_0 at hf
  refine lv_aload_n hx hb dJ0_length_8abf5_0 rfl (lv_at hl 0 rfl) ?_
  refine vk_getf hx hb (((xs_str hk).1 0 (by decide)).2.2.1) hS hown (hts _ fl_J0_9) (fun _ h9 => h9) dJ0_length_8abf5_1 ?_
  refine va_tlen (v := 57) hx hb (xs_b0 hk) hS kN_57 dJ0_length_8abf5_4 ?_
  refine lv_aload_n hx hb dJ0_length_8abf5_5 rfl (lv_at hl 0 rfl) ?_
  obtain ⟨q1, eq1, hf⟩ := bd_e hf
  refine zki hS (zrV (As := []) (rest := [.int (57 : Int32)]) okX hx hb hml hown hts hk hP hS (t_J0_coder_7d493_0 l v N g _ eq1) vk_J0_coder_7d493 ml_J0_335 rfl rfl ⟨(Nat.le_of_ble_eq_true rfl), (Nat.le_of_ble_eq_true rfl)⟩ (vk_recv (i := 0) (xs_str hk) (by decide) hS) rfl hl.1 rfl (Nat.le_of_ble_eq_true rfl) dJ0_length_8abf5_6) (fun H locs hP hS => ?_)
  refine lv_ishr hx hb dJ0_length_8abf5_9 ?_
  exact hret _ _ _ _ _ _ (Or.inl rfl) (Option.some.inj hf) hP hS dJ0_length_8abf5_10
abbrev rm_J0_length_8abf5_1 : Room := { frames := 2, cells := 0, slots := 0, locals := 80 }
set_option maxRecDepth 100000 in
theorem t_J0_length_8abf5_1 (l : Launch) (v : Ev) (N : Nat) (g : Sg) (res : Int32 × Sg) (hf : x_J0_length_8abf5_1 N g = some res) : Ci l yJ0_length_8abf5 cJ0_length_8abf5 1 .int rm_J0_length_8abf5_1 pX v [.ref (zT v 11)] g res := by
  refine ze_i (by decide +kernel) (Nat.le_of_ble_eq_true rfl) ?_
  intro p e s m args below meth c Q ls hcx hret hP hl
  obtain ⟨hx, hb, hml, hown, hts, hk⟩ := hcx
  have hown : s.vm.findClass RJ0 = some m.cls := hown
  have hS : va_S (An nX v) s.heap s.heap [] := va_S.rf
  have hl : lv_has ls 1 [(0, .ref (zT v 11))] := hl
  unfold x_J0_length_8abf5_1 at hf
  refine lv_aload_n hx hb dJ0_length_8abf5_0 rfl (lv_at hl 0 rfl) ?_
  refine vk_getf hx hb (((xs_str hk).1 1 (by decide)).2.2.1) hS hown (hts _ fl_J0_9) (fun _ h9 => h9) dJ0_length_8abf5_1 ?_
  refine va_tlen (v := 8) hx hb (xs_b1 hk) hS kN_8 dJ0_length_8abf5_4 ?_
  refine lv_aload_n hx hb dJ0_length_8abf5_5 rfl (lv_at hl 0 rfl) ?_
  obtain ⟨q1, eq1, hf⟩ := bd_e hf
  refine zki hS (zrV (As := []) (rest := [.int (8 : Int32)]) okX hx hb hml hown hts hk hP hS (t_J0_coder_7d493_1 l v N g _ eq1) vk_J0_coder_7d493 ml_J0_335 rfl rfl ⟨(Nat.le_of_ble_eq_true rfl), (Nat.le_of_ble_eq_true rfl)⟩ (vk_recv (i := 1) (xs_str hk) (by decide) hS) rfl hl.1 rfl (Nat.le_of_ble_eq_true rfl) dJ0_length_8abf5_6) (fun H locs hP hS => ?_)
  refine lv_ishr hx hb dJ0_length_8abf5_9 ?_
  exact hret _ _ _ _ _ _ (Or.inl rfl) (Option.some.inj hf) hP hS dJ0_length_8abf5_10
abbrev rm_J1_charAt_3b067_0 : Room := { frames := 3, cells := 0, slots := 0, locals := 103 }
set_option maxRecDepth 100000 in
theorem t_J1_charAt_3b067_0 (l : Launch) (v : Ev) (N : Nat) (a1 : Int32) (g : Sg) (res : Int32 × Sg) (hf : x_J1_charAt_3b067_0 N a1 g = some res) : Ci l yJ1_charAt_3b067 cJ1_charAt_3b067 2 .char rm_J1_charAt_3b067_0 pX v [.ref (zT v 20), .int a1] g res := by
  refine ze_i (by decide +kernel) (Nat.le_of_ble_eq_true rfl) ?_
  intro p e s m args below meth c Q ls hcx hret hP hl
  obtain ⟨hx, hb, hml, hown, hts, hk⟩ := hcx
  have hown : s.vm.findClass RJ1 = some m.cls := hown
  have hS : va_S (An nX v) s.heap s.heap [] := va_S.rf
  have hl : lv_has ls 2 [(0, .ref (zT v 20)), (1, .int a1)] := hl
  unfold x_J1_charAt_3b067_0 at hf
  refine lv_iload_n hx hb dJ1_charAt_3b067_0 rfl (lv_at hl 1 rfl) ?_
  refine lv_aload_n hx hb dJ1_charAt_3b067_1 rfl (lv_at hl 0 rfl) ?_
  refine va_tlen (v := 57) hx hb (xs_b0 hk) hS kN_57 dJ1_charAt_3b067_2 ?_
  obtain ⟨q1, eq1, hf⟩ := bd_e hf
  refine zkv hS (zrS (As := [.int a1, .int (57 : Int32)]) (rest := []) okX hx hb hml hown hts hk hP hS (t_J0_checkIndex_df160 l v N a1 (57 : Int32) g _ eq1) sk_J0_checkIndex_df160 ml_J1_9 rfl rfl ⟨(Nat.le_of_ble_eq_true rfl), (Nat.le_of_ble_eq_true rfl)⟩ rfl hl.1 rfl (Nat.le_of_ble_eq_true rfl) dJ1_charAt_3b067_3) (fun H locs hP hS => ?_)
  refine lv_aload_n hx hb dJ1_charAt_3b067_6 rfl (lv_at hl 0 rfl) ?_
  refine lv_iload_n hx hb dJ1_charAt_3b067_7 rfl (lv_at hl 1 rfl) ?_
  obtain ⟨c2, hf⟩ := gd_e hf
  refine va_tb hx hb (xs_b0 hk) hS (inb_in c2) rfl dJ1_charAt_3b067_8 ?_
  refine lv_sipush (v := 255) hx hb dJ1_charAt_3b067_9 kS_255 ?_
  refine lv_iand hx hb dJ1_charAt_3b067_12 ?_
  refine lv_i2c hx hb dJ1_charAt_3b067_13 rfl ?_
  obtain ⟨c3, hf⟩ := gd_e hf
  exact hret _ _ _ _ _ _ (Or.inr (nchar c3)) (Option.some.inj hf) hP hS dJ1_charAt_3b067_14
abbrev rm_J1_charAt_3b067_2 : Room := { frames := 3, cells := 0, slots := 0, locals := 103 }
set_option maxRecDepth 100000 in
theorem t_J1_charAt_3b067_2 (l : Launch) (v : Ev) (N : Nat) (a1 : Int32) (g : Sg) (res : Int32 × Sg) (hf : x_J1_charAt_3b067_2 N a1 g = some res) : Ci l yJ1_charAt_3b067 cJ1_charAt_3b067 2 .char rm_J1_charAt_3b067_2 pX v [.ref (zT v 22), .int a1] g res := by
  refine ze_i (by decide +kernel) (Nat.le_of_ble_eq_true rfl) ?_
  intro p e s m args below meth c Q ls hcx hret hP hl
  obtain ⟨hx, hb, hml, hown, hts, hk⟩ := hcx
  have hown : s.vm.findClass RJ1 = some m.cls := hown
  have hS : va_S (An nX v) s.heap s.heap [] := va_S.rf
  have hl : lv_has ls 2 [(0, .ref (zT v 22)), (1, .int a1)] := hl
  unfold x_J1_charAt_3b067_2 at hf
  refine lv_iload_n hx hb dJ1_charAt_3b067_0 rfl (lv_at hl 1 rfl) ?_
  refine lv_aload_n hx hb dJ1_charAt_3b067_1 rfl (lv_at hl 0 rfl) ?_
  refine va_tlen (v := 72) hx hb (xs_b2 hk) hS kN_72 dJ1_charAt_3b067_2 ?_
  obtain ⟨q1, eq1, hf⟩ := bd_e hf
  refine zkv hS (zrS (As := [.int a1, .int (72 : Int32)]) (rest := []) okX hx hb hml hown hts hk hP hS (t_J0_checkIndex_df160 l v N a1 (72 : Int32) g _ eq1) sk_J0_checkIndex_df160 ml_J1_9 rfl rfl ⟨(Nat.le_of_ble_eq_true rfl), (Nat.le_of_ble_eq_true rfl)⟩ rfl hl.1 rfl (Nat.le_of_ble_eq_true rfl) dJ1_charAt_3b067_3) (fun H locs hP hS => ?_)
  refine lv_aload_n hx hb dJ1_charAt_3b067_6 rfl (lv_at hl 0 rfl) ?_
  refine lv_iload_n hx hb dJ1_charAt_3b067_7 rfl (lv_at hl 1 rfl) ?_
  obtain ⟨c2, hf⟩ := gd_e hf
  refine va_tb hx hb (xs_b2 hk) hS (inb_in c2) rfl dJ1_charAt_3b067_8 ?_
  refine lv_sipush (v := 255) hx hb dJ1_charAt_3b067_9 kS_255 ?_
  refine lv_iand hx hb dJ1_charAt_3b067_12 ?_
  refine lv_i2c hx hb dJ1_charAt_3b067_13 rfl ?_
  obtain ⟨c3, hf⟩ := gd_e hf
  exact hret _ _ _ _ _ _ (Or.inr (nchar c3)) (Option.some.inj hf) hP hS dJ1_charAt_3b067_14
abbrev rm_J0_charAt_5068e_0 : Room := { frames := 4, cells := 0, slots := 0, locals := 124 }
set_option maxRecDepth 100000 in
theorem t_J0_charAt_5068e_0 (l : Launch) (v : Ev) (N : Nat) (a1 : Int32) (g : Sg) (res : Int32 × Sg) (hf : x_J0_charAt_5068e_0 N a1 g = some res) : Ci l yJ0_charAt_5068e cJ0_charAt_5068e 2 .char rm_J0_charAt_5068e_0 pX v [.ref (zT v 10), .int a1] g res := by
  refine ze_i (by decide +kernel) (Nat.le_of_ble_eq_true rfl) ?_
  intro p e s m args below meth c Q ls hcx hret hP hl
  obtain ⟨hx, hb, hml, hown, hts, hk⟩ := hcx
  have hown : s.vm.findClass RJ0 = some m.cls := hown
  have hS : va_S (An nX v) s.heap s.heap [] := va_S.rf
  have hl : lv_has ls 2 [(0, .ref (zT v 10)), (1, .int a1)] := hl
  unfold x_J0_charAt_5068e_0 at hf
  refine lv_aload_n hx hb dJ0_charAt_5068e_0 rfl (lv_at hl 0 rfl) ?_
  obtain ⟨q1, eq1, hf⟩ := bd_e hf
  refine zki hS (zrV (As := []) (rest := []) okX hx hb hml hown hts hk hP hS (t_J0_isLatin1_aae02_0 l v N g _ eq1) vk_J0_isLatin1_aae02 ml_J0_492 rfl rfl ⟨(Nat.le_of_ble_eq_true rfl), (Nat.le_of_ble_eq_true rfl)⟩ (vk_recv (i := 0) (xs_str hk) (by decide) hS) rfl hl.1 rfl (Nat.le_of_ble_eq_true rfl) dJ0_charAt_5068e_1) (fun H locs hP hS => ?_)
  refine lv_if_eq (tgt := 16) hx hb dJ0_charAt_5068e_4 (by decide) (fun c2 => ?_) (fun c2 => ?_)
  · have hf := ite_t c2 hf
    exact nn_e hf
  · have hf := ite_f c2 hf
    refine lv_aload_n hx hb dJ0_charAt_5068e_7 rfl (lv_at hl 0 rfl) ?_
    refine vk_getf hx hb (((xs_str hk).1 0 (by decide)).2.2.1) hS hown (hts _ fl_J0_9) (fun _ h9 => h9) dJ0_charAt_5068e_8 ?_
    refine lv_iload_n hx hb dJ0_charAt_5068e_11 rfl (lv_at hl 1 rfl) ?_
    obtain ⟨q3, eq3, hf⟩ := bd_e hf
    refine zki hS (zrS (As := [.ref (zT v 20), .int a1]) (rest := []) okX hx hb hml hown hts hk hP hS (t_J1_charAt_3b067_0 l v N a1 q1.2 _ eq3) sk_J1_charAt_3b067 ml_J0_495 rfl rfl ⟨(Nat.le_of_ble_eq_true rfl), (Nat.le_of_ble_eq_true rfl)⟩ rfl hl.1 rfl (Nat.le_of_ble_eq_true rfl) dJ0_charAt_5068e_12) (fun H locs hP hS => ?_)
    obtain ⟨c4, hf⟩ := gd_e hf
    exact hret _ _ _ _ _ _ (Or.inr (nchar c4)) (Option.some.inj hf) hP hS dJ0_charAt_5068e_15
abbrev rm_J0_charAt_5068e_2 : Room := { frames := 4, cells := 0, slots := 0, locals := 124 }
set_option maxRecDepth 100000 in
theorem t_J0_charAt_5068e_2 (l : Launch) (v : Ev) (N : Nat) (a1 : Int32) (g : Sg) (res : Int32 × Sg) (hf : x_J0_charAt_5068e_2 N a1 g = some res) : Ci l yJ0_charAt_5068e cJ0_charAt_5068e 2 .char rm_J0_charAt_5068e_2 pX v [.ref (zT v 12), .int a1] g res := by
  refine ze_i (by decide +kernel) (Nat.le_of_ble_eq_true rfl) ?_
  intro p e s m args below meth c Q ls hcx hret hP hl
  obtain ⟨hx, hb, hml, hown, hts, hk⟩ := hcx
  have hown : s.vm.findClass RJ0 = some m.cls := hown
  have hS : va_S (An nX v) s.heap s.heap [] := va_S.rf
  have hl : lv_has ls 2 [(0, .ref (zT v 12)), (1, .int a1)] := hl
  unfold x_J0_charAt_5068e_2 at hf
  refine lv_aload_n hx hb dJ0_charAt_5068e_0 rfl (lv_at hl 0 rfl) ?_
  obtain ⟨q1, eq1, hf⟩ := bd_e hf
  refine zki hS (zrV (As := []) (rest := []) okX hx hb hml hown hts hk hP hS (t_J0_isLatin1_aae02_2 l v N g _ eq1) vk_J0_isLatin1_aae02 ml_J0_492 rfl rfl ⟨(Nat.le_of_ble_eq_true rfl), (Nat.le_of_ble_eq_true rfl)⟩ (vk_recv (i := 2) (xs_str hk) (by decide) hS) rfl hl.1 rfl (Nat.le_of_ble_eq_true rfl) dJ0_charAt_5068e_1) (fun H locs hP hS => ?_)
  refine lv_if_eq (tgt := 16) hx hb dJ0_charAt_5068e_4 (by decide) (fun c2 => ?_) (fun c2 => ?_)
  · have hf := ite_t c2 hf
    exact nn_e hf
  · have hf := ite_f c2 hf
    refine lv_aload_n hx hb dJ0_charAt_5068e_7 rfl (lv_at hl 0 rfl) ?_
    refine vk_getf hx hb (((xs_str hk).1 2 (by decide)).2.2.1) hS hown (hts _ fl_J0_9) (fun _ h9 => h9) dJ0_charAt_5068e_8 ?_
    refine lv_iload_n hx hb dJ0_charAt_5068e_11 rfl (lv_at hl 1 rfl) ?_
    obtain ⟨q3, eq3, hf⟩ := bd_e hf
    refine zki hS (zrS (As := [.ref (zT v 22), .int a1]) (rest := []) okX hx hb hml hown hts hk hP hS (t_J1_charAt_3b067_2 l v N a1 q1.2 _ eq3) sk_J1_charAt_3b067 ml_J0_495 rfl rfl ⟨(Nat.le_of_ble_eq_true rfl), (Nat.le_of_ble_eq_true rfl)⟩ rfl hl.1 rfl (Nat.le_of_ble_eq_true rfl) dJ0_charAt_5068e_12) (fun H locs hP hS => ?_)
    obtain ⟨c4, hf⟩ := gd_e hf
    exact hret _ _ _ _ _ _ (Or.inr (nchar c4)) (Option.some.inj hf) hP hS dJ0_charAt_5068e_15
abbrev rm_J1_canEncode_9a6ad : Room := { frames := 1, cells := 0, slots := 0, locals := 60 }
set_option maxRecDepth 100000 in
theorem t_J1_canEncode_9a6ad (l : Launch) (v : Ev) (N : Nat) (a0 : Int32) (g : Sg) (res : Int32 × Sg) (hf : x_J1_canEncode_9a6ad N a0 g = some res) : Ci l yJ1_canEncode_9a6ad cJ1_canEncode_9a6ad 1 .boolean rm_J1_canEncode_9a6ad pX v [.int a0] g res := by
  refine ze_i (by decide +kernel) (Nat.le_of_ble_eq_true rfl) ?_
  intro p e s m args below meth c Q ls hcx hret hP hl
  obtain ⟨hx, hb, hml, hown, hts, hk⟩ := hcx
  have hown : s.vm.findClass RJ1 = some m.cls := hown
  have hS : va_S (An nX v) s.heap s.heap [] := va_S.rf
  have hl : lv_has ls 1 [(0, .int a0)] := hl
  unfold x_J1_canEncode_9a6ad at hf
  refine lv_iload_n hx hb dJ1_canEncode_9a6ad_0 rfl (lv_at hl 0 rfl) ?_
  refine lv_if_lt (tgt := 15) hx hb dJ1_canEncode_9a6ad_1 (by decide) (fun c1 => ?_) (fun c1 => ?_)
  · have hf := ite_t c1 hf
    refine lv_iconst (v := 0) hx hb dJ1_canEncode_9a6ad_15 kI_0 ?_
    exact hret _ _ _ _ _ _ (Or.inr rfl) (Option.some.inj hf) hP hS dJ1_canEncode_9a6ad_16
  · have hf := ite_f c1 hf
    refine lv_iload_n hx hb dJ1_canEncode_9a6ad_4 rfl (lv_at hl 0 rfl) ?_
    refine lv_sipush (v := 255) hx hb dJ1_canEncode_9a6ad_5 kS_255 ?_
    refine lv_icmp_gt (tgt := 15) hx hb dJ1_canEncode_9a6ad_8 (by decide) (fun c2 => ?_) (fun c2 => ?_)
    · have hf := ite_t c2 hf
      refine lv_iconst (v := 0) hx hb dJ1_canEncode_9a6ad_15 kI_0 ?_
      exact hret _ _ _ _ _ _ (Or.inr rfl) (Option.some.inj hf) hP hS dJ1_canEncode_9a6ad_16
    · have hf := ite_f c2 hf
      refine lv_iconst (v := 1) hx hb dJ1_canEncode_9a6ad_11 kI_1 ?_
      refine lv_goto (tgt := 16) hx hb dJ1_canEncode_9a6ad_12 (by decide) ?_
      exact hret _ _ _ _ _ _ (Or.inr rfl) (Option.some.inj hf) hP hS dJ1_canEncode_9a6ad_16
abbrev rm_J1_indexOfChar_4cfef_1 : Room := { frames := 1, cells := 0, slots := 0, locals := 60 }
set_option maxRecDepth 100000 in
theorem t_J1_indexOfChar_4cfef_1 (l : Launch) (v : Ev) (N : Nat) (a1 : Int32) (a2 : Int32) (a3 : Int32) (g : Sg) (res : Int32 × Sg) (hf : x_J1_indexOfChar_4cfef_1 N a1 a2 a3 g = some res) : Ci l yJ1_indexOfChar_4cfef cJ1_indexOfChar_4cfef 6 .int rm_J1_indexOfChar_4cfef_1 pX v [.ref (zT v 21), .int a1, .int a2, .int a3] g res := by
  refine ze_i (by decide +kernel) (Nat.le_of_ble_eq_true rfl) ?_
  intro p e s m args below meth c Q ls hcx hret hP hl
  obtain ⟨hx, hb, hml, hown, hts, hk⟩ := hcx
  have hown : s.vm.findClass RJ1 = some m.cls := hown
  have hS : va_S (An nX v) s.heap s.heap [] := va_S.rf
  have hl : lv_has ls 6 [(0, .ref (zT v 21)), (1, .int a1), (2, .int a2), (3, .int a3)] := hl
  have wL7 : ∀ (n : Nat) (x : Int32 × Int32 × Int32 × Sg), lp (x_J1_indexOfChar_4cfef_1_B7 N) n x = some res → ∀ (H : Heap) (locs : List Loc) (ls : Array Slot), va_P (zD v) vwCl (pX.1 v x.2.2.2) H → va_S (An nX v) s.heap H locs → lv_has ls 6 [(0, .ref (zT v 21)), (3, .int x.1), (4, .int x.2.1), (5, .int x.2.2.1)] → W p l e rm_J1_indexOfChar_4cfef_1 s m args below meth c H locs 0 0 Q (F0 m 7 ls []) := by
    refine lp_w (P := fun x : Int32 × Int32 × Int32 × Sg => ∀ (H : Heap) (locs : List Loc) (ls : Array Slot), va_P (zD v) vwCl (pX.1 v x.2.2.2) H → va_S (An nX v) s.heap H locs → lv_has ls 6 [(0, .ref (zT v 21)), (3, .int x.1), (4, .int x.2.1), (5, .int x.2.2.1)] → W p l e rm_J1_indexOfChar_4cfef_1 s m args below meth c H locs 0 0 Q (F0 m 7 ls [])) ?_
    intro h7 hh7 x hf H locs ls hP hS hl
    unfold x_J1_indexOfChar_4cfef_1_B7 at hf
    refine lv_iload hx hb dJ1_indexOfChar_4cfef_7 (lv_at hl 3 rfl) ?_
    refine lv_iload_n hx hb dJ1_indexOfChar_4cfef_9 rfl (lv_at hl 1 rfl) ?_
    refine lv_icmp_ge (tgt := 31) hx hb dJ1_indexOfChar_4cfef_10 (by decide) (fun c2 => ?_) (fun c2 => ?_)
    · have hf := ite_t c2 hf
      refine lv_iconst (v := -1) hx hb dJ1_indexOfChar_4cfef_31 kI_m1 ?_
      exact hret _ _ _ _ _ _ (Or.inl rfl) (Option.some.inj hf) hP hS dJ1_indexOfChar_4cfef_32
    · have hf := ite_f c2 hf
      refine lv_aload_n hx hb dJ1_indexOfChar_4cfef_13 rfl (lv_at hl 0 rfl) ?_
      refine lv_iload hx hb dJ1_indexOfChar_4cfef_14 (lv_at hl 3 rfl) ?_
      obtain ⟨c3, hf⟩ := gd_e hf
      refine va_tb hx hb (xs_b1 hk) hS (inb_in c3) rfl dJ1_indexOfChar_4cfef_16 ?_
      refine lv_iload hx hb dJ1_indexOfChar_4cfef_17 (lv_at hl 2 rfl) ?_
      refine lv_icmp_ne (tgt := 25) hx hb dJ1_indexOfChar_4cfef_19 (by decide) (fun c4 => ?_) (fun c4 => ?_)
      · have hf := ite_f c4 hf
        obtain ⟨x5, ex5, hf⟩ := lt_e hf
        refine lv_iinc (v := x5) (lv' := [(5, .int x5), (0, .ref (zT v 21)), (3, .int x.1), (4, .int x.2.1)]) hx hb dJ1_indexOfChar_4cfef_25 hl (k := 3) rfl ((congrArg (fun z => x.2.2.1 + z) kI_1).trans ex5.symm) (by decide) rfl (fun ls hl => ?_)
        refine lv_goto (tgt := 7) hx hb dJ1_indexOfChar_4cfef_28 (by decide) ?_
        exact hh7 (x.1, x.2.1, x5, x.2.2.2) hf _ _ _ hP hS (lv_sub hl [1, 2, 3, 0] rfl)
      · have hf := ite_t c4 hf
        refine lv_iload hx hb dJ1_indexOfChar_4cfef_22 (lv_at hl 3 rfl) ?_
        exact hret _ _ _ _ _ _ (Or.inl rfl) (Option.some.inj hf) hP hS dJ1_indexOfChar_4cfef_24
  unfold x_J1_indexOfChar_4cfef_1 at hf
  refine lv_iload_n hx hb dJ1_indexOfChar_4cfef_0 rfl (lv_at hl 1 rfl) ?_
  refine lv_i2b hx hb dJ1_indexOfChar_4cfef_1 rfl ?_
  obtain ⟨x1, ex1, hf⟩ := lt_e hf
  refine lv_nm ex1 ?_
  refine lv_istore (lv' := [(4, .int x1), (0, .ref (zT v 21)), (1, .int a1), (2, .int a2), (3, .int a3)]) hx hb dJ1_indexOfChar_4cfef_2 hl (by decide) rfl (fun ls hl => ?_)
  refine lv_iload_n hx hb dJ1_indexOfChar_4cfef_4 rfl (lv_at hl 3 rfl) ?_
  refine lv_istore (lv' := [(5, .int a2), (4, .int x1), (0, .ref (zT v 21)), (1, .int a1), (2, .int a2), (3, .int a3)]) hx hb dJ1_indexOfChar_4cfef_5 hl (by decide) rfl (fun ls hl => ?_)
  exact wL7 N (a3, x1, a2, g) hf _ _ _ hP hS (lv_sub hl [2, 5, 1, 0] rfl)
abbrev rm_J1_indexOf_4cfef_1 : Room := { frames := 2, cells := 0, slots := 0, locals := 85 }
set_option maxRecDepth 100000 in
theorem t_J1_indexOf_4cfef_1 (l : Launch) (v : Ev) (N : Nat) (a1 : Int32) (a2 : Int32) (a3 : Int32) (g : Sg) (res : Int32 × Sg) (hf : x_J1_indexOf_4cfef_1 N a1 a2 a3 g = some res) : Ci l yJ1_indexOf_4cfef cJ1_indexOf_4cfef 4 .int rm_J1_indexOf_4cfef_1 pX v [.ref (zT v 21), .int a1, .int a2, .int a3] g res := by
  refine ze_i (by decide +kernel) (Nat.le_of_ble_eq_true rfl) ?_
  intro p e s m args below meth c Q ls hcx hret hP hl
  obtain ⟨hx, hb, hml, hown, hts, hk⟩ := hcx
  have hown : s.vm.findClass RJ1 = some m.cls := hown
  have hS : va_S (An nX v) s.heap s.heap [] := va_S.rf
  have hl : lv_has ls 4 [(0, .ref (zT v 21)), (1, .int a1), (2, .int a2), (3, .int a3)] := hl
  unfold x_J1_indexOf_4cfef_1 at hf
  refine lv_iload_n hx hb dJ1_indexOf_4cfef_0 rfl (lv_at hl 1 rfl) ?_
  obtain ⟨q1, eq1, hf⟩ := bd_e hf
  refine zki hS (zrS (As := [.int a1]) (rest := []) okX hx hb hml hown hts hk hP hS (t_J1_canEncode_9a6ad l v N a1 g _ eq1) sk_J1_canEncode_9a6ad ml_J1_88 rfl rfl ⟨(Nat.le_of_ble_eq_true rfl), (Nat.le_of_ble_eq_true rfl)⟩ rfl hl.1 rfl (Nat.le_of_ble_eq_true rfl) dJ1_indexOf_4cfef_1) (fun H locs hP hS => ?_)
  refine lv_if_ne (tgt := 9) hx hb dJ1_indexOf_4cfef_4 (by decide) (fun c2 => ?_) (fun c2 => ?_)
  · have hf := ite_f c2 hf
    refine lv_iload_n hx hb dJ1_indexOf_4cfef_9 rfl (lv_at hl 2 rfl) ?_
    refine lv_iconst (v := 0) hx hb dJ1_indexOf_4cfef_10 kI_0 ?_
    refine va_mmax hx hb (hml.trans hl.1.symm) hown (hts _ ml_J1_92) (hts _ mS_max) (hts _ mI_math) (hts _ mC_max) (Nat.le_of_ble_eq_true rfl) (Nat.le_of_ble_eq_true rfl) (Nat.zero_le _) (Nat.zero_le _) dJ1_indexOf_4cfef_11 ?_
    obtain ⟨x3, ex3, hf⟩ := lt_e hf
    refine lv_nm ex3 ?_
    refine lv_istore_n (lv' := [(2, .int x3), (0, .ref (zT v 21)), (1, .int a1), (3, .int a3)]) hx hb dJ1_indexOf_4cfef_14 rfl hl (by decide) rfl (fun ls hl => ?_)
    refine lv_iload_n hx hb dJ1_indexOf_4cfef_15 rfl (lv_at hl 3 rfl) ?_
    refine lv_aload_n hx hb dJ1_indexOf_4cfef_16 rfl (lv_at hl 1 rfl) ?_
    refine va_tlen (v := 8) hx hb (xs_b1 hk) hS kN_8 dJ1_indexOf_4cfef_17 ?_
    refine va_mmin hx hb (hml.trans hl.1.symm) hown (hts _ ml_J1_38) (hts _ mS_min) (hts _ mI_math) (hts _ mC_min) (Nat.le_of_ble_eq_true rfl) (Nat.le_of_ble_eq_true rfl) (Nat.zero_le _) (Nat.zero_le _) dJ1_indexOf_4cfef_18 ?_
    obtain ⟨x4, ex4, hf⟩ := lt_e hf
    refine lv_nm ex4 ?_
    refine lv_istore_n (lv' := [(3, .int x4), (2, .int x3), (0, .ref (zT v 21)), (1, .int a1)]) hx hb dJ1_indexOf_4cfef_21 rfl hl (by decide) rfl (fun ls hl => ?_)
    refine lv_iload_n hx hb dJ1_indexOf_4cfef_22 rfl (lv_at hl 1 rfl) ?_
    refine lv_iload_n hx hb dJ1_indexOf_4cfef_23 rfl (lv_at hl 0 rfl) ?_
    refine lv_icmp_lt (tgt := 29) hx hb dJ1_indexOf_4cfef_24 (by decide) (fun c5 => ?_) (fun c5 => ?_)
    · have hf := ite_t c5 hf
      refine lv_aload_n hx hb dJ1_indexOf_4cfef_29 rfl (lv_at hl 2 rfl) ?_
      refine lv_iload_n hx hb dJ1_indexOf_4cfef_30 rfl (lv_at hl 3 rfl) ?_
      refine lv_iload_n hx hb dJ1_indexOf_4cfef_31 rfl (lv_at hl 1 rfl) ?_
      refine lv_iload_n hx hb dJ1_indexOf_4cfef_32 rfl (lv_at hl 0 rfl) ?_
      obtain ⟨q6, eq6, hf⟩ := bd_e hf
      refine zki hS (zrS (As := [.ref (zT v 21), .int a1, .int x3, .int x4]) (rest := []) okX hx hb hml hown hts hk hP hS (t_J1_indexOfChar_4cfef_1 l v N a1 x3 x4 q1.2 _ eq6) sk_J1_indexOfChar_4cfef ml_J1_95 rfl rfl ⟨(Nat.le_of_ble_eq_true rfl), (Nat.le_of_ble_eq_true rfl)⟩ rfl hl.1 rfl (Nat.le_of_ble_eq_true rfl) dJ1_indexOf_4cfef_33) (fun H locs hP hS => ?_)
      exact hret _ _ _ _ _ _ (Or.inl rfl) (Option.some.inj hf) hP hS dJ1_indexOf_4cfef_36
    · have hf := ite_f c5 hf
      refine lv_iconst (v := -1) hx hb dJ1_indexOf_4cfef_27 kI_m1 ?_
      exact hret _ _ _ _ _ _ (Or.inl rfl) (Option.some.inj hf) hP hS dJ1_indexOf_4cfef_28
  · have hf := ite_t c2 hf
    refine lv_iconst (v := -1) hx hb dJ1_indexOf_4cfef_7 kI_m1 ?_
    exact hret _ _ _ _ _ _ (Or.inl rfl) (Option.some.inj hf) hP hS dJ1_indexOf_4cfef_8
abbrev rm_J0_indexOf_7cf53_1 : Room := { frames := 3, cells := 0, slots := 0, locals := 108 }
set_option maxRecDepth 100000 in
theorem t_J0_indexOf_7cf53_1 (l : Launch) (v : Ev) (N : Nat) (a1 : Int32) (a2 : Int32) (g : Sg) (res : Int32 × Sg) (hf : x_J0_indexOf_7cf53_1 N a1 a2 g = some res) : Ci l yJ0_indexOf_7cf53 cJ0_indexOf_7cf53 3 .int rm_J0_indexOf_7cf53_1 pX v [.ref (zT v 11), .int a1, .int a2] g res := by
  refine ze_i (by decide +kernel) (Nat.le_of_ble_eq_true rfl) ?_
  intro p e s m args below meth c Q ls hcx hret hP hl
  obtain ⟨hx, hb, hml, hown, hts, hk⟩ := hcx
  have hown : s.vm.findClass RJ0 = some m.cls := hown
  have hS : va_S (An nX v) s.heap s.heap [] := va_S.rf
  have hl : lv_has ls 3 [(0, .ref (zT v 11)), (1, .int a1), (2, .int a2)] := hl
  unfold x_J0_indexOf_7cf53_1 at hf
  refine lv_aload_n hx hb dJ0_indexOf_7cf53_0 rfl (lv_at hl 0 rfl) ?_
  obtain ⟨q1, eq1, hf⟩ := bd_e hf
  refine zki hS (zrV (As := []) (rest := []) okX hx hb hml hown hts hk hP hS (t_J0_isLatin1_aae02_1 l v N g _ eq1) vk_J0_isLatin1_aae02 ml_J0_492 rfl rfl ⟨(Nat.le_of_ble_eq_true rfl), (Nat.le_of_ble_eq_true rfl)⟩ (vk_recv (i := 1) (xs_str hk) (by decide) hS) rfl hl.1 rfl (Nat.le_of_ble_eq_true rfl) dJ0_indexOf_7cf53_1) (fun H locs hP hS => ?_)
  refine lv_if_eq (tgt := 23) hx hb dJ0_indexOf_7cf53_4 (by decide) (fun c2 => ?_) (fun c2 => ?_)
  · have hf := ite_t c2 hf
    exact nn_e hf
  · have hf := ite_f c2 hf
    refine lv_aload_n hx hb dJ0_indexOf_7cf53_7 rfl (lv_at hl 0 rfl) ?_
    refine vk_getf hx hb (((xs_str hk).1 1 (by decide)).2.2.1) hS hown (hts _ fl_J0_9) (fun _ h9 => h9) dJ0_indexOf_7cf53_8 ?_
    refine lv_iload_n hx hb dJ0_indexOf_7cf53_11 rfl (lv_at hl 1 rfl) ?_
    refine lv_iload_n hx hb dJ0_indexOf_7cf53_12 rfl (lv_at hl 2 rfl) ?_
    refine lv_aload_n hx hb dJ0_indexOf_7cf53_13 rfl (lv_at hl 0 rfl) ?_
    obtain ⟨q3, eq3, hf⟩ := bd_e hf
    refine zki hS (zrV (As := []) (rest := [.int a2, .int a1, .ref (zT v 21)]) okX hx hb hml hown hts hk hP hS (t_J0_length_8abf5_1 l v N q1.2 _ eq3) vk_J0_length_8abf5 ml_J0_505 rfl rfl ⟨(Nat.le_of_ble_eq_true rfl), (Nat.le_of_ble_eq_true rfl)⟩ (vk_recv (i := 1) (xs_str hk) (by decide) hS) rfl hl.1 rfl (Nat.le_of_ble_eq_true rfl) dJ0_indexOf_7cf53_14) (fun H locs hP hS => ?_)
    obtain ⟨q4, eq4, hf⟩ := bd_e hf
    refine zki hS (zrS (As := [.ref (zT v 21), .int a1, .int a2, .int q3.1]) (rest := []) okX hx hb hml hown hts hk hP hS (t_J1_indexOf_4cfef_1 l v N a1 a2 q3.1 q3.2 _ eq4) sk_J1_indexOf_4cfef ml_J0_637 rfl rfl ⟨(Nat.le_of_ble_eq_true rfl), (Nat.le_of_ble_eq_true rfl)⟩ rfl hl.1 rfl (Nat.le_of_ble_eq_true rfl) dJ0_indexOf_7cf53_17) (fun H locs hP hS => ?_)
    refine lv_goto (tgt := 36) hx hb dJ0_indexOf_7cf53_20 (by decide) ?_
    exact hret _ _ _ _ _ _ (Or.inl rfl) (Option.some.inj hf) hP hS dJ0_indexOf_7cf53_36
abbrev rm_J0_indexOf_0f7a4_1 : Room := { frames := 4, cells := 0, slots := 0, locals := 130 }
set_option maxRecDepth 100000 in
theorem t_J0_indexOf_0f7a4_1 (l : Launch) (v : Ev) (N : Nat) (a1 : Int32) (g : Sg) (res : Int32 × Sg) (hf : x_J0_indexOf_0f7a4_1 N a1 g = some res) : Ci l yJ0_indexOf_0f7a4 cJ0_indexOf_0f7a4 2 .int rm_J0_indexOf_0f7a4_1 pX v [.ref (zT v 11), .int a1] g res := by
  refine ze_i (by decide +kernel) (Nat.le_of_ble_eq_true rfl) ?_
  intro p e s m args below meth c Q ls hcx hret hP hl
  obtain ⟨hx, hb, hml, hown, hts, hk⟩ := hcx
  have hown : s.vm.findClass RJ0 = some m.cls := hown
  have hS : va_S (An nX v) s.heap s.heap [] := va_S.rf
  have hl : lv_has ls 2 [(0, .ref (zT v 11)), (1, .int a1)] := hl
  unfold x_J0_indexOf_0f7a4_1 at hf
  refine lv_aload_n hx hb dJ0_indexOf_0f7a4_0 rfl (lv_at hl 0 rfl) ?_
  refine lv_iload_n hx hb dJ0_indexOf_0f7a4_1 rfl (lv_at hl 1 rfl) ?_
  refine lv_iconst (v := 0) hx hb dJ0_indexOf_0f7a4_2 kI_0 ?_
  obtain ⟨q1, eq1, hf⟩ := bd_e hf
  refine zki hS (zrV (As := [.int a1, .int (0 : Int32)]) (rest := []) okX hx hb hml hown hts hk hP hS (t_J0_indexOf_7cf53_1 l v N a1 (0 : Int32) g _ eq1) vk_J0_indexOf_7cf53 ml_J0_633 rfl rfl ⟨(Nat.le_of_ble_eq_true rfl), (Nat.le_of_ble_eq_true rfl)⟩ (vk_recv (i := 1) (xs_str hk) (by decide) hS) rfl hl.1 rfl (Nat.le_of_ble_eq_true rfl) dJ0_indexOf_0f7a4_3) (fun H locs hP hS => ?_)
  exact hret _ _ _ _ _ _ (Or.inl rfl) (Option.some.inj hf) hP hS dJ0_indexOf_0f7a4_6
