theorem kI_5 : Int32.ofInt (5) = (5 : Int32) := by decide +kernel
theorem kI_3 : Int32.ofInt (3) = (3 : Int32) := by decide +kernel
theorem kB_10 : (Int8.ofInt (10)).toInt32 = (10 : Int32) := by decide +kernel
theorem kz_2 : ¬ (2 : Int32) = 0 := by decide +kernel
theorem kz_3 : ¬ (3 : Int32) = 0 := by decide +kernel
theorem kB_m2 : (Int8.ofInt (-2)).toInt32 = (-2 : Int32) := by decide +kernel
theorem sk_X0_giving : SOK yX0_giving cX0_giving 2 (some .int) 2 := sok_of (by decide +kernel)
theorem ml_X0_9 : Cond.methodLink RX0 9 yX0_giving ∈ WL := wl (by decide +kernel) rfl
theorem sk_X0_bound : SOK yX0_bound cX0_bound 2 (some .int) 2 := sok_of (by decide +kernel)
theorem ml_X0_15 : Cond.methodLink RX0 15 yX0_bound ∈ WL := wl (by decide +kernel) rfl
theorem kB_99 : (Int8.ofInt (99)).toInt32 = (99 : Int32) := by decide +kernel
theorem ml_X0_22 : Cond.methodLink RX0 22 Lib.Math.min.name ∈ WL := wl (by decide +kernel) rfl
theorem ml_X0_27 : Cond.methodLink RX0 27 Lib.Math.max.name ∈ WL := wl (by decide +kernel) rfl
theorem kB_6 : (Int8.ofInt (6)).toInt32 = (6 : Int32) := by decide +kernel
theorem fl_X1_9 : Cond.fieldLink RX1 9 "HalfASize$Least" "what" "I" ∈ WL := wl (by decide +kernel) rfl
theorem pd_I : parseFieldDescriptor "I" = some .int := by decide +kernel
theorem kc_X1_15 : Cond.constant RX1 15 (1000000) ∈ WL := wl (by decide +kernel) rfl
theorem fl_X1_16 : Cond.fieldLink RX1 16 "HalfASize$Least" "measure" "I" ∈ WL := wl (by decide +kernel) rfl
theorem fl_X5_9 : Cond.fieldLink RX5 9 "HalfASize$State" "left" "I" ∈ WL := wl (by decide +kernel) rfl
theorem fl_X5_15 : Cond.fieldLink RX5 15 "HalfASize$State" "right" "I" ∈ WL := wl (by decide +kernel) rfl
theorem fl_X5_18 : Cond.fieldLink RX5 18 "HalfASize$State" "hour" "I" ∈ WL := wl (by decide +kernel) rfl
theorem fl_X5_37 : Cond.fieldLink RX5 37 "HalfASize$State" "rule" "I" ∈ WL := wl (by decide +kernel) rfl
theorem fl_X5_40 : Cond.fieldLink RX5 40 "HalfASize$State" "makes" "I" ∈ WL := wl (by decide +kernel) rfl
theorem fl_X5_21 : Cond.fieldLink RX5 21 "HalfASize$State" "having" "[I" ∈ WL := wl (by decide +kernel) rfl
theorem kB_100 : (Int8.ofInt (100)).toInt32 = (100 : Int32) := by decide +kernel
theorem ml_X5_43 : Cond.methodLink RX5 43 arraycopyName ∈ WL := wl (by decide +kernel) rfl
theorem mN_ac : Cond.native arraycopyName ∈ WL := wl (by decide +kernel) rfl
theorem mS_ac : Cond.static arraycopyName ∈ WL := wl (by decide +kernel) rfl
theorem mI_sys : Cond.initialized "java/lang/System" ∈ WL := wl (by decide +kernel) rfl
theorem fl_X5_25 : Cond.fieldLink RX5 25 "HalfASize$State" "kind" "[I" ∈ WL := wl (by decide +kernel) rfl
theorem fl_X5_28 : Cond.fieldLink RX5 28 "HalfASize$State" "number" "[I" ∈ WL := wl (by decide +kernel) rfl
theorem fl_X5_31 : Cond.fieldLink RX5 31 "HalfASize$State" "run" "[I" ∈ WL := wl (by decide +kernel) rfl
theorem fl_X5_34 : Cond.fieldLink RX5 34 "HalfASize$State" "stock" "[I" ∈ WL := wl (by decide +kernel) rfl
theorem kB_20 : (Int8.ofInt (20)).toInt32 = (20 : Int32) := by decide +kernel
theorem vk_X5_shoes : VOK yX5_shoes cX5_shoes 1 (some .int) 0 := vok_of (by decide +kernel)
theorem ml_X5_49 : Cond.methodLink RX5 49 yX5_shoes ∈ WL := wl (by decide +kernel) rfl
theorem vk_X5_hasShoe : VOK yX5_hasShoe cX5_hasShoe 2 (some .boolean) 1 := vok_of (by decide +kernel)
theorem ml_X5_53 : Cond.methodLink RX5 53 yX5_hasShoe ∈ WL := wl (by decide +kernel) rfl
theorem kz_20 : ¬ (20 : Int32) = 0 := by decide +kernel
theorem sk_J6_bitCount_0f7a4 : SOK yJ6_bitCount_0f7a4 cJ6_bitCount_0f7a4 1 (some .int) 1 := sok_of (by decide +kernel)
theorem ml_X5_57 : Cond.methodLink RX5 57 yJ6_bitCount_0f7a4 ∈ WL := wl (by decide +kernel) rfl
theorem sk_X0_lengthOf : SOK yX0_lengthOf cX0_lengthOf 4 (some .int) 4 := sok_of (by decide +kernel)
theorem ml_X5_63 : Cond.methodLink RX5 63 yX0_lengthOf ∈ WL := wl (by decide +kernel) rfl
theorem vk_X5_lengthOf : VOK yX5_lengthOf cX5_lengthOf 3 (some .int) 1 := vok_of (by decide +kernel)
theorem ml_X5_69 : Cond.methodLink RX5 69 yX5_lengthOf ∈ WL := wl (by decide +kernel) rfl
theorem sk_X0_says : SOK yX0_says cX0_says 5 (some .int) 3 := sok_of (by decide +kernel)
theorem ml_X5_71 : Cond.methodLink RX5 71 yX0_says ∈ WL := wl (by decide +kernel) rfl
theorem ml_X5_75 : Cond.methodLink RX5 75 yX0_giving ∈ WL := wl (by decide +kernel) rfl
theorem vk_X5_seeming : VOK yX5_seeming cX5_seeming 3 (some .int) 1 := vok_of (by decide +kernel)
theorem ml_X5_79 : Cond.methodLink RX5 79 yX5_seeming ∈ WL := wl (by decide +kernel) rfl
theorem sk_X0_reach : SOK yX0_reach cX0_reach 3 (some .int) 3 := sok_of (by decide +kernel)
theorem ml_X5_82 : Cond.methodLink RX5 82 yX0_reach ∈ WL := wl (by decide +kernel) rfl
theorem vk_X5_reach : VOK yX5_reach cX5_reach 3 (some .int) 2 := vok_of (by decide +kernel)
theorem ml_X5_85 : Cond.methodLink RX5 85 yX5_reach ∈ WL := wl (by decide +kernel) rfl
theorem ml_X5_87 : Cond.methodLink RX5 87 Lib.Math.max.name ∈ WL := wl (by decide +kernel) rfl
theorem fl_X4_9 : Cond.fieldLink RX4 9 "HalfASize$Span" "least" "I" ∈ WL := wl (by decide +kernel) rfl
theorem fl_X4_15 : Cond.fieldLink RX4 15 "HalfASize$Span" "greatest" "I" ∈ WL := wl (by decide +kernel) rfl
theorem ml_X4_18 : Cond.methodLink RX4 18 Lib.Math.max.name ∈ WL := wl (by decide +kernel) rfl
theorem ml_X4_24 : Cond.methodLink RX4 24 yX5_reach ∈ WL := wl (by decide +kernel) rfl
theorem ml_X4_29 : Cond.methodLink RX4 29 Lib.Math.min.name ∈ WL := wl (by decide +kernel) rfl
theorem fl_X4_32 : Cond.fieldLink RX4 32 "HalfASize$State" "kind" "[I" ∈ WL := wl (by decide +kernel) rfl
theorem ml_X4_36 : Cond.methodLink RX4 36 yX5_seeming ∈ WL := wl (by decide +kernel) rfl
theorem ml_X4_40 : Cond.methodLink RX4 40 yX0_reach ∈ WL := wl (by decide +kernel) rfl
theorem fl_X3_9 : Cond.fieldLink RX3 9 "HalfASize$Sheets" "sort" "[I" ∈ WL := wl (by decide +kernel) rfl
theorem fl_X3_15 : Cond.fieldLink RX3 15 "HalfASize$Sheets" "size" "[I" ∈ WL := wl (by decide +kernel) rfl
theorem fl_X3_20 : Cond.fieldLink RX3 20 "HalfASize$Sheets" "cells" "[[I" ∈ WL := wl (by decide +kernel) rfl
theorem sk_J7_fill_53178 : SOK yJ7_fill_53178 cJ7_fill_53178 4 none 2 := sok_of (by decide +kernel)
theorem ml_X3_23 : Cond.methodLink RX3 23 yJ7_fill_53178 ∈ WL := wl (by decide +kernel) rfl
theorem fl_X6_24 : Cond.fieldLink RX6 24 "HalfASize$Texts" "held" "I" ∈ WL := wl (by decide +kernel) rfl
theorem fl_X6_28 : Cond.fieldLink RX6 28 "HalfASize$Reader" "steps" "[I" ∈ WL := wl (by decide +kernel) rfl
theorem fl_X6_9 : Cond.fieldLink RX6 9 "HalfASize$Texts" "steps" "[I" ∈ WL := wl (by decide +kernel) rfl
theorem kS_160 : (Int16.ofInt (160)).toInt32 = (160 : Int32) := by decide +kernel
theorem ml_X6_31 : Cond.methodLink RX6 31 arraycopyName ∈ WL := wl (by decide +kernel) rfl
theorem fl_X6_37 : Cond.fieldLink RX6 37 "HalfASize$Reader" "starts" "[I" ∈ WL := wl (by decide +kernel) rfl
theorem fl_X6_15 : Cond.fieldLink RX6 15 "HalfASize$Texts" "starts" "[I" ∈ WL := wl (by decide +kernel) rfl
theorem fl_X6_18 : Cond.fieldLink RX6 18 "HalfASize$Texts" "names" "[I" ∈ WL := wl (by decide +kernel) rfl
theorem fl_X6_21 : Cond.fieldLink RX6 21 "HalfASize$Texts" "stack" "[I" ∈ WL := wl (by decide +kernel) rfl
theorem kN_160 : Int32.ofNat 160 = (160 : Int32) := by decide +kernel
theorem sk_X6_joined : SOK yX6_joined cX6_joined 3 (some .int) 3 := sok_of (by decide +kernel)
theorem ml_X6_42 : Cond.methodLink RX6 42 yX6_joined ∈ WL := wl (by decide +kernel) rfl
theorem kB_22 : (Int8.ofInt (22)).toInt32 = (22 : Int32) := by decide +kernel
theorem kB_12 : (Int8.ofInt (12)).toInt32 = (12 : Int32) := by decide +kernel
theorem vk_X6_step : VOK yX6_step cX6_step 3 (some .int) 2 := vok_of (by decide +kernel)
theorem ml_X6_38 : Cond.methodLink RX6 38 yX6_step ∈ WL := wl (by decide +kernel) rfl
abbrev rm_X0_lengthOf : Room := { frames := 1, cells := 0, slots := 0, locals := 60 }
set_option maxRecDepth 100000 in
theorem t_X0_lengthOf (l : Launch) (v : Ev) (N : Nat) (a0 : Int32) (a1 : Int32) (a2 : Int32) (a3 : Int32) (g : Sg) (res : Int32 × Sg) (hf : x_X0_lengthOf N a0 a1 a2 a3 g = some res) : Ci l yX0_lengthOf cX0_lengthOf 4 .int rm_X0_lengthOf pX v [.int a0, .int a1, .int a2, .int a3] g res := by
  refine ze_i (by decide +kernel) (Nat.le_of_ble_eq_true rfl) ?_
  intro p e s m args below meth c Q ls hcx hret hP hl
  obtain ⟨hx, hb, hml, hown, hts, hk⟩ := hcx
  have hown : s.vm.findClass RX0 = some m.cls := hown
  have hS : va_S (An nX v) s.heap s.heap [] := va_S.rf
  have hl : lv_has ls 4 [(0, .int a0), (1, .int a1), (2, .int a2), (3, .int a3)] := hl
  unfold x_X0_lengthOf at hf
  refine lv_iload_n hx hb dX0_lengthOf_0 rfl (lv_at hl 0 rfl) ?_
  by_cases c1 : (a0).toInt < 1 ∨ 5 < (a0).toInt
  · have hf := ite_t c1 hf
    refine lv_tableOut (tgt := 71) hx hb dX0_lengthOf_1 c1 (by decide) ?_
    refine lv_iconst (v := 5) hx hb dX0_lengthOf_71 kI_5 ?_
    refine lv_iload_n hx hb dX0_lengthOf_72 rfl (lv_at hl 3 rfl) ?_
    refine lv_imul hx hb dX0_lengthOf_73 ?_
    refine lv_iload_n hx hb dX0_lengthOf_74 rfl (lv_at hl 2 rfl) ?_
    refine lv_iadd hx hb dX0_lengthOf_75 ?_
    exact hret _ _ _ _ _ _ (Or.inl rfl) (Option.some.inj hf) hP hS dX0_lengthOf_76
  · have hf := ite_f c1 hf
    by_cases c2 : ((a0).toInt - (1)).toNat = 0
    · have hf := ite_t c2 hf
      refine lv_tableIn (tgt := 36) hx hb dX0_lengthOf_1 (fun h => c1 (Or.inl h)) (fun h => c1 (Or.inr h)) (by rw [c2]; rfl) (by decide) ?_
      refine lv_iconst (v := 5) hx hb dX0_lengthOf_36 kI_5 ?_
      refine lv_iload_n hx hb dX0_lengthOf_37 rfl (lv_at hl 3 rfl) ?_
      refine lv_imul hx hb dX0_lengthOf_38 ?_
      refine lv_iload_n hx hb dX0_lengthOf_39 rfl (lv_at hl 2 rfl) ?_
      refine lv_iadd hx hb dX0_lengthOf_40 ?_
      refine lv_iload_n hx hb dX0_lengthOf_41 rfl (lv_at hl 1 rfl) ?_
      refine lv_isub hx hb dX0_lengthOf_42 ?_
      exact hret _ _ _ _ _ _ (Or.inl rfl) (Option.some.inj hf) hP hS dX0_lengthOf_43
    · have hf := ite_f c2 hf
      by_cases c3 : ((a0).toInt - (1)).toNat = 1
      · have hf := ite_t c3 hf
        refine lv_tableIn (tgt := 71) hx hb dX0_lengthOf_1 (fun h => c1 (Or.inl h)) (fun h => c1 (Or.inr h)) (by rw [c3]; rfl) (by decide) ?_
        refine lv_iconst (v := 5) hx hb dX0_lengthOf_71 kI_5 ?_
        refine lv_iload_n hx hb dX0_lengthOf_72 rfl (lv_at hl 3 rfl) ?_
        refine lv_imul hx hb dX0_lengthOf_73 ?_
        refine lv_iload_n hx hb dX0_lengthOf_74 rfl (lv_at hl 2 rfl) ?_
        refine lv_iadd hx hb dX0_lengthOf_75 ?_
        exact hret _ _ _ _ _ _ (Or.inl rfl) (Option.some.inj hf) hP hS dX0_lengthOf_76
      · have hf := ite_f c3 hf
        by_cases c4 : ((a0).toInt - (1)).toNat = 2
        · have hf := ite_t c4 hf
          refine lv_tableIn (tgt := 44) hx hb dX0_lengthOf_1 (fun h => c1 (Or.inl h)) (fun h => c1 (Or.inr h)) (by rw [c4]; rfl) (by decide) ?_
          refine lv_iconst (v := 5) hx hb dX0_lengthOf_44 kI_5 ?_
          refine lv_iload_n hx hb dX0_lengthOf_45 rfl (lv_at hl 3 rfl) ?_
          refine lv_imul hx hb dX0_lengthOf_46 ?_
          refine lv_iload_n hx hb dX0_lengthOf_47 rfl (lv_at hl 2 rfl) ?_
          refine lv_iadd hx hb dX0_lengthOf_48 ?_
          refine lv_iload_n hx hb dX0_lengthOf_49 rfl (lv_at hl 1 rfl) ?_
          refine lv_isub hx hb dX0_lengthOf_50 ?_
          refine lv_iconst (v := 3) hx hb dX0_lengthOf_51 kI_3 ?_
          refine lv_isub hx hb dX0_lengthOf_52 ?_
          exact hret _ _ _ _ _ _ (Or.inl rfl) (Option.some.inj hf) hP hS dX0_lengthOf_53
        · have hf := ite_f c4 hf
          by_cases c5 : ((a0).toInt - (1)).toNat = 3
          · have hf := ite_t c5 hf
            refine lv_tableIn (tgt := 54) hx hb dX0_lengthOf_1 (fun h => c1 (Or.inl h)) (fun h => c1 (Or.inr h)) (by rw [c5]; rfl) (by decide) ?_
            refine lv_iconst (v := 5) hx hb dX0_lengthOf_54 kI_5 ?_
            refine lv_iload_n hx hb dX0_lengthOf_55 rfl (lv_at hl 3 rfl) ?_
            refine lv_imul hx hb dX0_lengthOf_56 ?_
            refine lv_iload_n hx hb dX0_lengthOf_57 rfl (lv_at hl 2 rfl) ?_
            refine lv_iadd hx hb dX0_lengthOf_58 ?_
            refine lv_iconst (v := 2) hx hb dX0_lengthOf_59 kI_2 ?_
            refine lv_iadd hx hb dX0_lengthOf_60 ?_
            exact hret _ _ _ _ _ _ (Or.inl rfl) (Option.some.inj hf) hP hS dX0_lengthOf_61
          · have hf := ite_f c5 hf
            by_cases c6 : ((a0).toInt - (1)).toNat = 4
            · have hf := ite_t c6 hf
              refine lv_tableIn (tgt := 62) hx hb dX0_lengthOf_1 (fun h => c1 (Or.inl h)) (fun h => c1 (Or.inr h)) (by rw [c6]; rfl) (by decide) ?_
              refine lv_bipush (v := 10) hx hb dX0_lengthOf_62 kB_10 ?_
              refine lv_iload_n hx hb dX0_lengthOf_64 rfl (lv_at hl 3 rfl) ?_
              refine lv_iconst (v := 2) hx hb dX0_lengthOf_65 kI_2 ?_
              refine lv_idiv hx hb dX0_lengthOf_66 kz_2 ?_
              refine lv_imul hx hb dX0_lengthOf_67 ?_
              refine lv_iload_n hx hb dX0_lengthOf_68 rfl (lv_at hl 2 rfl) ?_
              refine lv_iadd hx hb dX0_lengthOf_69 ?_
              exact hret _ _ _ _ _ _ (Or.inl rfl) (Option.some.inj hf) hP hS dX0_lengthOf_70
            · have hf := ite_f c6 hf
              exact nn_e hf
abbrev rm_X0_giving : Room := { frames := 1, cells := 0, slots := 0, locals := 60 }
set_option maxRecDepth 100000 in
theorem t_X0_giving (l : Launch) (v : Ev) (N : Nat) (a0 : Int32) (a1 : Int32) (g : Sg) (res : Int32 × Sg) (hf : x_X0_giving N a0 a1 g = some res) : Ci l yX0_giving cX0_giving 2 .int rm_X0_giving pX v [.int a0, .int a1] g res := by
  refine ze_i (by decide +kernel) (Nat.le_of_ble_eq_true rfl) ?_
  intro p e s m args below meth c Q ls hcx hret hP hl
  obtain ⟨hx, hb, hml, hown, hts, hk⟩ := hcx
  have hown : s.vm.findClass RX0 = some m.cls := hown
  have hS : va_S (An nX v) s.heap s.heap [] := va_S.rf
  have hl : lv_has ls 2 [(0, .int a0), (1, .int a1)] := hl
  have wb10 : ∀ (y1 : Int32) (g : Sg) (hf : x_X0_giving_b10 N y1 g = some res) (H : Heap) (locs : List Loc) (ls : Array Slot) (hP : va_P (zD v) vwCl (pX.1 v g) H) (hS : va_S (An nX v) s.heap H locs) (hl : lv_has ls 2 [(1, .int y1)]), W p l e rm_X0_giving s m args below meth c H locs 0 0 Q (F0 m 10 ls []) := by
    intro y1 g hf H locs ls hP hS hl
    unfold x_X0_giving_b10 at hf
    refine lv_iload_n hx hb dX0_giving_10 rfl (lv_at hl 0 rfl) ?_
    refine lv_iconst (v := 3) hx hb dX0_giving_11 kI_3 ?_
    refine lv_idiv hx hb dX0_giving_12 kz_3 ?_
    refine lv_goto (tgt := 17) hx hb dX0_giving_13 (by decide) ?_
    exact hret _ _ _ _ _ _ (Or.inl rfl) (Option.some.inj hf) hP hS dX0_giving_17
  unfold x_X0_giving at hf
  refine lv_iload_n hx hb dX0_giving_0 rfl (lv_at hl 0 rfl) ?_
  refine lv_iconst (v := 2) hx hb dX0_giving_1 kI_2 ?_
  refine lv_icmp_eq (tgt := 10) hx hb dX0_giving_2 (by decide) (fun c1 => ?_) (fun c1 => ?_)
  · have hf := ite_t c1 hf
    exact wb10 a1 g hf _ _ _ hP hS (lv_sub hl [1] rfl)
  · have hf := ite_f c1 hf
    refine lv_iload_n hx hb dX0_giving_5 rfl (lv_at hl 0 rfl) ?_
    refine lv_iconst (v := 4) hx hb dX0_giving_6 kI_4 ?_
    refine lv_icmp_ne (tgt := 16) hx hb dX0_giving_7 (by decide) (fun c2 => ?_) (fun c2 => ?_)
    · have hf := ite_f c2 hf
      refine lv_iconst (v := 0) hx hb dX0_giving_16 kI_0 ?_
      exact hret _ _ _ _ _ _ (Or.inl rfl) (Option.some.inj hf) hP hS dX0_giving_17
    · have hf := ite_t c2 hf
      exact wb10 a1 g hf _ _ _ hP hS (lv_sub hl [1] rfl)
abbrev rm_X0_bound : Room := { frames := 1, cells := 0, slots := 0, locals := 60 }
set_option maxRecDepth 100000 in
theorem t_X0_bound (l : Launch) (v : Ev) (N : Nat) (a0 : Int32) (a1 : Int32) (g : Sg) (res : Int32 × Sg) (hf : x_X0_bound N a0 a1 g = some res) : Ci l yX0_bound cX0_bound 2 .int rm_X0_bound pX v [.int a0, .int a1] g res := by
  refine ze_i (by decide +kernel) (Nat.le_of_ble_eq_true rfl) ?_
  intro p e s m args below meth c Q ls hcx hret hP hl
  obtain ⟨hx, hb, hml, hown, hts, hk⟩ := hcx
  have hown : s.vm.findClass RX0 = some m.cls := hown
  have hS : va_S (An nX v) s.heap s.heap [] := va_S.rf
  have hl : lv_has ls 2 [(0, .int a0), (1, .int a1)] := hl
  unfold x_X0_bound at hf
  refine va_getsN hx hb (xs_z3 hk) hS hown (va_Nw.use rfl (xs_n3 hk)) (fun _ h9 => h9) dX0_bound_0 ?_
  refine lv_iconst (v := 4) hx hb dX0_bound_3 kI_4 ?_
  refine lv_iload_n hx hb dX0_bound_4 rfl (lv_at hl 0 rfl) ?_
  refine lv_imul hx hb dX0_bound_5 ?_
  refine lv_iload_n hx hb dX0_bound_6 rfl (lv_at hl 1 rfl) ?_
  refine lv_iadd hx hb dX0_bound_7 ?_
  refine lv_iconst (v := 1) hx hb dX0_bound_8 kI_1 ?_
  refine lv_iadd hx hb dX0_bound_9 ?_
  obtain ⟨c1, hf⟩ := gd_e hf
  refine va_ti hx hb (xs_t3 hk) hS (inb_in c1) rfl dX0_bound_10 ?_
  exact hret _ _ _ _ _ _ (Or.inl rfl) (Option.some.inj hf) hP hS dX0_bound_11
abbrev rm_X0_says : Room := { frames := 2, cells := 0, slots := 0, locals := 81 }
set_option maxRecDepth 100000 in
theorem t_X0_says (l : Launch) (v : Ev) (N : Nat) (a0 : Int32) (a1 : Int32) (a2 : Int32) (g : Sg) (res : Int32 × Sg) (hf : x_X0_says N a0 a1 a2 g = some res) : Ci l yX0_says cX0_says 5 .int rm_X0_says pX v [.int a0, .int a1, .int a2] g res := by
  refine ze_i (by decide +kernel) (Nat.le_of_ble_eq_true rfl) ?_
  intro p e s m args below meth c Q ls hcx hret hP hl
  obtain ⟨hx, hb, hml, hown, hts, hk⟩ := hcx
  have hown : s.vm.findClass RX0 = some m.cls := hown
  have hS : va_S (An nX v) s.heap s.heap [] := va_S.rf
  have hl : lv_has ls 5 [(0, .int a0), (1, .int a1), (2, .int a2)] := hl
  have wb31 : ∀ (h6 : Int32 × Int32 × Int32 × Int32 × Int32 × Sg → Option (Int32 × Sg)) (hh6 : ∀ x : Int32 × Int32 × Int32 × Int32 × Int32 × Sg, h6 x = some res → ∀ (H : Heap) (locs : List Loc) (ls : Array Slot), va_P (zD v) vwCl (pX.1 v x.2.2.2.2.2) H → va_S (An nX v) s.heap H locs → lv_has ls 5 [(0, .int x.1), (1, .int x.2.1), (2, .int x.2.2.1), (3, .int x.2.2.2.1), (4, .int x.2.2.2.2.1)] → W p l e rm_X0_says s m args below meth c H locs 0 0 Q (F0 m 6 ls [])) (y0 : Int32) (y1 : Int32) (y2 : Int32) (y3 : Int32) (y4 : Int32) (g : Sg) (hf : x_X0_says_b31 N h6 y0 y1 y2 y3 y4 g = some res) (H : Heap) (locs : List Loc) (ls : Array Slot) (hP : va_P (zD v) vwCl (pX.1 v g) H) (hS : va_S (An nX v) s.heap H locs) (hl : lv_has ls 5 [(0, .int y0), (1, .int y1), (2, .int y2), (3, .int y3), (4, .int y4)]), W p l e rm_X0_says s m args below meth c H locs 0 0 Q (F0 m 31 ls []) := by
    intro h6 hh6 y0 y1 y2 y3 y4 g hf H locs ls hP hS hl
    unfold x_X0_says_b31 at hf
    obtain ⟨x5, ex5, hf⟩ := lt_e hf
    refine lv_iinc (v := x5) (lv' := [(4, .int x5), (0, .int y0), (1, .int y1), (2, .int y2), (3, .int y3)]) hx hb dX0_says_31 hl (k := 4) rfl ((congrArg (fun z => y4 + z) kI_1).trans ex5.symm) (by decide) rfl (fun ls hl => ?_)
    refine lv_goto (tgt := 6) hx hb dX0_says_34 (by decide) ?_
    exact hh6 (y0, y1, y2, y3, x5, g) hf _ _ _ hP hS (lv_sub hl [1, 2, 3, 4, 0] rfl)
  have wL6 : ∀ (n : Nat) (x : Int32 × Int32 × Int32 × Int32 × Int32 × Sg), lp (x_X0_says_B6 N) n x = some res → ∀ (H : Heap) (locs : List Loc) (ls : Array Slot), va_P (zD v) vwCl (pX.1 v x.2.2.2.2.2) H → va_S (An nX v) s.heap H locs → lv_has ls 5 [(0, .int x.1), (1, .int x.2.1), (2, .int x.2.2.1), (3, .int x.2.2.2.1), (4, .int x.2.2.2.2.1)] → W p l e rm_X0_says s m args below meth c H locs 0 0 Q (F0 m 6 ls []) := by
    refine lp_w (P := fun x : Int32 × Int32 × Int32 × Int32 × Int32 × Sg => ∀ (H : Heap) (locs : List Loc) (ls : Array Slot), va_P (zD v) vwCl (pX.1 v x.2.2.2.2.2) H → va_S (An nX v) s.heap H locs → lv_has ls 5 [(0, .int x.1), (1, .int x.2.1), (2, .int x.2.2.1), (3, .int x.2.2.2.1), (4, .int x.2.2.2.2.1)] → W p l e rm_X0_says s m args below meth c H locs 0 0 Q (F0 m 6 ls [])) ?_
    intro h6 hh6 x hf H locs ls hP hS hl
    unfold x_X0_says_B6 at hf
    refine lv_iload hx hb dX0_says_6 (lv_at hl 4 rfl) ?_
    refine lv_iconst (v := 2) hx hb dX0_says_8 kI_2 ?_
    refine lv_icmp_gt (tgt := 37) hx hb dX0_says_9 (by decide) (fun c1 => ?_) (fun c1 => ?_)
    · have hf := ite_t c1 hf
      refine lv_iload_n hx hb dX0_says_37 rfl (lv_at hl 3 rfl) ?_
      exact hret _ _ _ _ _ _ (Or.inl rfl) (Option.some.inj hf) hP hS dX0_says_38
    · have hf := ite_f c1 hf
      refine lv_iload_n hx hb dX0_says_12 rfl (lv_at hl 2 rfl) ?_
      refine lv_iload_n hx hb dX0_says_13 rfl (lv_at hl 0 rfl) ?_
      refine lv_iload_n hx hb dX0_says_14 rfl (lv_at hl 1 rfl) ?_
      obtain ⟨q2, eq2, hf⟩ := bd_e hf
      refine zki hS (zrS (As := [.int x.1, .int x.2.1]) (rest := [.int x.2.2.1]) okX hx hb hml hown hts hk hP hS (t_X0_giving l v N x.1 x.2.1 x.2.2.2.2.2 _ eq2) sk_X0_giving ml_X0_9 rfl rfl ⟨(Nat.le_of_ble_eq_true rfl), (Nat.le_of_ble_eq_true rfl)⟩ rfl hl.1 rfl (Nat.le_of_ble_eq_true rfl) dX0_says_15) (fun H locs hP hS => ?_)
      refine lv_iadd hx hb dX0_says_18 ?_
      refine lv_iload_n hx hb dX0_says_19 rfl (lv_at hl 0 rfl) ?_
      refine lv_iload hx hb dX0_says_20 (lv_at hl 4 rfl) ?_
      obtain ⟨q3, eq3, hf⟩ := bd_e hf
      refine zki hS (zrS (As := [.int x.1, .int x.2.2.2.2.1]) (rest := [.int (x.2.2.1 + q2.1)]) okX hx hb hml hown hts hk hP hS (t_X0_bound l v N x.1 x.2.2.2.2.1 q2.2 _ eq3) sk_X0_bound ml_X0_15 rfl rfl ⟨(Nat.le_of_ble_eq_true rfl), (Nat.le_of_ble_eq_true rfl)⟩ rfl hl.1 rfl (Nat.le_of_ble_eq_true rfl) dX0_says_22) (fun H locs hP hS => ?_)
      refine lv_icmp_lt (tgt := 31) hx hb dX0_says_25 (by decide) (fun c4 => ?_) (fun c4 => ?_)
      · have hf := ite_t c4 hf
        exact wb31 h6 hh6 x.1 x.2.1 x.2.2.1 x.2.2.2.1 x.2.2.2.2.1 q3.2 hf _ _ _ hP hS (lv_sub hl [0, 1, 2, 3, 4] rfl)
      · have hf := ite_f c4 hf
        refine lv_iload hx hb dX0_says_28 (lv_at hl 4 rfl) ?_
        refine lv_istore_n (lv' := [(3, .int x.2.2.2.2.1), (0, .int x.1), (1, .int x.2.1), (2, .int x.2.2.1), (4, .int x.2.2.2.2.1)]) hx hb dX0_says_30 rfl hl (by decide) rfl (fun ls hl => ?_)
        exact wb31 h6 hh6 x.1 x.2.1 x.2.2.1 x.2.2.2.2.1 x.2.2.2.2.1 q3.2 hf _ _ _ hP hS (lv_sub hl [1, 2, 3, 0, 4] rfl)
  unfold x_X0_says at hf
  refine lv_bipush (v := -2) hx hb dX0_says_0 kB_m2 ?_
  refine lv_istore_n (lv' := [(3, .int (-2 : Int32)), (0, .int a0), (1, .int a1), (2, .int a2)]) hx hb dX0_says_2 rfl hl (by decide) rfl (fun ls hl => ?_)
  refine lv_iconst (v := -1) hx hb dX0_says_3 kI_m1 ?_
  refine lv_istore (lv' := [(4, .int (-1 : Int32)), (3, .int (-2 : Int32)), (0, .int a0), (1, .int a1), (2, .int a2)]) hx hb dX0_says_4 hl (by decide) rfl (fun ls hl => ?_)
  exact wL6 N (a0, a1, a2, (-2 : Int32), (-1 : Int32), g) hf _ _ _ hP hS (lv_sub hl [2, 3, 4, 1, 0] rfl)
abbrev rm_X0_reach : Room := { frames := 2, cells := 0, slots := 0, locals := 81 }
set_option maxRecDepth 100000 in
theorem t_X0_reach (l : Launch) (v : Ev) (N : Nat) (a0 : Int32) (a1 : Int32) (a2 : Int32) (g : Sg) (res : Int32 × Sg) (hf : x_X0_reach N a0 a1 a2 g = some res) : Ci l yX0_reach cX0_reach 3 .int rm_X0_reach pX v [.int a0, .int a1, .int a2] g res := by
  refine ze_i (by decide +kernel) (Nat.le_of_ble_eq_true rfl) ?_
  intro p e s m args below meth c Q ls hcx hret hP hl
  obtain ⟨hx, hb, hml, hown, hts, hk⟩ := hcx
  have hown : s.vm.findClass RX0 = some m.cls := hown
  have hS : va_S (An nX v) s.heap s.heap [] := va_S.rf
  have hl : lv_has ls 3 [(0, .int a0), (1, .int a1), (2, .int a2)] := hl
  unfold x_X0_reach at hf
  refine lv_iload_n hx hb dX0_reach_0 rfl (lv_at hl 2 rfl) ?_
  refine lv_bipush (v := -2) hx hb dX0_reach_1 kB_m2 ?_
  refine lv_icmp_gt (tgt := 9) hx hb dX0_reach_3 (by decide) (fun c1 => ?_) (fun c1 => ?_)
  · have hf := ite_t c1 hf
    refine lv_iload_n hx hb dX0_reach_9 rfl (lv_at hl 2 rfl) ?_
    refine lv_iconst (v := 2) hx hb dX0_reach_10 kI_2 ?_
    refine lv_icmp_le (tgt := 16) hx hb dX0_reach_11 (by decide) (fun c2 => ?_) (fun c2 => ?_)
    · have hf := ite_t c2 hf
      refine lv_iconst (v := -1) hx hb dX0_reach_16 kI_m1 ?_
      refine lv_bipush (v := 99) hx hb dX0_reach_17 kB_99 ?_
      refine lv_iload_n hx hb dX0_reach_19 rfl (lv_at hl 1 rfl) ?_
      refine lv_iload_n hx hb dX0_reach_20 rfl (lv_at hl 0 rfl) ?_
      refine lv_iload_n hx hb dX0_reach_21 rfl (lv_at hl 2 rfl) ?_
      obtain ⟨q3, eq3, hf⟩ := bd_e hf
      refine zki hS (zrS (As := [.int a0, .int a2]) (rest := [.int a1, .int (99 : Int32), .int (-1 : Int32)]) okX hx hb hml hown hts hk hP hS (t_X0_bound l v N a0 a2 g _ eq3) sk_X0_bound ml_X0_15 rfl rfl ⟨(Nat.le_of_ble_eq_true rfl), (Nat.le_of_ble_eq_true rfl)⟩ rfl hl.1 rfl (Nat.le_of_ble_eq_true rfl) dX0_reach_22) (fun H locs hP hS => ?_)
      refine lv_isub hx hb dX0_reach_25 ?_
      refine va_mmin hx hb (hml.trans hl.1.symm) hown (hts _ ml_X0_22) (hts _ mS_min) (hts _ mI_math) (hts _ mC_min) (Nat.le_of_ble_eq_true rfl) (Nat.le_of_ble_eq_true rfl) (Nat.zero_le _) (Nat.zero_le _) dX0_reach_26 ?_
      obtain ⟨x4, ex4, hf⟩ := lt_e hf
      refine lv_nm ex4 ?_
      refine va_mmax hx hb (hml.trans hl.1.symm) hown (hts _ ml_X0_27) (hts _ mS_max) (hts _ mI_math) (hts _ mC_max) (Nat.le_of_ble_eq_true rfl) (Nat.le_of_ble_eq_true rfl) (Nat.zero_le _) (Nat.zero_le _) dX0_reach_29 ?_
      obtain ⟨x5, ex5, hf⟩ := lt_e hf
      refine lv_nm ex5 ?_
      exact hret _ _ _ _ _ _ (Or.inl rfl) (Option.some.inj hf) hP hS dX0_reach_32
    · have hf := ite_f c2 hf
      refine lv_iconst (v := -1) hx hb dX0_reach_14 kI_m1 ?_
      exact hret _ _ _ _ _ _ (Or.inl rfl) (Option.some.inj hf) hP hS dX0_reach_15
  · have hf := ite_f c1 hf
    refine lv_bipush (v := 99) hx hb dX0_reach_6 kB_99 ?_
    exact hret _ _ _ _ _ _ (Or.inl rfl) (Option.some.inj hf) hP hS dX0_reach_8
abbrev rm_X0_isUnder : Room := { frames := 1, cells := 0, slots := 0, locals := 60 }
set_option maxRecDepth 100000 in
theorem t_X0_isUnder (l : Launch) (v : Ev) (N : Nat) (a0 : Int32) (a1 : Int32) (g : Sg) (res : Int32 × Sg) (hf : x_X0_isUnder N a0 a1 g = some res) : Ci l yX0_isUnder cX0_isUnder 4 .boolean rm_X0_isUnder pX v [.int a0, .int a1] g res := by
  refine ze_i (by decide +kernel) (Nat.le_of_ble_eq_true rfl) ?_
  intro p e s m args below meth c Q ls hcx hret hP hl
  obtain ⟨hx, hb, hml, hown, hts, hk⟩ := hcx
  have hown : s.vm.findClass RX0 = some m.cls := hown
  have hS : va_S (An nX v) s.heap s.heap [] := va_S.rf
  have hl : lv_has ls 4 [(0, .int a0), (1, .int a1)] := hl
  have wL4 : ∀ (n : Nat) (x : Int32 × Int32 × Int32 × Sg), lp (x_X0_isUnder_B4 N) n x = some res → ∀ (H : Heap) (locs : List Loc) (ls : Array Slot), va_P (zD v) vwCl (pX.1 v x.2.2.2) H → va_S (An nX v) s.heap H locs → lv_has ls 4 [(1, .int x.1), (2, .int x.2.1), (3, .int x.2.2.1)] → W p l e rm_X0_isUnder s m args below meth c H locs 0 0 Q (F0 m 4 ls []) := by
    refine lp_w (P := fun x : Int32 × Int32 × Int32 × Sg => ∀ (H : Heap) (locs : List Loc) (ls : Array Slot), va_P (zD v) vwCl (pX.1 v x.2.2.2) H → va_S (An nX v) s.heap H locs → lv_has ls 4 [(1, .int x.1), (2, .int x.2.1), (3, .int x.2.2.1)] → W p l e rm_X0_isUnder s m args below meth c H locs 0 0 Q (F0 m 4 ls [])) ?_
    intro h4 hh4 x hf H locs ls hP hS hl
    unfold x_X0_isUnder_B4 at hf
    refine lv_iload_n hx hb dX0_isUnder_4 rfl (lv_at hl 2 rfl) ?_
    refine lv_bipush (v := 6) hx hb dX0_isUnder_5 kB_6 ?_
    refine lv_icmp_ge (tgt := 34) hx hb dX0_isUnder_7 (by decide) (fun c1 => ?_) (fun c1 => ?_)
    · have hf := ite_t c1 hf
      refine lv_iconst (v := 0) hx hb dX0_isUnder_34 kI_0 ?_
      exact hret _ _ _ _ _ _ (Or.inr rfl) (Option.some.inj hf) hP hS dX0_isUnder_35
    · have hf := ite_f c1 hf
      refine lv_iload_n hx hb dX0_isUnder_10 rfl (lv_at hl 1 rfl) ?_
      refine lv_iconst (v := -1) hx hb dX0_isUnder_11 kI_m1 ?_
      refine lv_icmp_eq (tgt := 34) hx hb dX0_isUnder_12 (by decide) (fun c2 => ?_) (fun c2 => ?_)
      · have hf := ite_t c2 hf
        refine lv_iconst (v := 0) hx hb dX0_isUnder_34 kI_0 ?_
        exact hret _ _ _ _ _ _ (Or.inr rfl) (Option.some.inj hf) hP hS dX0_isUnder_35
      · have hf := ite_f c2 hf
        refine lv_iload_n hx hb dX0_isUnder_15 rfl (lv_at hl 1 rfl) ?_
        refine lv_iload_n hx hb dX0_isUnder_16 rfl (lv_at hl 0 rfl) ?_
        refine lv_icmp_ne (tgt := 22) hx hb dX0_isUnder_17 (by decide) (fun c3 => ?_) (fun c3 => ?_)
        · have hf := ite_f c3 hf
          refine va_getsN hx hb (xs_z2 hk) hS hown (va_Nw.use rfl (xs_n2 hk)) (fun _ h9 => h9) dX0_isUnder_22 ?_
          refine lv_iload_n hx hb dX0_isUnder_25 rfl (lv_at hl 1 rfl) ?_
          obtain ⟨c4, hf⟩ := gd_e hf
          refine va_ti hx hb (xs_t2 hk) hS (inb_in c4) rfl dX0_isUnder_26 ?_
          obtain ⟨x5, ex5, hf⟩ := lt_e hf
          refine lv_nm ex5 ?_
          refine lv_istore_n (lv' := [(2, .int x5), (1, .int x.1), (3, .int x.2.2.1)]) hx hb dX0_isUnder_27 rfl hl (by decide) rfl (fun ls hl => ?_)
          obtain ⟨x6, ex6, hf⟩ := lt_e hf
          refine lv_iinc (v := x6) (lv' := [(3, .int x6), (2, .int x5), (1, .int x.1)]) hx hb dX0_isUnder_28 hl (k := 2) rfl ((congrArg (fun z => x.2.2.1 + z) kI_1).trans ex6.symm) (by decide) rfl (fun ls hl => ?_)
          refine lv_goto (tgt := 4) hx hb dX0_isUnder_31 (by decide) ?_
          exact hh4 (x.1, x5, x6, x.2.2.2) hf _ _ _ hP hS (lv_sub hl [2, 1, 0] rfl)
        · have hf := ite_t c3 hf
          refine lv_iconst (v := 1) hx hb dX0_isUnder_20 kI_1 ?_
          exact hret _ _ _ _ _ _ (Or.inr rfl) (Option.some.inj hf) hP hS dX0_isUnder_21
  unfold x_X0_isUnder at hf
  refine lv_iload_n hx hb dX0_isUnder_0 rfl (lv_at hl 0 rfl) ?_
  refine lv_istore_n (lv' := [(2, .int a0), (0, .int a0), (1, .int a1)]) hx hb dX0_isUnder_1 rfl hl (by decide) rfl (fun ls hl => ?_)
  refine lv_iconst (v := 0) hx hb dX0_isUnder_2 kI_0 ?_
  refine lv_istore_n (lv' := [(3, .int (0 : Int32)), (2, .int a0), (0, .int a0), (1, .int a1)]) hx hb dX0_isUnder_3 rfl hl (by decide) rfl (fun ls hl => ?_)
  exact wL4 N (a1, a0, (0 : Int32), g) hf _ _ _ hP hS (lv_sub hl [3, 1, 0] rfl)
abbrev rm_X1_clear_7 : Room := { frames := 1, cells := 0, slots := 0, locals := 60 }
set_option maxRecDepth 100000 in
theorem t_X1_clear_7 (l : Launch) (v : Ev) (N : Nat) (g : Sg) (res : Sg) (hf : x_X1_clear_7 N g = some res) : Cv l yX1_clear cX1_clear 1 rm_X1_clear_7 pX v [.ref (zA v 7)] g res := by
  refine ze_v (by decide +kernel) (Nat.le_of_ble_eq_true rfl) ?_
  intro p e s m args below meth c Q ls hcx hret hP hl
  obtain ⟨hx, hb, hml, hown, hts, hk⟩ := hcx
  have hown : s.vm.findClass RX1 = some m.cls := hown
  have hS : va_S (An nX v) s.heap s.heap [] := va_S.rf
  have hl : lv_has ls 1 [(0, .ref (zA v 7))] := hl
  unfold x_X1_clear_7 at hf
  refine lv_aload_n hx hb dX1_clear_0 rfl (lv_at hl 0 rfl) ?_
  refine lv_iconst (v := -1) hx hb dX1_clear_1 kI_m1 ?_
  refine va_put (D := zD v) (ci := 0) (v := .int (-1 : Int32)) (ty := .int) (C := RX1) (T := TX1) (N := 2) hx hb hts iX1 tyX1 tyX1_ok nmX1 hown hk.1 hP (zw_D okX hk _) hS 7 rfl rfl 0 (by decide) (hts _ fl_X1_9) (fun _ h9 => h9) rfl pd_I rfl rfl (Nat.le_of_ble_eq_true rfl) dX1_clear_2 (fun H locs hP1 _ hS => ?_)
  have hP : va_P (zD v) vwCl (pX.1 v (up g 7 (upd (g 7) 0 (-1 : Int32)))) H := hP1
  obtain ⟨g1, eg1, hf⟩ := lt_e hf
  rw [← eg1] at hP
  refine lv_aload_n hx hb dX1_clear_5 rfl (lv_at hl 0 rfl) ?_
  refine lv_ldc (v := 1000000) hx hb hown (hts _ kc_X1_15) dX1_clear_6 ?_
  refine va_put (D := zD v) (ci := 0) (v := .int (1000000 : Int32)) (ty := .int) (C := RX1) (T := TX1) (N := 2) hx hb hts iX1 tyX1 tyX1_ok nmX1 hown hk.1 hP (zw_D okX hk _) hS 7 rfl rfl 1 (by decide) (hts _ fl_X1_16) (fun _ h9 => h9) rfl pd_I rfl rfl (Nat.le_of_ble_eq_true rfl) dX1_clear_8 (fun H locs hP1 _ hS => ?_)
  have hP : va_P (zD v) vwCl (pX.1 v (up g1 7 (upd (g1 7) 1 (1000000 : Int32)))) H := hP1
  obtain ⟨g2, eg2, hf⟩ := lt_e hf
  rw [← eg2] at hP
  exact hret _ _ _ _ _ (Option.some.inj hf) hP hS dX1_clear_11
abbrev rm_X1_clear_8 : Room := { frames := 1, cells := 0, slots := 0, locals := 60 }
set_option maxRecDepth 100000 in
theorem t_X1_clear_8 (l : Launch) (v : Ev) (N : Nat) (g : Sg) (res : Sg) (hf : x_X1_clear_8 N g = some res) : Cv l yX1_clear cX1_clear 1 rm_X1_clear_8 pX v [.ref (zA v 8)] g res := by
  refine ze_v (by decide +kernel) (Nat.le_of_ble_eq_true rfl) ?_
  intro p e s m args below meth c Q ls hcx hret hP hl
  obtain ⟨hx, hb, hml, hown, hts, hk⟩ := hcx
  have hown : s.vm.findClass RX1 = some m.cls := hown
  have hS : va_S (An nX v) s.heap s.heap [] := va_S.rf
  have hl : lv_has ls 1 [(0, .ref (zA v 8))] := hl
  unfold x_X1_clear_8 at hf
  refine lv_aload_n hx hb dX1_clear_0 rfl (lv_at hl 0 rfl) ?_
  refine lv_iconst (v := -1) hx hb dX1_clear_1 kI_m1 ?_
  refine va_put (D := zD v) (ci := 0) (v := .int (-1 : Int32)) (ty := .int) (C := RX1) (T := TX1) (N := 2) hx hb hts iX1 tyX1 tyX1_ok nmX1 hown hk.1 hP (zw_D okX hk _) hS 8 rfl rfl 0 (by decide) (hts _ fl_X1_9) (fun _ h9 => h9) rfl pd_I rfl rfl (Nat.le_of_ble_eq_true rfl) dX1_clear_2 (fun H locs hP1 _ hS => ?_)
  have hP : va_P (zD v) vwCl (pX.1 v (up g 8 (upd (g 8) 0 (-1 : Int32)))) H := hP1
  obtain ⟨g1, eg1, hf⟩ := lt_e hf
  rw [← eg1] at hP
  refine lv_aload_n hx hb dX1_clear_5 rfl (lv_at hl 0 rfl) ?_
  refine lv_ldc (v := 1000000) hx hb hown (hts _ kc_X1_15) dX1_clear_6 ?_
  refine va_put (D := zD v) (ci := 0) (v := .int (1000000 : Int32)) (ty := .int) (C := RX1) (T := TX1) (N := 2) hx hb hts iX1 tyX1 tyX1_ok nmX1 hown hk.1 hP (zw_D okX hk _) hS 8 rfl rfl 1 (by decide) (hts _ fl_X1_16) (fun _ h9 => h9) rfl pd_I rfl rfl (Nat.le_of_ble_eq_true rfl) dX1_clear_8 (fun H locs hP1 _ hS => ?_)
  have hP : va_P (zD v) vwCl (pX.1 v (up g1 8 (upd (g1 8) 1 (1000000 : Int32)))) H := hP1
  obtain ⟨g2, eg2, hf⟩ := lt_e hf
  rw [← eg2] at hP
  exact hret _ _ _ _ _ (Option.some.inj hf) hP hS dX1_clear_11
abbrev rm_X1_clear_9 : Room := { frames := 1, cells := 0, slots := 0, locals := 60 }
set_option maxRecDepth 100000 in
theorem t_X1_clear_9 (l : Launch) (v : Ev) (N : Nat) (g : Sg) (res : Sg) (hf : x_X1_clear_9 N g = some res) : Cv l yX1_clear cX1_clear 1 rm_X1_clear_9 pX v [.ref (zA v 9)] g res := by
  refine ze_v (by decide +kernel) (Nat.le_of_ble_eq_true rfl) ?_
  intro p e s m args below meth c Q ls hcx hret hP hl
  obtain ⟨hx, hb, hml, hown, hts, hk⟩ := hcx
  have hown : s.vm.findClass RX1 = some m.cls := hown
  have hS : va_S (An nX v) s.heap s.heap [] := va_S.rf
  have hl : lv_has ls 1 [(0, .ref (zA v 9))] := hl
  unfold x_X1_clear_9 at hf
  refine lv_aload_n hx hb dX1_clear_0 rfl (lv_at hl 0 rfl) ?_
  refine lv_iconst (v := -1) hx hb dX1_clear_1 kI_m1 ?_
  refine va_put (D := zD v) (ci := 0) (v := .int (-1 : Int32)) (ty := .int) (C := RX1) (T := TX1) (N := 2) hx hb hts iX1 tyX1 tyX1_ok nmX1 hown hk.1 hP (zw_D okX hk _) hS 9 rfl rfl 0 (by decide) (hts _ fl_X1_9) (fun _ h9 => h9) rfl pd_I rfl rfl (Nat.le_of_ble_eq_true rfl) dX1_clear_2 (fun H locs hP1 _ hS => ?_)
  have hP : va_P (zD v) vwCl (pX.1 v (up g 9 (upd (g 9) 0 (-1 : Int32)))) H := hP1
  obtain ⟨g1, eg1, hf⟩ := lt_e hf
  rw [← eg1] at hP
  refine lv_aload_n hx hb dX1_clear_5 rfl (lv_at hl 0 rfl) ?_
  refine lv_ldc (v := 1000000) hx hb hown (hts _ kc_X1_15) dX1_clear_6 ?_
  refine va_put (D := zD v) (ci := 0) (v := .int (1000000 : Int32)) (ty := .int) (C := RX1) (T := TX1) (N := 2) hx hb hts iX1 tyX1 tyX1_ok nmX1 hown hk.1 hP (zw_D okX hk _) hS 9 rfl rfl 1 (by decide) (hts _ fl_X1_16) (fun _ h9 => h9) rfl pd_I rfl rfl (Nat.le_of_ble_eq_true rfl) dX1_clear_8 (fun H locs hP1 _ hS => ?_)
  have hP : va_P (zD v) vwCl (pX.1 v (up g1 9 (upd (g1 9) 1 (1000000 : Int32)))) H := hP1
  obtain ⟨g2, eg2, hf⟩ := lt_e hf
  rw [← eg2] at hP
  exact hret _ _ _ _ _ (Option.some.inj hf) hP hS dX1_clear_11
abbrev rm_X1_offer_7 : Room := { frames := 1, cells := 0, slots := 0, locals := 60 }
set_option maxRecDepth 100000 in
theorem t_X1_offer_7 (l : Launch) (v : Ev) (N : Nat) (a1 : Int32) (a2 : Int32) (g : Sg) (res : Sg) (hf : x_X1_offer_7 N a1 a2 g = some res) : Cv l yX1_offer cX1_offer 3 rm_X1_offer_7 pX v [.ref (zA v 7), .int a1, .int a2] g res := by
  refine ze_v (by decide +kernel) (Nat.le_of_ble_eq_true rfl) ?_
  intro p e s m args below meth c Q ls hcx hret hP hl
  obtain ⟨hx, hb, hml, hown, hts, hk⟩ := hcx
  have hown : s.vm.findClass RX1 = some m.cls := hown
  have hS : va_S (An nX v) s.heap s.heap [] := va_S.rf
  have hl : lv_has ls 3 [(0, .ref (zA v 7)), (1, .int a1), (2, .int a2)] := hl
  unfold x_X1_offer_7 at hf
  refine lv_iload_n hx hb dX1_offer_0 rfl (lv_at hl 2 rfl) ?_
  refine lv_aload_n hx hb dX1_offer_1 rfl (lv_at hl 0 rfl) ?_
  refine va_get (D := zD v) (ci := 0) (v := .int (g 7 1)) (C := RX1) (T := TX1) (N := 2) hx hb hts iX1 hown hk.1 hP 7 rfl rfl 1 (by decide) (hts _ fl_X1_16) (fun _ h9 => h9) rfl dX1_offer_2 ?_
  refine lv_icmp_ge (tgt := 18) hx hb dX1_offer_5 (by decide) (fun c1 => ?_) (fun c1 => ?_)
  · have hf := ite_t c1 hf
    exact hret _ _ _ _ _ (Option.some.inj hf) hP hS dX1_offer_18
  · have hf := ite_f c1 hf
    refine lv_aload_n hx hb dX1_offer_8 rfl (lv_at hl 0 rfl) ?_
    refine lv_iload_n hx hb dX1_offer_9 rfl (lv_at hl 1 rfl) ?_
    refine va_put (D := zD v) (ci := 0) (v := .int a1) (ty := .int) (C := RX1) (T := TX1) (N := 2) hx hb hts iX1 tyX1 tyX1_ok nmX1 hown hk.1 hP (zw_D okX hk _) hS 7 rfl rfl 0 (by decide) (hts _ fl_X1_9) (fun _ h9 => h9) rfl pd_I rfl rfl (Nat.le_of_ble_eq_true rfl) dX1_offer_10 (fun H locs hP1 _ hS => ?_)
    have hP : va_P (zD v) vwCl (pX.1 v (up g 7 (upd (g 7) 0 a1))) H := hP1
    obtain ⟨g2, eg2, hf⟩ := lt_e hf
    rw [← eg2] at hP
    refine lv_aload_n hx hb dX1_offer_13 rfl (lv_at hl 0 rfl) ?_
    refine lv_iload_n hx hb dX1_offer_14 rfl (lv_at hl 2 rfl) ?_
    refine va_put (D := zD v) (ci := 0) (v := .int a2) (ty := .int) (C := RX1) (T := TX1) (N := 2) hx hb hts iX1 tyX1 tyX1_ok nmX1 hown hk.1 hP (zw_D okX hk _) hS 7 rfl rfl 1 (by decide) (hts _ fl_X1_16) (fun _ h9 => h9) rfl pd_I rfl rfl (Nat.le_of_ble_eq_true rfl) dX1_offer_15 (fun H locs hP1 _ hS => ?_)
    have hP : va_P (zD v) vwCl (pX.1 v (up g2 7 (upd (g2 7) 1 a2))) H := hP1
    obtain ⟨g3, eg3, hf⟩ := lt_e hf
    rw [← eg3] at hP
    exact hret _ _ _ _ _ (Option.some.inj hf) hP hS dX1_offer_18
abbrev rm_X1_offer_8 : Room := { frames := 1, cells := 0, slots := 0, locals := 60 }
set_option maxRecDepth 100000 in
theorem t_X1_offer_8 (l : Launch) (v : Ev) (N : Nat) (a1 : Int32) (a2 : Int32) (g : Sg) (res : Sg) (hf : x_X1_offer_8 N a1 a2 g = some res) : Cv l yX1_offer cX1_offer 3 rm_X1_offer_8 pX v [.ref (zA v 8), .int a1, .int a2] g res := by
  refine ze_v (by decide +kernel) (Nat.le_of_ble_eq_true rfl) ?_
  intro p e s m args below meth c Q ls hcx hret hP hl
  obtain ⟨hx, hb, hml, hown, hts, hk⟩ := hcx
  have hown : s.vm.findClass RX1 = some m.cls := hown
  have hS : va_S (An nX v) s.heap s.heap [] := va_S.rf
  have hl : lv_has ls 3 [(0, .ref (zA v 8)), (1, .int a1), (2, .int a2)] := hl
  unfold x_X1_offer_8 at hf
  refine lv_iload_n hx hb dX1_offer_0 rfl (lv_at hl 2 rfl) ?_
  refine lv_aload_n hx hb dX1_offer_1 rfl (lv_at hl 0 rfl) ?_
  refine va_get (D := zD v) (ci := 0) (v := .int (g 8 1)) (C := RX1) (T := TX1) (N := 2) hx hb hts iX1 hown hk.1 hP 8 rfl rfl 1 (by decide) (hts _ fl_X1_16) (fun _ h9 => h9) rfl dX1_offer_2 ?_
  refine lv_icmp_ge (tgt := 18) hx hb dX1_offer_5 (by decide) (fun c1 => ?_) (fun c1 => ?_)
  · have hf := ite_t c1 hf
    exact hret _ _ _ _ _ (Option.some.inj hf) hP hS dX1_offer_18
  · have hf := ite_f c1 hf
    refine lv_aload_n hx hb dX1_offer_8 rfl (lv_at hl 0 rfl) ?_
    refine lv_iload_n hx hb dX1_offer_9 rfl (lv_at hl 1 rfl) ?_
    refine va_put (D := zD v) (ci := 0) (v := .int a1) (ty := .int) (C := RX1) (T := TX1) (N := 2) hx hb hts iX1 tyX1 tyX1_ok nmX1 hown hk.1 hP (zw_D okX hk _) hS 8 rfl rfl 0 (by decide) (hts _ fl_X1_9) (fun _ h9 => h9) rfl pd_I rfl rfl (Nat.le_of_ble_eq_true rfl) dX1_offer_10 (fun H locs hP1 _ hS => ?_)
    have hP : va_P (zD v) vwCl (pX.1 v (up g 8 (upd (g 8) 0 a1))) H := hP1
    obtain ⟨g2, eg2, hf⟩ := lt_e hf
    rw [← eg2] at hP
    refine lv_aload_n hx hb dX1_offer_13 rfl (lv_at hl 0 rfl) ?_
    refine lv_iload_n hx hb dX1_offer_14 rfl (lv_at hl 2 rfl) ?_
    refine va_put (D := zD v) (ci := 0) (v := .int a2) (ty := .int) (C := RX1) (T := TX1) (N := 2) hx hb hts iX1 tyX1 tyX1_ok nmX1 hown hk.1 hP (zw_D okX hk _) hS 8 rfl rfl 1 (by decide) (hts _ fl_X1_16) (fun _ h9 => h9) rfl pd_I rfl rfl (Nat.le_of_ble_eq_true rfl) dX1_offer_15 (fun H locs hP1 _ hS => ?_)
    have hP : va_P (zD v) vwCl (pX.1 v (up g2 8 (upd (g2 8) 1 a2))) H := hP1
    obtain ⟨g3, eg3, hf⟩ := lt_e hf
    rw [← eg3] at hP
    exact hret _ _ _ _ _ (Option.some.inj hf) hP hS dX1_offer_18
abbrev rm_X1_offer_9 : Room := { frames := 1, cells := 0, slots := 0, locals := 60 }
set_option maxRecDepth 100000 in
theorem t_X1_offer_9 (l : Launch) (v : Ev) (N : Nat) (a1 : Int32) (a2 : Int32) (g : Sg) (res : Sg) (hf : x_X1_offer_9 N a1 a2 g = some res) : Cv l yX1_offer cX1_offer 3 rm_X1_offer_9 pX v [.ref (zA v 9), .int a1, .int a2] g res := by
  refine ze_v (by decide +kernel) (Nat.le_of_ble_eq_true rfl) ?_
  intro p e s m args below meth c Q ls hcx hret hP hl
  obtain ⟨hx, hb, hml, hown, hts, hk⟩ := hcx
  have hown : s.vm.findClass RX1 = some m.cls := hown
  have hS : va_S (An nX v) s.heap s.heap [] := va_S.rf
  have hl : lv_has ls 3 [(0, .ref (zA v 9)), (1, .int a1), (2, .int a2)] := hl
  unfold x_X1_offer_9 at hf
  refine lv_iload_n hx hb dX1_offer_0 rfl (lv_at hl 2 rfl) ?_
  refine lv_aload_n hx hb dX1_offer_1 rfl (lv_at hl 0 rfl) ?_
  refine va_get (D := zD v) (ci := 0) (v := .int (g 9 1)) (C := RX1) (T := TX1) (N := 2) hx hb hts iX1 hown hk.1 hP 9 rfl rfl 1 (by decide) (hts _ fl_X1_16) (fun _ h9 => h9) rfl dX1_offer_2 ?_
  refine lv_icmp_ge (tgt := 18) hx hb dX1_offer_5 (by decide) (fun c1 => ?_) (fun c1 => ?_)
  · have hf := ite_t c1 hf
    exact hret _ _ _ _ _ (Option.some.inj hf) hP hS dX1_offer_18
  · have hf := ite_f c1 hf
    refine lv_aload_n hx hb dX1_offer_8 rfl (lv_at hl 0 rfl) ?_
    refine lv_iload_n hx hb dX1_offer_9 rfl (lv_at hl 1 rfl) ?_
    refine va_put (D := zD v) (ci := 0) (v := .int a1) (ty := .int) (C := RX1) (T := TX1) (N := 2) hx hb hts iX1 tyX1 tyX1_ok nmX1 hown hk.1 hP (zw_D okX hk _) hS 9 rfl rfl 0 (by decide) (hts _ fl_X1_9) (fun _ h9 => h9) rfl pd_I rfl rfl (Nat.le_of_ble_eq_true rfl) dX1_offer_10 (fun H locs hP1 _ hS => ?_)
    have hP : va_P (zD v) vwCl (pX.1 v (up g 9 (upd (g 9) 0 a1))) H := hP1
    obtain ⟨g2, eg2, hf⟩ := lt_e hf
    rw [← eg2] at hP
    refine lv_aload_n hx hb dX1_offer_13 rfl (lv_at hl 0 rfl) ?_
    refine lv_iload_n hx hb dX1_offer_14 rfl (lv_at hl 2 rfl) ?_
    refine va_put (D := zD v) (ci := 0) (v := .int a2) (ty := .int) (C := RX1) (T := TX1) (N := 2) hx hb hts iX1 tyX1 tyX1_ok nmX1 hown hk.1 hP (zw_D okX hk _) hS 9 rfl rfl 1 (by decide) (hts _ fl_X1_16) (fun _ h9 => h9) rfl pd_I rfl rfl (Nat.le_of_ble_eq_true rfl) dX1_offer_15 (fun H locs hP1 _ hS => ?_)
    have hP : va_P (zD v) vwCl (pX.1 v (up g2 9 (upd (g2 9) 1 a2))) H := hP1
    obtain ⟨g3, eg3, hf⟩ := lt_e hf
    rw [← eg3] at hP
    exact hret _ _ _ _ _ (Option.some.inj hf) hP hS dX1_offer_18
abbrev rm_X5_takeOver_1 : Room := { frames := 1, cells := 0, slots := 0, locals := 120 }
set_option maxRecDepth 100000 in
theorem t_X5_takeOver_1 (l : Launch) (v : Ev) (N : Nat) (g : Sg) (res : Sg) (hf : x_X5_takeOver_1 N g = some res) : Cv l yX5_takeOver cX5_takeOver 2 rm_X5_takeOver_1 pX v [.ref (zA v 1), .ref (zA v 2)] g res := by
  refine ze_v (by decide +kernel) (Nat.le_of_ble_eq_true rfl) ?_
  intro p e s m args below meth c Q ls hcx hret hP hl
  obtain ⟨hx, hb, hml, hown, hts, hk⟩ := hcx
  have hown : s.vm.findClass RX5 = some m.cls := hown
  have hS : va_S (An nX v) s.heap s.heap [] := va_S.rf
  have hl : lv_has ls 2 [(0, .ref (zA v 1)), (1, .ref (zA v 2))] := hl
  unfold x_X5_takeOver_1 at hf
  refine lv_aload_n hx hb dX5_takeOver_0 rfl (lv_at hl 0 rfl) ?_
  refine lv_aload_n hx hb dX5_takeOver_1 rfl (lv_at hl 1 rfl) ?_
  refine va_get (D := zD v) (ci := 4) (v := .int (g 2 0)) (C := RX5) (T := TX5) (N := 10) hx hb hts iX5 hown hk.1 hP 2 rfl rfl 0 (by decide) (hts _ fl_X5_9) (fun _ h9 => h9) rfl dX5_takeOver_2 ?_
  refine va_put (D := zD v) (ci := 4) (v := .int (g 2 0)) (ty := .int) (C := RX5) (T := TX5) (N := 10) hx hb hts iX5 tyX5 tyX5_ok nmX5 hown hk.1 hP (zw_D okX hk _) hS 1 rfl rfl 0 (by decide) (hts _ fl_X5_9) (fun _ h9 => h9) rfl pd_I rfl rfl (Nat.le_of_ble_eq_true rfl) dX5_takeOver_5 (fun H locs hP1 _ hS => ?_)
  have hP : va_P (zD v) vwCl (pX.1 v (up g 1 (upd (g 1) 0 (g 2 0)))) H := hP1
  obtain ⟨g1, eg1, hf⟩ := lt_e hf
  rw [← eg1] at hP
  refine lv_aload_n hx hb dX5_takeOver_8 rfl (lv_at hl 0 rfl) ?_
  refine lv_aload_n hx hb dX5_takeOver_9 rfl (lv_at hl 1 rfl) ?_
  refine va_get (D := zD v) (ci := 4) (v := .int (g1 2 1)) (C := RX5) (T := TX5) (N := 10) hx hb hts iX5 hown hk.1 hP 2 rfl rfl 1 (by decide) (hts _ fl_X5_15) (fun _ h9 => h9) rfl dX5_takeOver_10 ?_
  refine va_put (D := zD v) (ci := 4) (v := .int (g1 2 1)) (ty := .int) (C := RX5) (T := TX5) (N := 10) hx hb hts iX5 tyX5 tyX5_ok nmX5 hown hk.1 hP (zw_D okX hk _) hS 1 rfl rfl 1 (by decide) (hts _ fl_X5_15) (fun _ h9 => h9) rfl pd_I rfl rfl (Nat.le_of_ble_eq_true rfl) dX5_takeOver_13 (fun H locs hP1 _ hS => ?_)
  have hP : va_P (zD v) vwCl (pX.1 v (up g1 1 (upd (g1 1) 1 (g1 2 1)))) H := hP1
  obtain ⟨g2, eg2, hf⟩ := lt_e hf
  rw [← eg2] at hP
  refine lv_aload_n hx hb dX5_takeOver_16 rfl (lv_at hl 0 rfl) ?_
  refine lv_aload_n hx hb dX5_takeOver_17 rfl (lv_at hl 1 rfl) ?_
  refine va_get (D := zD v) (ci := 4) (v := .int (g2 2 2)) (C := RX5) (T := TX5) (N := 10) hx hb hts iX5 hown hk.1 hP 2 rfl rfl 2 (by decide) (hts _ fl_X5_18) (fun _ h9 => h9) rfl dX5_takeOver_18 ?_
  refine va_put (D := zD v) (ci := 4) (v := .int (g2 2 2)) (ty := .int) (C := RX5) (T := TX5) (N := 10) hx hb hts iX5 tyX5 tyX5_ok nmX5 hown hk.1 hP (zw_D okX hk _) hS 1 rfl rfl 2 (by decide) (hts _ fl_X5_18) (fun _ h9 => h9) rfl pd_I rfl rfl (Nat.le_of_ble_eq_true rfl) dX5_takeOver_21 (fun H locs hP1 _ hS => ?_)
  have hP : va_P (zD v) vwCl (pX.1 v (up g2 1 (upd (g2 1) 2 (g2 2 2)))) H := hP1
  obtain ⟨g3, eg3, hf⟩ := lt_e hf
  rw [← eg3] at hP
  refine lv_aload_n hx hb dX5_takeOver_24 rfl (lv_at hl 0 rfl) ?_
  refine lv_aload_n hx hb dX5_takeOver_25 rfl (lv_at hl 1 rfl) ?_
  refine va_get (D := zD v) (ci := 4) (v := .int (g3 2 3)) (C := RX5) (T := TX5) (N := 10) hx hb hts iX5 hown hk.1 hP 2 rfl rfl 3 (by decide) (hts _ fl_X5_37) (fun _ h9 => h9) rfl dX5_takeOver_26 ?_
  refine va_put (D := zD v) (ci := 4) (v := .int (g3 2 3)) (ty := .int) (C := RX5) (T := TX5) (N := 10) hx hb hts iX5 tyX5 tyX5_ok nmX5 hown hk.1 hP (zw_D okX hk _) hS 1 rfl rfl 3 (by decide) (hts _ fl_X5_37) (fun _ h9 => h9) rfl pd_I rfl rfl (Nat.le_of_ble_eq_true rfl) dX5_takeOver_29 (fun H locs hP1 _ hS => ?_)
  have hP : va_P (zD v) vwCl (pX.1 v (up g3 1 (upd (g3 1) 3 (g3 2 3)))) H := hP1
  obtain ⟨g4, eg4, hf⟩ := lt_e hf
  rw [← eg4] at hP
  refine lv_aload_n hx hb dX5_takeOver_32 rfl (lv_at hl 0 rfl) ?_
  refine lv_aload_n hx hb dX5_takeOver_33 rfl (lv_at hl 1 rfl) ?_
  refine va_get (D := zD v) (ci := 4) (v := .int (g4 2 4)) (C := RX5) (T := TX5) (N := 10) hx hb hts iX5 hown hk.1 hP 2 rfl rfl 4 (by decide) (hts _ fl_X5_40) (fun _ h9 => h9) rfl dX5_takeOver_34 ?_
  refine va_put (D := zD v) (ci := 4) (v := .int (g4 2 4)) (ty := .int) (C := RX5) (T := TX5) (N := 10) hx hb hts iX5 tyX5 tyX5_ok nmX5 hown hk.1 hP (zw_D okX hk _) hS 1 rfl rfl 4 (by decide) (hts _ fl_X5_40) (fun _ h9 => h9) rfl pd_I rfl rfl (Nat.le_of_ble_eq_true rfl) dX5_takeOver_37 (fun H locs hP1 _ hS => ?_)
  have hP : va_P (zD v) vwCl (pX.1 v (up g4 1 (upd (g4 1) 4 (g4 2 4)))) H := hP1
  obtain ⟨g5, eg5, hf⟩ := lt_e hf
  rw [← eg5] at hP
  refine lv_aload_n hx hb dX5_takeOver_40 rfl (lv_at hl 1 rfl) ?_
  refine va_get (D := zD v) (ci := 4) (v := .ref (zA v 16)) (C := RX5) (T := TX5) (N := 10) hx hb hts iX5 hown hk.1 hP 2 rfl rfl 5 (by decide) (hts _ fl_X5_21) (fun _ h9 => h9) rfl dX5_takeOver_41 ?_
  refine lv_iconst (v := 0) hx hb dX5_takeOver_44 kI_0 ?_
  refine lv_aload_n hx hb dX5_takeOver_45 rfl (lv_at hl 0 rfl) ?_
  refine va_get (D := zD v) (ci := 4) (v := .ref (zA v 11)) (C := RX5) (T := TX5) (N := 10) hx hb hts iX5 hown hk.1 hP 1 rfl rfl 5 (by decide) (hts _ fl_X5_21) (fun _ h9 => h9) rfl dX5_takeOver_46 ?_
  refine lv_iconst (v := 0) hx hb dX5_takeOver_49 kI_0 ?_
  refine lv_bipush (v := 100) hx hb dX5_takeOver_50 kB_100 ?_
  obtain ⟨c6, hf⟩ := gd_e hf
  have c6 := acb_e c6
  refine va_copyi hx hb (hml.trans hl.1.symm) hown (hts _ ml_X5_43) (hts _ mN_ac) (hts _ mS_ac) (hts _ mI_sys) hk.1 hP (zw_D okX hk _) hS 16 11 0 0 rfl rfl rfl rfl rfl c6.1 c6.2.1 c6.2.2.1 c6.2.2.2.1 c6.2.2.2.2 (fun _ _ => rfl) (Nat.le_of_ble_eq_true rfl) (Nat.le_of_ble_eq_true rfl) dX5_takeOver_52 (fun H locs hP1 _ hS => ?_)
  have hP : va_P (zD v) vwCl (pX.1 v (up g5 11 (va_cpy (g5 16) (g5 11) ((0 : Int32)).toNatClampNeg ((0 : Int32)).toNatClampNeg ((100 : Int32)).toNatClampNeg))) H := hP1
  obtain ⟨g7, eg7, hf⟩ := lt_e hf
  rw [← eg7] at hP
  refine lv_aload_n hx hb dX5_takeOver_55 rfl (lv_at hl 1 rfl) ?_
  refine va_get (D := zD v) (ci := 4) (v := .ref (zA v 17)) (C := RX5) (T := TX5) (N := 10) hx hb hts iX5 hown hk.1 hP 2 rfl rfl 6 (by decide) (hts _ fl_X5_25) (fun _ h9 => h9) rfl dX5_takeOver_56 ?_
  refine lv_iconst (v := 0) hx hb dX5_takeOver_59 kI_0 ?_
  refine lv_aload_n hx hb dX5_takeOver_60 rfl (lv_at hl 0 rfl) ?_
  refine va_get (D := zD v) (ci := 4) (v := .ref (zA v 12)) (C := RX5) (T := TX5) (N := 10) hx hb hts iX5 hown hk.1 hP 1 rfl rfl 6 (by decide) (hts _ fl_X5_25) (fun _ h9 => h9) rfl dX5_takeOver_61 ?_
  refine lv_iconst (v := 0) hx hb dX5_takeOver_64 kI_0 ?_
  refine lv_iconst (v := 5) hx hb dX5_takeOver_65 kI_5 ?_
  obtain ⟨c8, hf⟩ := gd_e hf
  have c8 := acb_e c8
  refine va_copyi hx hb (hml.trans hl.1.symm) hown (hts _ ml_X5_43) (hts _ mN_ac) (hts _ mS_ac) (hts _ mI_sys) hk.1 hP (zw_D okX hk _) hS 17 12 0 0 rfl rfl rfl rfl rfl c8.1 c8.2.1 c8.2.2.1 c8.2.2.2.1 c8.2.2.2.2 (fun _ _ => rfl) (Nat.le_of_ble_eq_true rfl) (Nat.le_of_ble_eq_true rfl) dX5_takeOver_66 (fun H locs hP1 _ hS => ?_)
  have hP : va_P (zD v) vwCl (pX.1 v (up g7 12 (va_cpy (g7 17) (g7 12) ((0 : Int32)).toNatClampNeg ((0 : Int32)).toNatClampNeg ((5 : Int32)).toNatClampNeg))) H := hP1
  obtain ⟨g9, eg9, hf⟩ := lt_e hf
  rw [← eg9] at hP
  refine lv_aload_n hx hb dX5_takeOver_69 rfl (lv_at hl 1 rfl) ?_
  refine va_get (D := zD v) (ci := 4) (v := .ref (zA v 18)) (C := RX5) (T := TX5) (N := 10) hx hb hts iX5 hown hk.1 hP 2 rfl rfl 7 (by decide) (hts _ fl_X5_28) (fun _ h9 => h9) rfl dX5_takeOver_70 ?_
  refine lv_iconst (v := 0) hx hb dX5_takeOver_73 kI_0 ?_
  refine lv_aload_n hx hb dX5_takeOver_74 rfl (lv_at hl 0 rfl) ?_
  refine va_get (D := zD v) (ci := 4) (v := .ref (zA v 13)) (C := RX5) (T := TX5) (N := 10) hx hb hts iX5 hown hk.1 hP 1 rfl rfl 7 (by decide) (hts _ fl_X5_28) (fun _ h9 => h9) rfl dX5_takeOver_75 ?_
  refine lv_iconst (v := 0) hx hb dX5_takeOver_78 kI_0 ?_
  refine lv_iconst (v := 5) hx hb dX5_takeOver_79 kI_5 ?_
  obtain ⟨c10, hf⟩ := gd_e hf
  have c10 := acb_e c10
  refine va_copyi hx hb (hml.trans hl.1.symm) hown (hts _ ml_X5_43) (hts _ mN_ac) (hts _ mS_ac) (hts _ mI_sys) hk.1 hP (zw_D okX hk _) hS 18 13 0 0 rfl rfl rfl rfl rfl c10.1 c10.2.1 c10.2.2.1 c10.2.2.2.1 c10.2.2.2.2 (fun _ _ => rfl) (Nat.le_of_ble_eq_true rfl) (Nat.le_of_ble_eq_true rfl) dX5_takeOver_80 (fun H locs hP1 _ hS => ?_)
  have hP : va_P (zD v) vwCl (pX.1 v (up g9 13 (va_cpy (g9 18) (g9 13) ((0 : Int32)).toNatClampNeg ((0 : Int32)).toNatClampNeg ((5 : Int32)).toNatClampNeg))) H := hP1
  obtain ⟨g11, eg11, hf⟩ := lt_e hf
  rw [← eg11] at hP
  refine lv_aload_n hx hb dX5_takeOver_83 rfl (lv_at hl 1 rfl) ?_
  refine va_get (D := zD v) (ci := 4) (v := .ref (zA v 19)) (C := RX5) (T := TX5) (N := 10) hx hb hts iX5 hown hk.1 hP 2 rfl rfl 8 (by decide) (hts _ fl_X5_31) (fun _ h9 => h9) rfl dX5_takeOver_84 ?_
  refine lv_iconst (v := 0) hx hb dX5_takeOver_87 kI_0 ?_
  refine lv_aload_n hx hb dX5_takeOver_88 rfl (lv_at hl 0 rfl) ?_
  refine va_get (D := zD v) (ci := 4) (v := .ref (zA v 14)) (C := RX5) (T := TX5) (N := 10) hx hb hts iX5 hown hk.1 hP 1 rfl rfl 8 (by decide) (hts _ fl_X5_31) (fun _ h9 => h9) rfl dX5_takeOver_89 ?_
  refine lv_iconst (v := 0) hx hb dX5_takeOver_92 kI_0 ?_
  refine lv_iconst (v := 5) hx hb dX5_takeOver_93 kI_5 ?_
  obtain ⟨c12, hf⟩ := gd_e hf
  have c12 := acb_e c12
  refine va_copyi hx hb (hml.trans hl.1.symm) hown (hts _ ml_X5_43) (hts _ mN_ac) (hts _ mS_ac) (hts _ mI_sys) hk.1 hP (zw_D okX hk _) hS 19 14 0 0 rfl rfl rfl rfl rfl c12.1 c12.2.1 c12.2.2.1 c12.2.2.2.1 c12.2.2.2.2 (fun _ _ => rfl) (Nat.le_of_ble_eq_true rfl) (Nat.le_of_ble_eq_true rfl) dX5_takeOver_94 (fun H locs hP1 _ hS => ?_)
  have hP : va_P (zD v) vwCl (pX.1 v (up g11 14 (va_cpy (g11 19) (g11 14) ((0 : Int32)).toNatClampNeg ((0 : Int32)).toNatClampNeg ((5 : Int32)).toNatClampNeg))) H := hP1
  obtain ⟨g13, eg13, hf⟩ := lt_e hf
  rw [← eg13] at hP
  refine lv_aload_n hx hb dX5_takeOver_97 rfl (lv_at hl 1 rfl) ?_
  refine va_get (D := zD v) (ci := 4) (v := .ref (zA v 20)) (C := RX5) (T := TX5) (N := 10) hx hb hts iX5 hown hk.1 hP 2 rfl rfl 9 (by decide) (hts _ fl_X5_34) (fun _ h9 => h9) rfl dX5_takeOver_98 ?_
  refine lv_iconst (v := 0) hx hb dX5_takeOver_101 kI_0 ?_
  refine lv_aload_n hx hb dX5_takeOver_102 rfl (lv_at hl 0 rfl) ?_
  refine va_get (D := zD v) (ci := 4) (v := .ref (zA v 15)) (C := RX5) (T := TX5) (N := 10) hx hb hts iX5 hown hk.1 hP 1 rfl rfl 9 (by decide) (hts _ fl_X5_34) (fun _ h9 => h9) rfl dX5_takeOver_103 ?_
  refine lv_iconst (v := 0) hx hb dX5_takeOver_106 kI_0 ?_
  refine lv_iconst (v := 5) hx hb dX5_takeOver_107 kI_5 ?_
  obtain ⟨c14, hf⟩ := gd_e hf
  have c14 := acb_e c14
  refine va_copyi hx hb (hml.trans hl.1.symm) hown (hts _ ml_X5_43) (hts _ mN_ac) (hts _ mS_ac) (hts _ mI_sys) hk.1 hP (zw_D okX hk _) hS 20 15 0 0 rfl rfl rfl rfl rfl c14.1 c14.2.1 c14.2.2.1 c14.2.2.2.1 c14.2.2.2.2 (fun _ _ => rfl) (Nat.le_of_ble_eq_true rfl) (Nat.le_of_ble_eq_true rfl) dX5_takeOver_108 (fun H locs hP1 _ hS => ?_)
  have hP : va_P (zD v) vwCl (pX.1 v (up g13 15 (va_cpy (g13 20) (g13 15) ((0 : Int32)).toNatClampNeg ((0 : Int32)).toNatClampNeg ((5 : Int32)).toNatClampNeg))) H := hP1
  obtain ⟨g15, eg15, hf⟩ := lt_e hf
  rw [← eg15] at hP
  exact hret _ _ _ _ _ (Option.some.inj hf) hP hS dX5_takeOver_111
abbrev rm_X5_takeOver_2 : Room := { frames := 1, cells := 0, slots := 0, locals := 120 }
set_option maxRecDepth 100000 in
theorem t_X5_takeOver_2 (l : Launch) (v : Ev) (N : Nat) (g : Sg) (res : Sg) (hf : x_X5_takeOver_2 N g = some res) : Cv l yX5_takeOver cX5_takeOver 2 rm_X5_takeOver_2 pX v [.ref (zA v 2), .ref (zA v 1)] g res := by
  refine ze_v (by decide +kernel) (Nat.le_of_ble_eq_true rfl) ?_
  intro p e s m args below meth c Q ls hcx hret hP hl
  obtain ⟨hx, hb, hml, hown, hts, hk⟩ := hcx
  have hown : s.vm.findClass RX5 = some m.cls := hown
  have hS : va_S (An nX v) s.heap s.heap [] := va_S.rf
  have hl : lv_has ls 2 [(0, .ref (zA v 2)), (1, .ref (zA v 1))] := hl
  unfold x_X5_takeOver_2 at hf
  refine lv_aload_n hx hb dX5_takeOver_0 rfl (lv_at hl 0 rfl) ?_
  refine lv_aload_n hx hb dX5_takeOver_1 rfl (lv_at hl 1 rfl) ?_
  refine va_get (D := zD v) (ci := 4) (v := .int (g 1 0)) (C := RX5) (T := TX5) (N := 10) hx hb hts iX5 hown hk.1 hP 1 rfl rfl 0 (by decide) (hts _ fl_X5_9) (fun _ h9 => h9) rfl dX5_takeOver_2 ?_
  refine va_put (D := zD v) (ci := 4) (v := .int (g 1 0)) (ty := .int) (C := RX5) (T := TX5) (N := 10) hx hb hts iX5 tyX5 tyX5_ok nmX5 hown hk.1 hP (zw_D okX hk _) hS 2 rfl rfl 0 (by decide) (hts _ fl_X5_9) (fun _ h9 => h9) rfl pd_I rfl rfl (Nat.le_of_ble_eq_true rfl) dX5_takeOver_5 (fun H locs hP1 _ hS => ?_)
  have hP : va_P (zD v) vwCl (pX.1 v (up g 2 (upd (g 2) 0 (g 1 0)))) H := hP1
  obtain ⟨g1, eg1, hf⟩ := lt_e hf
  rw [← eg1] at hP
  refine lv_aload_n hx hb dX5_takeOver_8 rfl (lv_at hl 0 rfl) ?_
  refine lv_aload_n hx hb dX5_takeOver_9 rfl (lv_at hl 1 rfl) ?_
  refine va_get (D := zD v) (ci := 4) (v := .int (g1 1 1)) (C := RX5) (T := TX5) (N := 10) hx hb hts iX5 hown hk.1 hP 1 rfl rfl 1 (by decide) (hts _ fl_X5_15) (fun _ h9 => h9) rfl dX5_takeOver_10 ?_
  refine va_put (D := zD v) (ci := 4) (v := .int (g1 1 1)) (ty := .int) (C := RX5) (T := TX5) (N := 10) hx hb hts iX5 tyX5 tyX5_ok nmX5 hown hk.1 hP (zw_D okX hk _) hS 2 rfl rfl 1 (by decide) (hts _ fl_X5_15) (fun _ h9 => h9) rfl pd_I rfl rfl (Nat.le_of_ble_eq_true rfl) dX5_takeOver_13 (fun H locs hP1 _ hS => ?_)
  have hP : va_P (zD v) vwCl (pX.1 v (up g1 2 (upd (g1 2) 1 (g1 1 1)))) H := hP1
  obtain ⟨g2, eg2, hf⟩ := lt_e hf
  rw [← eg2] at hP
  refine lv_aload_n hx hb dX5_takeOver_16 rfl (lv_at hl 0 rfl) ?_
  refine lv_aload_n hx hb dX5_takeOver_17 rfl (lv_at hl 1 rfl) ?_
  refine va_get (D := zD v) (ci := 4) (v := .int (g2 1 2)) (C := RX5) (T := TX5) (N := 10) hx hb hts iX5 hown hk.1 hP 1 rfl rfl 2 (by decide) (hts _ fl_X5_18) (fun _ h9 => h9) rfl dX5_takeOver_18 ?_
  refine va_put (D := zD v) (ci := 4) (v := .int (g2 1 2)) (ty := .int) (C := RX5) (T := TX5) (N := 10) hx hb hts iX5 tyX5 tyX5_ok nmX5 hown hk.1 hP (zw_D okX hk _) hS 2 rfl rfl 2 (by decide) (hts _ fl_X5_18) (fun _ h9 => h9) rfl pd_I rfl rfl (Nat.le_of_ble_eq_true rfl) dX5_takeOver_21 (fun H locs hP1 _ hS => ?_)
  have hP : va_P (zD v) vwCl (pX.1 v (up g2 2 (upd (g2 2) 2 (g2 1 2)))) H := hP1
  obtain ⟨g3, eg3, hf⟩ := lt_e hf
  rw [← eg3] at hP
  refine lv_aload_n hx hb dX5_takeOver_24 rfl (lv_at hl 0 rfl) ?_
  refine lv_aload_n hx hb dX5_takeOver_25 rfl (lv_at hl 1 rfl) ?_
  refine va_get (D := zD v) (ci := 4) (v := .int (g3 1 3)) (C := RX5) (T := TX5) (N := 10) hx hb hts iX5 hown hk.1 hP 1 rfl rfl 3 (by decide) (hts _ fl_X5_37) (fun _ h9 => h9) rfl dX5_takeOver_26 ?_
  refine va_put (D := zD v) (ci := 4) (v := .int (g3 1 3)) (ty := .int) (C := RX5) (T := TX5) (N := 10) hx hb hts iX5 tyX5 tyX5_ok nmX5 hown hk.1 hP (zw_D okX hk _) hS 2 rfl rfl 3 (by decide) (hts _ fl_X5_37) (fun _ h9 => h9) rfl pd_I rfl rfl (Nat.le_of_ble_eq_true rfl) dX5_takeOver_29 (fun H locs hP1 _ hS => ?_)
  have hP : va_P (zD v) vwCl (pX.1 v (up g3 2 (upd (g3 2) 3 (g3 1 3)))) H := hP1
  obtain ⟨g4, eg4, hf⟩ := lt_e hf
  rw [← eg4] at hP
  refine lv_aload_n hx hb dX5_takeOver_32 rfl (lv_at hl 0 rfl) ?_
  refine lv_aload_n hx hb dX5_takeOver_33 rfl (lv_at hl 1 rfl) ?_
  refine va_get (D := zD v) (ci := 4) (v := .int (g4 1 4)) (C := RX5) (T := TX5) (N := 10) hx hb hts iX5 hown hk.1 hP 1 rfl rfl 4 (by decide) (hts _ fl_X5_40) (fun _ h9 => h9) rfl dX5_takeOver_34 ?_
  refine va_put (D := zD v) (ci := 4) (v := .int (g4 1 4)) (ty := .int) (C := RX5) (T := TX5) (N := 10) hx hb hts iX5 tyX5 tyX5_ok nmX5 hown hk.1 hP (zw_D okX hk _) hS 2 rfl rfl 4 (by decide) (hts _ fl_X5_40) (fun _ h9 => h9) rfl pd_I rfl rfl (Nat.le_of_ble_eq_true rfl) dX5_takeOver_37 (fun H locs hP1 _ hS => ?_)
  have hP : va_P (zD v) vwCl (pX.1 v (up g4 2 (upd (g4 2) 4 (g4 1 4)))) H := hP1
  obtain ⟨g5, eg5, hf⟩ := lt_e hf
  rw [← eg5] at hP
  refine lv_aload_n hx hb dX5_takeOver_40 rfl (lv_at hl 1 rfl) ?_
  refine va_get (D := zD v) (ci := 4) (v := .ref (zA v 11)) (C := RX5) (T := TX5) (N := 10) hx hb hts iX5 hown hk.1 hP 1 rfl rfl 5 (by decide) (hts _ fl_X5_21) (fun _ h9 => h9) rfl dX5_takeOver_41 ?_
  refine lv_iconst (v := 0) hx hb dX5_takeOver_44 kI_0 ?_
  refine lv_aload_n hx hb dX5_takeOver_45 rfl (lv_at hl 0 rfl) ?_
  refine va_get (D := zD v) (ci := 4) (v := .ref (zA v 16)) (C := RX5) (T := TX5) (N := 10) hx hb hts iX5 hown hk.1 hP 2 rfl rfl 5 (by decide) (hts _ fl_X5_21) (fun _ h9 => h9) rfl dX5_takeOver_46 ?_
  refine lv_iconst (v := 0) hx hb dX5_takeOver_49 kI_0 ?_
  refine lv_bipush (v := 100) hx hb dX5_takeOver_50 kB_100 ?_
  obtain ⟨c6, hf⟩ := gd_e hf
  have c6 := acb_e c6
  refine va_copyi hx hb (hml.trans hl.1.symm) hown (hts _ ml_X5_43) (hts _ mN_ac) (hts _ mS_ac) (hts _ mI_sys) hk.1 hP (zw_D okX hk _) hS 11 16 0 0 rfl rfl rfl rfl rfl c6.1 c6.2.1 c6.2.2.1 c6.2.2.2.1 c6.2.2.2.2 (fun _ _ => rfl) (Nat.le_of_ble_eq_true rfl) (Nat.le_of_ble_eq_true rfl) dX5_takeOver_52 (fun H locs hP1 _ hS => ?_)
  have hP : va_P (zD v) vwCl (pX.1 v (up g5 16 (va_cpy (g5 11) (g5 16) ((0 : Int32)).toNatClampNeg ((0 : Int32)).toNatClampNeg ((100 : Int32)).toNatClampNeg))) H := hP1
  obtain ⟨g7, eg7, hf⟩ := lt_e hf
  rw [← eg7] at hP
  refine lv_aload_n hx hb dX5_takeOver_55 rfl (lv_at hl 1 rfl) ?_
  refine va_get (D := zD v) (ci := 4) (v := .ref (zA v 12)) (C := RX5) (T := TX5) (N := 10) hx hb hts iX5 hown hk.1 hP 1 rfl rfl 6 (by decide) (hts _ fl_X5_25) (fun _ h9 => h9) rfl dX5_takeOver_56 ?_
  refine lv_iconst (v := 0) hx hb dX5_takeOver_59 kI_0 ?_
  refine lv_aload_n hx hb dX5_takeOver_60 rfl (lv_at hl 0 rfl) ?_
  refine va_get (D := zD v) (ci := 4) (v := .ref (zA v 17)) (C := RX5) (T := TX5) (N := 10) hx hb hts iX5 hown hk.1 hP 2 rfl rfl 6 (by decide) (hts _ fl_X5_25) (fun _ h9 => h9) rfl dX5_takeOver_61 ?_
  refine lv_iconst (v := 0) hx hb dX5_takeOver_64 kI_0 ?_
  refine lv_iconst (v := 5) hx hb dX5_takeOver_65 kI_5 ?_
  obtain ⟨c8, hf⟩ := gd_e hf
  have c8 := acb_e c8
  refine va_copyi hx hb (hml.trans hl.1.symm) hown (hts _ ml_X5_43) (hts _ mN_ac) (hts _ mS_ac) (hts _ mI_sys) hk.1 hP (zw_D okX hk _) hS 12 17 0 0 rfl rfl rfl rfl rfl c8.1 c8.2.1 c8.2.2.1 c8.2.2.2.1 c8.2.2.2.2 (fun _ _ => rfl) (Nat.le_of_ble_eq_true rfl) (Nat.le_of_ble_eq_true rfl) dX5_takeOver_66 (fun H locs hP1 _ hS => ?_)
  have hP : va_P (zD v) vwCl (pX.1 v (up g7 17 (va_cpy (g7 12) (g7 17) ((0 : Int32)).toNatClampNeg ((0 : Int32)).toNatClampNeg ((5 : Int32)).toNatClampNeg))) H := hP1
  obtain ⟨g9, eg9, hf⟩ := lt_e hf
  rw [← eg9] at hP
  refine lv_aload_n hx hb dX5_takeOver_69 rfl (lv_at hl 1 rfl) ?_
  refine va_get (D := zD v) (ci := 4) (v := .ref (zA v 13)) (C := RX5) (T := TX5) (N := 10) hx hb hts iX5 hown hk.1 hP 1 rfl rfl 7 (by decide) (hts _ fl_X5_28) (fun _ h9 => h9) rfl dX5_takeOver_70 ?_
  refine lv_iconst (v := 0) hx hb dX5_takeOver_73 kI_0 ?_
  refine lv_aload_n hx hb dX5_takeOver_74 rfl (lv_at hl 0 rfl) ?_
  refine va_get (D := zD v) (ci := 4) (v := .ref (zA v 18)) (C := RX5) (T := TX5) (N := 10) hx hb hts iX5 hown hk.1 hP 2 rfl rfl 7 (by decide) (hts _ fl_X5_28) (fun _ h9 => h9) rfl dX5_takeOver_75 ?_
  refine lv_iconst (v := 0) hx hb dX5_takeOver_78 kI_0 ?_
  refine lv_iconst (v := 5) hx hb dX5_takeOver_79 kI_5 ?_
  obtain ⟨c10, hf⟩ := gd_e hf
  have c10 := acb_e c10
  refine va_copyi hx hb (hml.trans hl.1.symm) hown (hts _ ml_X5_43) (hts _ mN_ac) (hts _ mS_ac) (hts _ mI_sys) hk.1 hP (zw_D okX hk _) hS 13 18 0 0 rfl rfl rfl rfl rfl c10.1 c10.2.1 c10.2.2.1 c10.2.2.2.1 c10.2.2.2.2 (fun _ _ => rfl) (Nat.le_of_ble_eq_true rfl) (Nat.le_of_ble_eq_true rfl) dX5_takeOver_80 (fun H locs hP1 _ hS => ?_)
  have hP : va_P (zD v) vwCl (pX.1 v (up g9 18 (va_cpy (g9 13) (g9 18) ((0 : Int32)).toNatClampNeg ((0 : Int32)).toNatClampNeg ((5 : Int32)).toNatClampNeg))) H := hP1
  obtain ⟨g11, eg11, hf⟩ := lt_e hf
  rw [← eg11] at hP
  refine lv_aload_n hx hb dX5_takeOver_83 rfl (lv_at hl 1 rfl) ?_
  refine va_get (D := zD v) (ci := 4) (v := .ref (zA v 14)) (C := RX5) (T := TX5) (N := 10) hx hb hts iX5 hown hk.1 hP 1 rfl rfl 8 (by decide) (hts _ fl_X5_31) (fun _ h9 => h9) rfl dX5_takeOver_84 ?_
  refine lv_iconst (v := 0) hx hb dX5_takeOver_87 kI_0 ?_
  refine lv_aload_n hx hb dX5_takeOver_88 rfl (lv_at hl 0 rfl) ?_
  refine va_get (D := zD v) (ci := 4) (v := .ref (zA v 19)) (C := RX5) (T := TX5) (N := 10) hx hb hts iX5 hown hk.1 hP 2 rfl rfl 8 (by decide) (hts _ fl_X5_31) (fun _ h9 => h9) rfl dX5_takeOver_89 ?_
  refine lv_iconst (v := 0) hx hb dX5_takeOver_92 kI_0 ?_
  refine lv_iconst (v := 5) hx hb dX5_takeOver_93 kI_5 ?_
  obtain ⟨c12, hf⟩ := gd_e hf
  have c12 := acb_e c12
  refine va_copyi hx hb (hml.trans hl.1.symm) hown (hts _ ml_X5_43) (hts _ mN_ac) (hts _ mS_ac) (hts _ mI_sys) hk.1 hP (zw_D okX hk _) hS 14 19 0 0 rfl rfl rfl rfl rfl c12.1 c12.2.1 c12.2.2.1 c12.2.2.2.1 c12.2.2.2.2 (fun _ _ => rfl) (Nat.le_of_ble_eq_true rfl) (Nat.le_of_ble_eq_true rfl) dX5_takeOver_94 (fun H locs hP1 _ hS => ?_)
  have hP : va_P (zD v) vwCl (pX.1 v (up g11 19 (va_cpy (g11 14) (g11 19) ((0 : Int32)).toNatClampNeg ((0 : Int32)).toNatClampNeg ((5 : Int32)).toNatClampNeg))) H := hP1
  obtain ⟨g13, eg13, hf⟩ := lt_e hf
  rw [← eg13] at hP
  refine lv_aload_n hx hb dX5_takeOver_97 rfl (lv_at hl 1 rfl) ?_
  refine va_get (D := zD v) (ci := 4) (v := .ref (zA v 15)) (C := RX5) (T := TX5) (N := 10) hx hb hts iX5 hown hk.1 hP 1 rfl rfl 9 (by decide) (hts _ fl_X5_34) (fun _ h9 => h9) rfl dX5_takeOver_98 ?_
  refine lv_iconst (v := 0) hx hb dX5_takeOver_101 kI_0 ?_
  refine lv_aload_n hx hb dX5_takeOver_102 rfl (lv_at hl 0 rfl) ?_
  refine va_get (D := zD v) (ci := 4) (v := .ref (zA v 20)) (C := RX5) (T := TX5) (N := 10) hx hb hts iX5 hown hk.1 hP 2 rfl rfl 9 (by decide) (hts _ fl_X5_34) (fun _ h9 => h9) rfl dX5_takeOver_103 ?_
  refine lv_iconst (v := 0) hx hb dX5_takeOver_106 kI_0 ?_
  refine lv_iconst (v := 5) hx hb dX5_takeOver_107 kI_5 ?_
  obtain ⟨c14, hf⟩ := gd_e hf
  have c14 := acb_e c14
  refine va_copyi hx hb (hml.trans hl.1.symm) hown (hts _ ml_X5_43) (hts _ mN_ac) (hts _ mS_ac) (hts _ mI_sys) hk.1 hP (zw_D okX hk _) hS 15 20 0 0 rfl rfl rfl rfl rfl c14.1 c14.2.1 c14.2.2.1 c14.2.2.2.1 c14.2.2.2.2 (fun _ _ => rfl) (Nat.le_of_ble_eq_true rfl) (Nat.le_of_ble_eq_true rfl) dX5_takeOver_108 (fun H locs hP1 _ hS => ?_)
  have hP : va_P (zD v) vwCl (pX.1 v (up g13 20 (va_cpy (g13 15) (g13 20) ((0 : Int32)).toNatClampNeg ((0 : Int32)).toNatClampNeg ((5 : Int32)).toNatClampNeg))) H := hP1
  obtain ⟨g15, eg15, hf⟩ := lt_e hf
  rw [← eg15] at hP
  exact hret _ _ _ _ _ (Option.some.inj hf) hP hS dX5_takeOver_111
abbrev rm_X5_hasMake : Room := { frames := 1, cells := 0, slots := 0, locals := 60 }
set_option maxRecDepth 100000 in
theorem t_X5_hasMake (l : Launch) (v : Ev) (N : Nat) (a1 : Int32) (g : Sg) (res : Int32 × Sg) (hf : x_X5_hasMake N a1 g = some res) : Ci l yX5_hasMake cX5_hasMake 2 .boolean rm_X5_hasMake pX v [.ref (zA v 1), .int a1] g res := by
  refine ze_i (by decide +kernel) (Nat.le_of_ble_eq_true rfl) ?_
  intro p e s m args below meth c Q ls hcx hret hP hl
  obtain ⟨hx, hb, hml, hown, hts, hk⟩ := hcx
  have hown : s.vm.findClass RX5 = some m.cls := hown
  have hS : va_S (An nX v) s.heap s.heap [] := va_S.rf
  have hl : lv_has ls 2 [(0, .ref (zA v 1)), (1, .int a1)] := hl
  unfold x_X5_hasMake at hf
  refine lv_iload_n hx hb dX5_hasMake_0 rfl (lv_at hl 1 rfl) ?_
  refine lv_if_lt (tgt := 16) hx hb dX5_hasMake_1 (by decide) (fun c1 => ?_) (fun c1 => ?_)
  · have hf := ite_t c1 hf
    refine lv_iconst (v := 0) hx hb dX5_hasMake_16 kI_0 ?_
    exact hret _ _ _ _ _ _ (Or.inr rfl) (Option.some.inj hf) hP hS dX5_hasMake_17
  · have hf := ite_f c1 hf
    refine lv_iload_n hx hb dX5_hasMake_4 rfl (lv_at hl 1 rfl) ?_
    refine lv_aload_n hx hb dX5_hasMake_5 rfl (lv_at hl 0 rfl) ?_
    refine va_get (D := zD v) (ci := 4) (v := .int (g 1 4)) (C := RX5) (T := TX5) (N := 10) hx hb hts iX5 hown hk.1 hP 1 rfl rfl 4 (by decide) (hts _ fl_X5_40) (fun _ h9 => h9) rfl dX5_hasMake_6 ?_
    refine lv_icmp_ge (tgt := 16) hx hb dX5_hasMake_9 (by decide) (fun c2 => ?_) (fun c2 => ?_)
    · have hf := ite_t c2 hf
      refine lv_iconst (v := 0) hx hb dX5_hasMake_16 kI_0 ?_
      exact hret _ _ _ _ _ _ (Or.inr rfl) (Option.some.inj hf) hP hS dX5_hasMake_17
    · have hf := ite_f c2 hf
      refine lv_iconst (v := 1) hx hb dX5_hasMake_12 kI_1 ?_
      refine lv_goto (tgt := 17) hx hb dX5_hasMake_13 (by decide) ?_
      exact hret _ _ _ _ _ _ (Or.inr rfl) (Option.some.inj hf) hP hS dX5_hasMake_17
abbrev rm_X5_shoes : Room := { frames := 1, cells := 0, slots := 0, locals := 60 }
set_option maxRecDepth 100000 in
theorem t_X5_shoes (l : Launch) (v : Ev) (N : Nat) (g : Sg) (res : Int32 × Sg) (hf : x_X5_shoes N g = some res) : Ci l yX5_shoes cX5_shoes 1 .int rm_X5_shoes pX v [.ref (zA v 1)] g res := by
  refine ze_i (by decide +kernel) (Nat.le_of_ble_eq_true rfl) ?_
  intro p e s m args below meth c Q ls hcx hret hP hl
  obtain ⟨hx, hb, hml, hown, hts, hk⟩ := hcx
  have hown : s.vm.findClass RX5 = some m.cls := hown
  have hS : va_S (An nX v) s.heap s.heap [] := va_S.rf
  have hl : lv_has ls 1 [(0, .ref (zA v 1))] := hl
  unfold x_X5_shoes at hf
  refine lv_aload_n hx hb dX5_shoes_0 rfl (lv_at hl 0 rfl) ?_
  refine va_get (D := zD v) (ci := 4) (v := .int (g 1 4)) (C := RX5) (T := TX5) (N := 10) hx hb hts iX5 hown hk.1 hP 1 rfl rfl 4 (by decide) (hts _ fl_X5_40) (fun _ h9 => h9) rfl dX5_shoes_1 ?_
  refine lv_bipush (v := 20) hx hb dX5_shoes_4 kB_20 ?_
  refine lv_imul hx hb dX5_shoes_6 ?_
  exact hret _ _ _ _ _ _ (Or.inl rfl) (Option.some.inj hf) hP hS dX5_shoes_7
abbrev rm_X5_hasShoe : Room := { frames := 2, cells := 0, slots := 0, locals := 80 }
set_option maxRecDepth 100000 in
theorem t_X5_hasShoe (l : Launch) (v : Ev) (N : Nat) (a1 : Int32) (g : Sg) (res : Int32 × Sg) (hf : x_X5_hasShoe N a1 g = some res) : Ci l yX5_hasShoe cX5_hasShoe 2 .boolean rm_X5_hasShoe pX v [.ref (zA v 1), .int a1] g res := by
  refine ze_i (by decide +kernel) (Nat.le_of_ble_eq_true rfl) ?_
  intro p e s m args below meth c Q ls hcx hret hP hl
  obtain ⟨hx, hb, hml, hown, hts, hk⟩ := hcx
  have hown : s.vm.findClass RX5 = some m.cls := hown
  have hS : va_S (An nX v) s.heap s.heap [] := va_S.rf
  have hl : lv_has ls 2 [(0, .ref (zA v 1)), (1, .int a1)] := hl
  unfold x_X5_hasShoe at hf
  refine lv_iload_n hx hb dX5_hasShoe_0 rfl (lv_at hl 1 rfl) ?_
  refine lv_if_lt (tgt := 16) hx hb dX5_hasShoe_1 (by decide) (fun c1 => ?_) (fun c1 => ?_)
  · have hf := ite_t c1 hf
    refine lv_iconst (v := 0) hx hb dX5_hasShoe_16 kI_0 ?_
    exact hret _ _ _ _ _ _ (Or.inr rfl) (Option.some.inj hf) hP hS dX5_hasShoe_17
  · have hf := ite_f c1 hf
    refine lv_iload_n hx hb dX5_hasShoe_4 rfl (lv_at hl 1 rfl) ?_
    refine lv_aload_n hx hb dX5_hasShoe_5 rfl (lv_at hl 0 rfl) ?_
    obtain ⟨q2, eq2, hf⟩ := bd_e hf
    refine zki hS (zrV (As := []) (rest := [.int a1]) okX hx hb hml hown hts hk hP hS (t_X5_shoes l v N g _ eq2) vk_X5_shoes ml_X5_49 rfl rfl ⟨(Nat.le_of_ble_eq_true rfl), (Nat.le_of_ble_eq_true rfl)⟩ (va_recv (q := (RX5, TX5, 10)) hk.1 hP (q0 := 1) (ci := 4) rfl rfl) rfl hl.1 rfl (Nat.le_of_ble_eq_true rfl) dX5_hasShoe_6) (fun H locs hP hS => ?_)
    refine lv_icmp_ge (tgt := 16) hx hb dX5_hasShoe_9 (by decide) (fun c3 => ?_) (fun c3 => ?_)
    · have hf := ite_t c3 hf
      refine lv_iconst (v := 0) hx hb dX5_hasShoe_16 kI_0 ?_
      exact hret _ _ _ _ _ _ (Or.inr rfl) (Option.some.inj hf) hP hS dX5_hasShoe_17
    · have hf := ite_f c3 hf
      refine lv_iconst (v := 1) hx hb dX5_hasShoe_12 kI_1 ?_
      refine lv_goto (tgt := 17) hx hb dX5_hasShoe_13 (by decide) ?_
      exact hret _ _ _ _ _ _ (Or.inr rfl) (Option.some.inj hf) hP hS dX5_hasShoe_17
abbrev rm_X5_stocks : Room := { frames := 3, cells := 0, slots := 0, locals := 101 }
set_option maxRecDepth 100000 in
theorem t_X5_stocks (l : Launch) (v : Ev) (N : Nat) (a1 : Int32) (g : Sg) (res : Int32 × Sg) (hf : x_X5_stocks N a1 g = some res) : Ci l yX5_stocks cX5_stocks 2 .boolean rm_X5_stocks pX v [.ref (zA v 1), .int a1] g res := by
  refine ze_i (by decide +kernel) (Nat.le_of_ble_eq_true rfl) ?_
  intro p e s m args below meth c Q ls hcx hret hP hl
  obtain ⟨hx, hb, hml, hown, hts, hk⟩ := hcx
  have hown : s.vm.findClass RX5 = some m.cls := hown
  have hS : va_S (An nX v) s.heap s.heap [] := va_S.rf
  have hl : lv_has ls 2 [(0, .ref (zA v 1)), (1, .int a1)] := hl
  unfold x_X5_stocks at hf
  refine lv_aload_n hx hb dX5_stocks_0 rfl (lv_at hl 0 rfl) ?_
  refine lv_iload_n hx hb dX5_stocks_1 rfl (lv_at hl 1 rfl) ?_
  obtain ⟨q1, eq1, hf⟩ := bd_e hf
  refine zki hS (zrV (As := [.int a1]) (rest := []) okX hx hb hml hown hts hk hP hS (t_X5_hasShoe l v N a1 g _ eq1) vk_X5_hasShoe ml_X5_53 rfl rfl ⟨(Nat.le_of_ble_eq_true rfl), (Nat.le_of_ble_eq_true rfl)⟩ (va_recv (q := (RX5, TX5, 10)) hk.1 hP (q0 := 1) (ci := 4) rfl rfl) rfl hl.1 rfl (Nat.le_of_ble_eq_true rfl) dX5_stocks_2) (fun H locs hP hS => ?_)
  refine lv_if_eq (tgt := 32) hx hb dX5_stocks_5 (by decide) (fun c2 => ?_) (fun c2 => ?_)
  · have hf := ite_t c2 hf
    refine lv_iconst (v := 0) hx hb dX5_stocks_32 kI_0 ?_
    exact hret _ _ _ _ _ _ (Or.inr rfl) (Option.some.inj hf) hP hS dX5_stocks_33
  · have hf := ite_f c2 hf
    refine lv_aload_n hx hb dX5_stocks_8 rfl (lv_at hl 0 rfl) ?_
    refine va_get (D := zD v) (ci := 4) (v := .ref (zA v 15)) (C := RX5) (T := TX5) (N := 10) hx hb hts iX5 hown hk.1 hP 1 rfl rfl 9 (by decide) (hts _ fl_X5_34) (fun _ h9 => h9) rfl dX5_stocks_9 ?_
    refine lv_iload_n hx hb dX5_stocks_12 rfl (lv_at hl 1 rfl) ?_
    refine lv_bipush (v := 20) hx hb dX5_stocks_13 kB_20 ?_
    refine lv_idiv hx hb dX5_stocks_15 kz_20 ?_
    obtain ⟨c3, hf⟩ := gd_e hf
    refine va_iald hx hb hk.1 hP 15 0 rfl rfl (inb_in c3) dX5_stocks_16 ?_
    refine lv_iload_n hx hb dX5_stocks_17 rfl (lv_at hl 1 rfl) ?_
    refine lv_bipush (v := 20) hx hb dX5_stocks_18 kB_20 ?_
    refine lv_irem hx hb dX5_stocks_20 kz_20 ?_
    refine lv_nm (z := (rmI a1 (20 : Int32))) rfl ?_
    refine lv_ishr hx hb dX5_stocks_21 ?_
    refine lv_iconst (v := 1) hx hb dX5_stocks_22 kI_1 ?_
    refine lv_iand hx hb dX5_stocks_23 ?_
    refine lv_iconst (v := 1) hx hb dX5_stocks_24 kI_1 ?_
    refine lv_icmp_ne (tgt := 32) hx hb dX5_stocks_25 (by decide) (fun c4 => ?_) (fun c4 => ?_)
    · have hf := ite_f c4 hf
      refine lv_iconst (v := 0) hx hb dX5_stocks_32 kI_0 ?_
      exact hret _ _ _ _ _ _ (Or.inr rfl) (Option.some.inj hf) hP hS dX5_stocks_33
    · have hf := ite_t c4 hf
      refine lv_iconst (v := 1) hx hb dX5_stocks_28 kI_1 ?_
      refine lv_goto (tgt := 33) hx hb dX5_stocks_29 (by decide) ?_
      exact hret _ _ _ _ _ _ (Or.inr rfl) (Option.some.inj hf) hP hS dX5_stocks_33
abbrev rm_X5_stocked : Room := { frames := 2, cells := 0, slots := 0, locals := 80 }
set_option maxRecDepth 100000 in
theorem t_X5_stocked (l : Launch) (v : Ev) (N : Nat) (g : Sg) (res : Int32 × Sg) (hf : x_X5_stocked N g = some res) : Ci l yX5_stocked cX5_stocked 3 .int rm_X5_stocked pX v [.ref (zA v 1)] g res := by
  refine ze_i (by decide +kernel) (Nat.le_of_ble_eq_true rfl) ?_
  intro p e s m args below meth c Q ls hcx hret hP hl
  obtain ⟨hx, hb, hml, hown, hts, hk⟩ := hcx
  have hown : s.vm.findClass RX5 = some m.cls := hown
  have hS : va_S (An nX v) s.heap s.heap [] := va_S.rf
  have hl : lv_has ls 3 [(0, .ref (zA v 1))] := hl
  have wL4 : ∀ (n : Nat) (x : Int32 × Int32 × Sg), lp (x_X5_stocked_B4 N) n x = some res → ∀ (H : Heap) (locs : List Loc) (ls : Array Slot), va_P (zD v) vwCl (pX.1 v x.2.2) H → va_S (An nX v) s.heap H locs → lv_has ls 3 [(0, .ref (zA v 1)), (1, .int x.1), (2, .int x.2.1)] → W p l e rm_X5_stocked s m args below meth c H locs 0 0 Q (F0 m 4 ls []) := by
    refine lp_w (P := fun x : Int32 × Int32 × Sg => ∀ (H : Heap) (locs : List Loc) (ls : Array Slot), va_P (zD v) vwCl (pX.1 v x.2.2) H → va_S (An nX v) s.heap H locs → lv_has ls 3 [(0, .ref (zA v 1)), (1, .int x.1), (2, .int x.2.1)] → W p l e rm_X5_stocked s m args below meth c H locs 0 0 Q (F0 m 4 ls [])) ?_
    intro h4 hh4 x hf H locs ls hP hS hl
    unfold x_X5_stocked_B4 at hf
    refine lv_iload_n hx hb dX5_stocked_4 rfl (lv_at hl 2 rfl) ?_
    refine lv_aload_n hx hb dX5_stocked_5 rfl (lv_at hl 0 rfl) ?_
    refine va_get (D := zD v) (ci := 4) (v := .int (x.2.2 1 4)) (C := RX5) (T := TX5) (N := 10) hx hb hts iX5 hown hk.1 hP 1 rfl rfl 4 (by decide) (hts _ fl_X5_40) (fun _ h9 => h9) rfl dX5_stocked_6 ?_
    refine lv_icmp_ge (tgt := 30) hx hb dX5_stocked_9 (by decide) (fun c1 => ?_) (fun c1 => ?_)
    · have hf := ite_t c1 hf
      refine lv_iload_n hx hb dX5_stocked_30 rfl (lv_at hl 1 rfl) ?_
      exact hret _ _ _ _ _ _ (Or.inl rfl) (Option.some.inj hf) hP hS dX5_stocked_31
    · have hf := ite_f c1 hf
      refine lv_iload_n hx hb dX5_stocked_12 rfl (lv_at hl 1 rfl) ?_
      refine lv_aload_n hx hb dX5_stocked_13 rfl (lv_at hl 0 rfl) ?_
      refine va_get (D := zD v) (ci := 4) (v := .ref (zA v 15)) (C := RX5) (T := TX5) (N := 10) hx hb hts iX5 hown hk.1 hP 1 rfl rfl 9 (by decide) (hts _ fl_X5_34) (fun _ h9 => h9) rfl dX5_stocked_14 ?_
      refine lv_iload_n hx hb dX5_stocked_17 rfl (lv_at hl 2 rfl) ?_
      obtain ⟨c2, hf⟩ := gd_e hf
      refine va_iald hx hb hk.1 hP 15 0 rfl rfl (inb_in c2) dX5_stocked_18 ?_
      obtain ⟨q3, eq3, hf⟩ := bd_e hf
      refine zki hS (zrS (As := [.int (x.2.2 15 (x.2.1).toNatClampNeg)]) (rest := [.int x.1]) okX hx hb hml hown hts hk hP hS (t_J6_bitCount_0f7a4 l v N (x.2.2 15 (x.2.1).toNatClampNeg) x.2.2 _ eq3) sk_J6_bitCount_0f7a4 ml_X5_57 rfl rfl ⟨(Nat.le_of_ble_eq_true rfl), (Nat.le_of_ble_eq_true rfl)⟩ rfl hl.1 rfl (Nat.le_of_ble_eq_true rfl) dX5_stocked_19) (fun H locs hP hS => ?_)
      refine lv_iadd hx hb dX5_stocked_22 ?_
      obtain ⟨x4, ex4, hf⟩ := lt_e hf
      refine lv_nm ex4 ?_
      refine lv_istore_n (lv' := [(1, .int x4), (0, .ref (zA v 1)), (2, .int x.2.1)]) hx hb dX5_stocked_23 rfl hl (by decide) rfl (fun ls hl => ?_)
      obtain ⟨x5, ex5, hf⟩ := lt_e hf
      refine lv_iinc (v := x5) (lv' := [(2, .int x5), (1, .int x4), (0, .ref (zA v 1))]) hx hb dX5_stocked_24 hl (k := 2) rfl ((congrArg (fun z => x.2.1 + z) kI_1).trans ex5.symm) (by decide) rfl (fun ls hl => ?_)
      refine lv_goto (tgt := 4) hx hb dX5_stocked_27 (by decide) ?_
      exact hh4 (x4, x5, q3.2) hf _ _ _ hP hS (lv_sub hl [2, 1, 0] rfl)
  unfold x_X5_stocked at hf
  refine lv_iconst (v := 0) hx hb dX5_stocked_0 kI_0 ?_
  refine lv_istore_n (lv' := [(1, .int (0 : Int32)), (0, .ref (zA v 1))]) hx hb dX5_stocked_1 rfl hl (by decide) rfl (fun ls hl => ?_)
  refine lv_iconst (v := 0) hx hb dX5_stocked_2 kI_0 ?_
  refine lv_istore_n (lv' := [(2, .int (0 : Int32)), (1, .int (0 : Int32)), (0, .ref (zA v 1))]) hx hb dX5_stocked_3 rfl hl (by decide) rfl (fun ls hl => ?_)
  exact wL4 N ((0 : Int32), (0 : Int32), g) hf _ _ _ hP hS (lv_sub hl [2, 1, 0] rfl)
abbrev rm_X5_lengthOf : Room := { frames := 2, cells := 0, slots := 0, locals := 83 }
set_option maxRecDepth 100000 in
theorem t_X5_lengthOf (l : Launch) (v : Ev) (N : Nat) (a1 : Int32) (g : Sg) (res : Int32 × Sg) (hf : x_X5_lengthOf N a1 g = some res) : Ci l yX5_lengthOf cX5_lengthOf 3 .int rm_X5_lengthOf pX v [.ref (zA v 1), .int a1] g res := by
  refine ze_i (by decide +kernel) (Nat.le_of_ble_eq_true rfl) ?_
  intro p e s m args below meth c Q ls hcx hret hP hl
  obtain ⟨hx, hb, hml, hown, hts, hk⟩ := hcx
  have hown : s.vm.findClass RX5 = some m.cls := hown
  have hS : va_S (An nX v) s.heap s.heap [] := va_S.rf
  have hl : lv_has ls 3 [(0, .ref (zA v 1)), (1, .int a1)] := hl
  unfold x_X5_lengthOf at hf
  refine lv_iload_n hx hb dX5_lengthOf_0 rfl (lv_at hl 1 rfl) ?_
  refine lv_bipush (v := 20) hx hb dX5_lengthOf_1 kB_20 ?_
  refine lv_idiv hx hb dX5_lengthOf_3 kz_20 ?_
  obtain ⟨x1, ex1, hf⟩ := lt_e hf
  refine lv_nm ex1 ?_
  refine lv_istore_n (lv' := [(2, .int x1), (0, .ref (zA v 1)), (1, .int a1)]) hx hb dX5_lengthOf_4 rfl hl (by decide) rfl (fun ls hl => ?_)
  refine lv_aload_n hx hb dX5_lengthOf_5 rfl (lv_at hl 1 rfl) ?_
  refine va_get (D := zD v) (ci := 4) (v := .ref (zA v 12)) (C := RX5) (T := TX5) (N := 10) hx hb hts iX5 hown hk.1 hP 1 rfl rfl 6 (by decide) (hts _ fl_X5_25) (fun _ h9 => h9) rfl dX5_lengthOf_6 ?_
  refine lv_iload_n hx hb dX5_lengthOf_9 rfl (lv_at hl 0 rfl) ?_
  obtain ⟨c2, hf⟩ := gd_e hf
  refine va_iald hx hb hk.1 hP 12 0 rfl rfl (inb_in c2) dX5_lengthOf_10 ?_
  refine lv_aload_n hx hb dX5_lengthOf_11 rfl (lv_at hl 1 rfl) ?_
  refine va_get (D := zD v) (ci := 4) (v := .ref (zA v 13)) (C := RX5) (T := TX5) (N := 10) hx hb hts iX5 hown hk.1 hP 1 rfl rfl 7 (by decide) (hts _ fl_X5_28) (fun _ h9 => h9) rfl dX5_lengthOf_12 ?_
  refine lv_iload_n hx hb dX5_lengthOf_15 rfl (lv_at hl 0 rfl) ?_
  obtain ⟨c3, hf⟩ := gd_e hf
  refine va_iald hx hb hk.1 hP 13 0 rfl rfl (inb_in c3) dX5_lengthOf_16 ?_
  refine lv_aload_n hx hb dX5_lengthOf_17 rfl (lv_at hl 1 rfl) ?_
  refine va_get (D := zD v) (ci := 4) (v := .ref (zA v 14)) (C := RX5) (T := TX5) (N := 10) hx hb hts iX5 hown hk.1 hP 1 rfl rfl 8 (by decide) (hts _ fl_X5_31) (fun _ h9 => h9) rfl dX5_lengthOf_18 ?_
  refine lv_iload_n hx hb dX5_lengthOf_21 rfl (lv_at hl 0 rfl) ?_
  obtain ⟨c4, hf⟩ := gd_e hf
  refine va_iald hx hb hk.1 hP 14 0 rfl rfl (inb_in c4) dX5_lengthOf_22 ?_
  refine lv_iload_n hx hb dX5_lengthOf_23 rfl (lv_at hl 2 rfl) ?_
  refine lv_bipush (v := 20) hx hb dX5_lengthOf_24 kB_20 ?_
  refine lv_irem hx hb dX5_lengthOf_26 kz_20 ?_
  refine lv_nm (z := (rmI a1 (20 : Int32))) rfl ?_
  obtain ⟨q5, eq5, hf⟩ := bd_e hf
  refine zki hS (zrS (As := [.int (g 12 (x1).toNatClampNeg), .int (g 13 (x1).toNatClampNeg), .int (g 14 (x1).toNatClampNeg), .int (rmI a1 (20 : Int32))]) (rest := []) okX hx hb hml hown hts hk hP hS (t_X0_lengthOf l v N (g 12 (x1).toNatClampNeg) (g 13 (x1).toNatClampNeg) (g 14 (x1).toNatClampNeg) (rmI a1 (20 : Int32)) g _ eq5) sk_X0_lengthOf ml_X5_63 rfl rfl ⟨(Nat.le_of_ble_eq_true rfl), (Nat.le_of_ble_eq_true rfl)⟩ rfl hl.1 rfl (Nat.le_of_ble_eq_true rfl) dX5_lengthOf_27) (fun H locs hP hS => ?_)
  exact hret _ _ _ _ _ _ (Or.inl rfl) (Option.some.inj hf) hP hS dX5_lengthOf_30
abbrev rm_X5_saysOf : Room := { frames := 3, cells := 0, slots := 0, locals := 105 }
set_option maxRecDepth 100000 in
theorem t_X5_saysOf (l : Launch) (v : Ev) (N : Nat) (a1 : Int32) (a2 : Int32) (g : Sg) (res : Int32 × Sg) (hf : x_X5_saysOf N a1 a2 g = some res) : Ci l yX5_saysOf cX5_saysOf 4 .int rm_X5_saysOf pX v [.ref (zA v 1), .int a1, .int a2] g res := by
  refine ze_i (by decide +kernel) (Nat.le_of_ble_eq_true rfl) ?_
  intro p e s m args below meth c Q ls hcx hret hP hl
  obtain ⟨hx, hb, hml, hown, hts, hk⟩ := hcx
  have hown : s.vm.findClass RX5 = some m.cls := hown
  have hS : va_S (An nX v) s.heap s.heap [] := va_S.rf
  have hl : lv_has ls 4 [(0, .ref (zA v 1)), (1, .int a1), (2, .int a2)] := hl
  unfold x_X5_saysOf at hf
  refine lv_iload_n hx hb dX5_saysOf_0 rfl (lv_at hl 1 rfl) ?_
  refine lv_bipush (v := 20) hx hb dX5_saysOf_1 kB_20 ?_
  refine lv_idiv hx hb dX5_saysOf_3 kz_20 ?_
  obtain ⟨x1, ex1, hf⟩ := lt_e hf
  refine lv_nm ex1 ?_
  refine lv_istore_n (lv' := [(3, .int x1), (0, .ref (zA v 1)), (1, .int a1), (2, .int a2)]) hx hb dX5_saysOf_4 rfl hl (by decide) rfl (fun ls hl => ?_)
  refine lv_aload_n hx hb dX5_saysOf_5 rfl (lv_at hl 1 rfl) ?_
  refine va_get (D := zD v) (ci := 4) (v := .ref (zA v 12)) (C := RX5) (T := TX5) (N := 10) hx hb hts iX5 hown hk.1 hP 1 rfl rfl 6 (by decide) (hts _ fl_X5_25) (fun _ h9 => h9) rfl dX5_saysOf_6 ?_
  refine lv_iload_n hx hb dX5_saysOf_9 rfl (lv_at hl 0 rfl) ?_
  obtain ⟨c2, hf⟩ := gd_e hf
  refine va_iald hx hb hk.1 hP 12 0 rfl rfl (inb_in c2) dX5_saysOf_10 ?_
  refine lv_aload_n hx hb dX5_saysOf_11 rfl (lv_at hl 1 rfl) ?_
  refine va_get (D := zD v) (ci := 4) (v := .ref (zA v 13)) (C := RX5) (T := TX5) (N := 10) hx hb hts iX5 hown hk.1 hP 1 rfl rfl 7 (by decide) (hts _ fl_X5_28) (fun _ h9 => h9) rfl dX5_saysOf_12 ?_
  refine lv_iload_n hx hb dX5_saysOf_15 rfl (lv_at hl 0 rfl) ?_
  obtain ⟨c3, hf⟩ := gd_e hf
  refine va_iald hx hb hk.1 hP 13 0 rfl rfl (inb_in c3) dX5_saysOf_16 ?_
  refine lv_aload_n hx hb dX5_saysOf_17 rfl (lv_at hl 1 rfl) ?_
  refine lv_iload_n hx hb dX5_saysOf_18 rfl (lv_at hl 2 rfl) ?_
  obtain ⟨q4, eq4, hf⟩ := bd_e hf
  refine zki hS (zrV (As := [.int a1]) (rest := [.int (g 13 (x1).toNatClampNeg), .int (g 12 (x1).toNatClampNeg)]) okX hx hb hml hown hts hk hP hS (t_X5_lengthOf l v N a1 g _ eq4) vk_X5_lengthOf ml_X5_69 rfl rfl ⟨(Nat.le_of_ble_eq_true rfl), (Nat.le_of_ble_eq_true rfl)⟩ (va_recv (q := (RX5, TX5, 10)) hk.1 hP (q0 := 1) (ci := 4) rfl rfl) rfl hl.1 rfl (Nat.le_of_ble_eq_true rfl) dX5_saysOf_19) (fun H locs hP hS => ?_)
  refine lv_iload_n hx hb dX5_saysOf_22 rfl (lv_at hl 3 rfl) ?_
  refine lv_isub hx hb dX5_saysOf_23 ?_
  obtain ⟨q5, eq5, hf⟩ := bd_e hf
  refine zki hS (zrS (As := [.int (g 12 (x1).toNatClampNeg), .int (g 13 (x1).toNatClampNeg), .int (q4.1 - a2)]) (rest := []) okX hx hb hml hown hts hk hP hS (t_X0_says l v N (g 12 (x1).toNatClampNeg) (g 13 (x1).toNatClampNeg) (q4.1 - a2) q4.2 _ eq5) sk_X0_says ml_X5_71 rfl rfl ⟨(Nat.le_of_ble_eq_true rfl), (Nat.le_of_ble_eq_true rfl)⟩ rfl hl.1 rfl (Nat.le_of_ble_eq_true rfl) dX5_saysOf_24) (fun H locs hP hS => ?_)
  exact hret _ _ _ _ _ _ (Or.inl rfl) (Option.some.inj hf) hP hS dX5_saysOf_27
abbrev rm_X5_seeming : Room := { frames := 3, cells := 0, slots := 0, locals := 105 }
set_option maxRecDepth 100000 in
theorem t_X5_seeming (l : Launch) (v : Ev) (N : Nat) (a1 : Int32) (g : Sg) (res : Int32 × Sg) (hf : x_X5_seeming N a1 g = some res) : Ci l yX5_seeming cX5_seeming 3 .int rm_X5_seeming pX v [.ref (zA v 1), .int a1] g res := by
  refine ze_i (by decide +kernel) (Nat.le_of_ble_eq_true rfl) ?_
  intro p e s m args below meth c Q ls hcx hret hP hl
  obtain ⟨hx, hb, hml, hown, hts, hk⟩ := hcx
  have hown : s.vm.findClass RX5 = some m.cls := hown
  have hS : va_S (An nX v) s.heap s.heap [] := va_S.rf
  have hl : lv_has ls 3 [(0, .ref (zA v 1)), (1, .int a1)] := hl
  unfold x_X5_seeming at hf
  refine lv_iload_n hx hb dX5_seeming_0 rfl (lv_at hl 1 rfl) ?_
  refine lv_bipush (v := 20) hx hb dX5_seeming_1 kB_20 ?_
  refine lv_idiv hx hb dX5_seeming_3 kz_20 ?_
  obtain ⟨x1, ex1, hf⟩ := lt_e hf
  refine lv_nm ex1 ?_
  refine lv_istore_n (lv' := [(2, .int x1), (0, .ref (zA v 1)), (1, .int a1)]) hx hb dX5_seeming_4 rfl hl (by decide) rfl (fun ls hl => ?_)
  refine lv_aload_n hx hb dX5_seeming_5 rfl (lv_at hl 1 rfl) ?_
  refine lv_iload_n hx hb dX5_seeming_6 rfl (lv_at hl 2 rfl) ?_
  obtain ⟨q2, eq2, hf⟩ := bd_e hf
  refine zki hS (zrV (As := [.int a1]) (rest := []) okX hx hb hml hown hts hk hP hS (t_X5_lengthOf l v N a1 g _ eq2) vk_X5_lengthOf ml_X5_69 rfl rfl ⟨(Nat.le_of_ble_eq_true rfl), (Nat.le_of_ble_eq_true rfl)⟩ (va_recv (q := (RX5, TX5, 10)) hk.1 hP (q0 := 1) (ci := 4) rfl rfl) rfl hl.1 rfl (Nat.le_of_ble_eq_true rfl) dX5_seeming_7) (fun H locs hP hS => ?_)
  refine lv_aload_n hx hb dX5_seeming_10 rfl (lv_at hl 1 rfl) ?_
  refine va_get (D := zD v) (ci := 4) (v := .ref (zA v 12)) (C := RX5) (T := TX5) (N := 10) hx hb hts iX5 hown hk.1 hP 1 rfl rfl 6 (by decide) (hts _ fl_X5_25) (fun _ h9 => h9) rfl dX5_seeming_11 ?_
  refine lv_iload_n hx hb dX5_seeming_14 rfl (lv_at hl 0 rfl) ?_
  obtain ⟨c3, hf⟩ := gd_e hf
  refine va_iald hx hb hk.1 hP 12 0 rfl rfl (inb_in c3) dX5_seeming_15 ?_
  refine lv_aload_n hx hb dX5_seeming_16 rfl (lv_at hl 1 rfl) ?_
  refine va_get (D := zD v) (ci := 4) (v := .ref (zA v 13)) (C := RX5) (T := TX5) (N := 10) hx hb hts iX5 hown hk.1 hP 1 rfl rfl 7 (by decide) (hts _ fl_X5_28) (fun _ h9 => h9) rfl dX5_seeming_17 ?_
  refine lv_iload_n hx hb dX5_seeming_20 rfl (lv_at hl 0 rfl) ?_
  obtain ⟨c4, hf⟩ := gd_e hf
  refine va_iald hx hb hk.1 hP 13 0 rfl rfl (inb_in c4) dX5_seeming_21 ?_
  obtain ⟨q5, eq5, hf⟩ := bd_e hf
  refine zki hS (zrS (As := [.int (q2.2 12 (x1).toNatClampNeg), .int (q2.2 13 (x1).toNatClampNeg)]) (rest := [.int q2.1]) okX hx hb hml hown hts hk hP hS (t_X0_giving l v N (q2.2 12 (x1).toNatClampNeg) (q2.2 13 (x1).toNatClampNeg) q2.2 _ eq5) sk_X0_giving ml_X5_75 rfl rfl ⟨(Nat.le_of_ble_eq_true rfl), (Nat.le_of_ble_eq_true rfl)⟩ rfl hl.1 rfl (Nat.le_of_ble_eq_true rfl) dX5_seeming_22) (fun H locs hP hS => ?_)
  refine lv_iadd hx hb dX5_seeming_25 ?_
  exact hret _ _ _ _ _ _ (Or.inl rfl) (Option.some.inj hf) hP hS dX5_seeming_26
abbrev rm_X5_reach : Room := { frames := 4, cells := 0, slots := 0, locals := 127 }
set_option maxRecDepth 100000 in
theorem t_X5_reach (l : Launch) (v : Ev) (N : Nat) (a1 : Int32) (a2 : Int32) (g : Sg) (res : Int32 × Sg) (hf : x_X5_reach N a1 a2 g = some res) : Ci l yX5_reach cX5_reach 3 .int rm_X5_reach pX v [.ref (zA v 1), .int a1, .int a2] g res := by
  refine ze_i (by decide +kernel) (Nat.le_of_ble_eq_true rfl) ?_
  intro p e s m args below meth c Q ls hcx hret hP hl
  obtain ⟨hx, hb, hml, hown, hts, hk⟩ := hcx
  have hown : s.vm.findClass RX5 = some m.cls := hown
  have hS : va_S (An nX v) s.heap s.heap [] := va_S.rf
  have hl : lv_has ls 3 [(0, .ref (zA v 1)), (1, .int a1), (2, .int a2)] := hl
  unfold x_X5_reach at hf
  refine lv_aload_n hx hb dX5_reach_0 rfl (lv_at hl 0 rfl) ?_
  refine va_get (D := zD v) (ci := 4) (v := .ref (zA v 12)) (C := RX5) (T := TX5) (N := 10) hx hb hts iX5 hown hk.1 hP 1 rfl rfl 6 (by decide) (hts _ fl_X5_25) (fun _ h9 => h9) rfl dX5_reach_1 ?_
  refine lv_iload_n hx hb dX5_reach_4 rfl (lv_at hl 1 rfl) ?_
  refine lv_bipush (v := 20) hx hb dX5_reach_5 kB_20 ?_
  refine lv_idiv hx hb dX5_reach_7 kz_20 ?_
  obtain ⟨c1, hf⟩ := gd_e hf
  refine va_iald hx hb hk.1 hP 12 0 rfl rfl (inb_in c1) dX5_reach_8 ?_
  refine lv_aload_n hx hb dX5_reach_9 rfl (lv_at hl 0 rfl) ?_
  refine lv_iload_n hx hb dX5_reach_10 rfl (lv_at hl 1 rfl) ?_
  obtain ⟨q2, eq2, hf⟩ := bd_e hf
  refine zki hS (zrV (As := [.int a1]) (rest := [.int (g 12 ((a1 / (20 : Int32))).toNatClampNeg)]) okX hx hb hml hown hts hk hP hS (t_X5_seeming l v N a1 g _ eq2) vk_X5_seeming ml_X5_79 rfl rfl ⟨(Nat.le_of_ble_eq_true rfl), (Nat.le_of_ble_eq_true rfl)⟩ (va_recv (q := (RX5, TX5, 10)) hk.1 hP (q0 := 1) (ci := 4) rfl rfl) rfl hl.1 rfl (Nat.le_of_ble_eq_true rfl) dX5_reach_11) (fun H locs hP hS => ?_)
  refine lv_iload_n hx hb dX5_reach_14 rfl (lv_at hl 2 rfl) ?_
  obtain ⟨q3, eq3, hf⟩ := bd_e hf
  refine zki hS (zrS (As := [.int (g 12 ((a1 / (20 : Int32))).toNatClampNeg), .int q2.1, .int a2]) (rest := []) okX hx hb hml hown hts hk hP hS (t_X0_reach l v N (g 12 ((a1 / (20 : Int32))).toNatClampNeg) q2.1 a2 q2.2 _ eq3) sk_X0_reach ml_X5_82 rfl rfl ⟨(Nat.le_of_ble_eq_true rfl), (Nat.le_of_ble_eq_true rfl)⟩ rfl hl.1 rfl (Nat.le_of_ble_eq_true rfl) dX5_reach_15) (fun H locs hP hS => ?_)
  exact hret _ _ _ _ _ _ (Or.inl rfl) (Option.some.inj hf) hP hS dX5_reach_18
abbrev rm_X5_leastFitted : Room := { frames := 5, cells := 0, slots := 0, locals := 149 }
set_option maxRecDepth 100000 in
theorem t_X5_leastFitted (l : Launch) (v : Ev) (N : Nat) (a1 : Int32) (g : Sg) (res : Int32 × Sg) (hf : x_X5_leastFitted N a1 g = some res) : Ci l yX5_leastFitted cX5_leastFitted 2 .int rm_X5_leastFitted pX v [.ref (zA v 1), .int a1] g res := by
  refine ze_i (by decide +kernel) (Nat.le_of_ble_eq_true rfl) ?_
  intro p e s m args below meth c Q ls hcx hret hP hl
  obtain ⟨hx, hb, hml, hown, hts, hk⟩ := hcx
  have hown : s.vm.findClass RX5 = some m.cls := hown
  have hS : va_S (An nX v) s.heap s.heap [] := va_S.rf
  have hl : lv_has ls 2 [(0, .ref (zA v 1)), (1, .int a1)] := hl
  unfold x_X5_leastFitted at hf
  refine lv_aload_n hx hb dX5_leastFitted_0 rfl (lv_at hl 0 rfl) ?_
  refine lv_iload_n hx hb dX5_leastFitted_1 rfl (lv_at hl 1 rfl) ?_
  refine lv_iconst (v := 1) hx hb dX5_leastFitted_2 kI_1 ?_
  obtain ⟨q1, eq1, hf⟩ := bd_e hf
  refine zki hS (zrV (As := [.int a1, .int (1 : Int32)]) (rest := []) okX hx hb hml hown hts hk hP hS (t_X5_reach l v N a1 (1 : Int32) g _ eq1) vk_X5_reach ml_X5_85 rfl rfl ⟨(Nat.le_of_ble_eq_true rfl), (Nat.le_of_ble_eq_true rfl)⟩ (va_recv (q := (RX5, TX5, 10)) hk.1 hP (q0 := 1) (ci := 4) rfl rfl) rfl hl.1 rfl (Nat.le_of_ble_eq_true rfl) dX5_leastFitted_3) (fun H locs hP hS => ?_)
  refine lv_iconst (v := 1) hx hb dX5_leastFitted_6 kI_1 ?_
  refine lv_iadd hx hb dX5_leastFitted_7 ?_
  exact hret _ _ _ _ _ _ (Or.inl rfl) (Option.some.inj hf) hP hS dX5_leastFitted_8
abbrev rm_X5_greatestFitted : Room := { frames := 5, cells := 0, slots := 0, locals := 149 }
set_option maxRecDepth 100000 in
theorem t_X5_greatestFitted (l : Launch) (v : Ev) (N : Nat) (a1 : Int32) (g : Sg) (res : Int32 × Sg) (hf : x_X5_greatestFitted N a1 g = some res) : Ci l yX5_greatestFitted cX5_greatestFitted 2 .int rm_X5_greatestFitted pX v [.ref (zA v 1), .int a1] g res := by
  refine ze_i (by decide +kernel) (Nat.le_of_ble_eq_true rfl) ?_
  intro p e s m args below meth c Q ls hcx hret hP hl
  obtain ⟨hx, hb, hml, hown, hts, hk⟩ := hcx
  have hown : s.vm.findClass RX5 = some m.cls := hown
  have hS : va_S (An nX v) s.heap s.heap [] := va_S.rf
  have hl : lv_has ls 2 [(0, .ref (zA v 1)), (1, .int a1)] := hl
  unfold x_X5_greatestFitted at hf
  refine lv_aload_n hx hb dX5_greatestFitted_0 rfl (lv_at hl 0 rfl) ?_
  refine lv_iload_n hx hb dX5_greatestFitted_1 rfl (lv_at hl 1 rfl) ?_
  refine lv_iconst (v := 0) hx hb dX5_greatestFitted_2 kI_0 ?_
  obtain ⟨q1, eq1, hf⟩ := bd_e hf
  refine zki hS (zrV (As := [.int a1, .int (0 : Int32)]) (rest := []) okX hx hb hml hown hts hk hP hS (t_X5_reach l v N a1 (0 : Int32) g _ eq1) vk_X5_reach ml_X5_85 rfl rfl ⟨(Nat.le_of_ble_eq_true rfl), (Nat.le_of_ble_eq_true rfl)⟩ (va_recv (q := (RX5, TX5, 10)) hk.1 hP (q0 := 1) (ci := 4) rfl rfl) rfl hl.1 rfl (Nat.le_of_ble_eq_true rfl) dX5_greatestFitted_3) (fun H locs hP hS => ?_)
  exact hret _ _ _ _ _ _ (Or.inl rfl) (Option.some.inj hf) hP hS dX5_greatestFitted_6
abbrev rm_X5_peopleOf : Room := { frames := 1, cells := 0, slots := 0, locals := 60 }
set_option maxRecDepth 100000 in
theorem t_X5_peopleOf (l : Launch) (v : Ev) (N : Nat) (a1 : Int32) (a2 : Int32) (g : Sg) (res : Int32 × Sg) (hf : x_X5_peopleOf N a1 a2 g = some res) : Ci l yX5_peopleOf cX5_peopleOf 5 .int rm_X5_peopleOf pX v [.ref (zA v 1), .int a1, .int a2] g res := by
  refine ze_i (by decide +kernel) (Nat.le_of_ble_eq_true rfl) ?_
  intro p e s m args below meth c Q ls hcx hret hP hl
  obtain ⟨hx, hb, hml, hown, hts, hk⟩ := hcx
  have hown : s.vm.findClass RX5 = some m.cls := hown
  have hS : va_S (An nX v) s.heap s.heap [] := va_S.rf
  have hl : lv_has ls 5 [(0, .ref (zA v 1)), (1, .int a1), (2, .int a2)] := hl
  have wL9 : ∀ (n : Nat) (x : Int32 × Int32 × Int32 × Sg), lp (x_X5_peopleOf_B9 N) n x = some res → ∀ (H : Heap) (locs : List Loc) (ls : Array Slot), va_P (zD v) vwCl (pX.1 v x.2.2.2) H → va_S (An nX v) s.heap H locs → lv_has ls 5 [(0, .ref (zA v 1)), (2, .int x.1), (3, .int x.2.1), (4, .int x.2.2.1)] → W p l e rm_X5_peopleOf s m args below meth c H locs 0 0 Q (F0 m 9 ls []) := by
    refine lp_w (P := fun x : Int32 × Int32 × Int32 × Sg => ∀ (H : Heap) (locs : List Loc) (ls : Array Slot), va_P (zD v) vwCl (pX.1 v x.2.2.2) H → va_S (An nX v) s.heap H locs → lv_has ls 5 [(0, .ref (zA v 1)), (2, .int x.1), (3, .int x.2.1), (4, .int x.2.2.1)] → W p l e rm_X5_peopleOf s m args below meth c H locs 0 0 Q (F0 m 9 ls [])) ?_
    intro h9 hh9 x hf H locs ls hP hS hl
    unfold x_X5_peopleOf_B9 at hf
    refine lv_iload hx hb dX5_peopleOf_9 (lv_at hl 3 rfl) ?_
    refine lv_iload_n hx hb dX5_peopleOf_11 rfl (lv_at hl 1 rfl) ?_
    refine lv_icmp_gt (tgt := 38) hx hb dX5_peopleOf_12 (by decide) (fun c2 => ?_) (fun c2 => ?_)
    · have hf := ite_t c2 hf
      refine lv_iload_n hx hb dX5_peopleOf_38 rfl (lv_at hl 2 rfl) ?_
      exact hret _ _ _ _ _ _ (Or.inl rfl) (Option.some.inj hf) hP hS dX5_peopleOf_39
    · have hf := ite_f c2 hf
      refine lv_iload hx hb dX5_peopleOf_15 (lv_at hl 3 rfl) ?_
      refine lv_bipush (v := 100) hx hb dX5_peopleOf_17 kB_100 ?_
      refine lv_icmp_ge (tgt := 38) hx hb dX5_peopleOf_19 (by decide) (fun c3 => ?_) (fun c3 => ?_)
      · have hf := ite_t c3 hf
        refine lv_iload_n hx hb dX5_peopleOf_38 rfl (lv_at hl 2 rfl) ?_
        exact hret _ _ _ _ _ _ (Or.inl rfl) (Option.some.inj hf) hP hS dX5_peopleOf_39
      · have hf := ite_f c3 hf
        refine lv_iload_n hx hb dX5_peopleOf_22 rfl (lv_at hl 2 rfl) ?_
        refine lv_aload_n hx hb dX5_peopleOf_23 rfl (lv_at hl 0 rfl) ?_
        refine va_get (D := zD v) (ci := 4) (v := .ref (zA v 11)) (C := RX5) (T := TX5) (N := 10) hx hb hts iX5 hown hk.1 hP 1 rfl rfl 5 (by decide) (hts _ fl_X5_21) (fun _ h9 => h9) rfl dX5_peopleOf_24 ?_
        refine lv_iload hx hb dX5_peopleOf_27 (lv_at hl 3 rfl) ?_
        obtain ⟨c4, hf⟩ := gd_e hf
        refine va_iald hx hb hk.1 hP 11 0 rfl rfl (inb_in c4) dX5_peopleOf_29 ?_
        refine lv_iadd hx hb dX5_peopleOf_30 ?_
        obtain ⟨x5, ex5, hf⟩ := lt_e hf
        refine lv_nm ex5 ?_
        refine lv_istore_n (lv' := [(3, .int x5), (0, .ref (zA v 1)), (2, .int x.1), (4, .int x.2.2.1)]) hx hb dX5_peopleOf_31 rfl hl (by decide) rfl (fun ls hl => ?_)
        obtain ⟨x6, ex6, hf⟩ := lt_e hf
        refine lv_iinc (v := x6) (lv' := [(4, .int x6), (3, .int x5), (0, .ref (zA v 1)), (2, .int x.1)]) hx hb dX5_peopleOf_32 hl (k := 3) rfl ((congrArg (fun z => x.2.2.1 + z) kI_1).trans ex6.symm) (by decide) rfl (fun ls hl => ?_)
        refine lv_goto (tgt := 9) hx hb dX5_peopleOf_35 (by decide) ?_
        exact hh9 (x.1, x5, x6, x.2.2.2) hf _ _ _ hP hS (lv_sub hl [2, 3, 1, 0] rfl)
  unfold x_X5_peopleOf at hf
  refine lv_iconst (v := 0) hx hb dX5_peopleOf_0 kI_0 ?_
  refine lv_istore_n (lv' := [(3, .int (0 : Int32)), (0, .ref (zA v 1)), (1, .int a1), (2, .int a2)]) hx hb dX5_peopleOf_1 rfl hl (by decide) rfl (fun ls hl => ?_)
  refine lv_iconst (v := 0) hx hb dX5_peopleOf_2 kI_0 ?_
  refine lv_iload_n hx hb dX5_peopleOf_3 rfl (lv_at hl 2 rfl) ?_
  refine va_mmax hx hb (hml.trans hl.1.symm) hown (hts _ ml_X5_87) (hts _ mS_max) (hts _ mI_math) (hts _ mC_max) (Nat.le_of_ble_eq_true rfl) (Nat.le_of_ble_eq_true rfl) (Nat.zero_le _) (Nat.zero_le _) dX5_peopleOf_4 ?_
  obtain ⟨x1, ex1, hf⟩ := lt_e hf
  refine lv_nm ex1 ?_
  refine lv_istore (lv' := [(4, .int x1), (3, .int (0 : Int32)), (0, .ref (zA v 1)), (1, .int a1), (2, .int a2)]) hx hb dX5_peopleOf_7 hl (by decide) rfl (fun ls hl => ?_)
  exact wL9 N (a2, (0 : Int32), x1, g) hf _ _ _ hP hS (lv_sub hl [2, 4, 1, 0] rfl)
abbrev rm_X4_widen : Room := { frames := 1, cells := 0, slots := 0, locals := 60 }
set_option maxRecDepth 100000 in
theorem t_X4_widen (l : Launch) (v : Ev) (N : Nat) (g : Sg) (res : Sg) (hf : x_X4_widen N g = some res) : Cv l yX4_widen cX4_widen 1 rm_X4_widen pX v [.ref (zA v 6)] g res := by
  refine ze_v (by decide +kernel) (Nat.le_of_ble_eq_true rfl) ?_
  intro p e s m args below meth c Q ls hcx hret hP hl
  obtain ⟨hx, hb, hml, hown, hts, hk⟩ := hcx
  have hown : s.vm.findClass RX4 = some m.cls := hown
  have hS : va_S (An nX v) s.heap s.heap [] := va_S.rf
  have hl : lv_has ls 1 [(0, .ref (zA v 6))] := hl
  unfold x_X4_widen at hf
  refine lv_aload_n hx hb dX4_widen_0 rfl (lv_at hl 0 rfl) ?_
  refine lv_iconst (v := 0) hx hb dX4_widen_1 kI_0 ?_
  refine va_put (D := zD v) (ci := 3) (v := .int (0 : Int32)) (ty := .int) (C := RX4) (T := TX4) (N := 2) hx hb hts iX4 tyX4 tyX4_ok nmX4 hown hk.1 hP (zw_D okX hk _) hS 6 rfl rfl 0 (by decide) (hts _ fl_X4_9) (fun _ h9 => h9) rfl pd_I rfl rfl (Nat.le_of_ble_eq_true rfl) dX4_widen_2 (fun H locs hP1 _ hS => ?_)
  have hP : va_P (zD v) vwCl (pX.1 v (up g 6 (upd (g 6) 0 (0 : Int32)))) H := hP1
  obtain ⟨g1, eg1, hf⟩ := lt_e hf
  rw [← eg1] at hP
  refine lv_aload_n hx hb dX4_widen_5 rfl (lv_at hl 0 rfl) ?_
  refine lv_bipush (v := 99) hx hb dX4_widen_6 kB_99 ?_
  refine va_put (D := zD v) (ci := 3) (v := .int (99 : Int32)) (ty := .int) (C := RX4) (T := TX4) (N := 2) hx hb hts iX4 tyX4 tyX4_ok nmX4 hown hk.1 hP (zw_D okX hk _) hS 6 rfl rfl 1 (by decide) (hts _ fl_X4_15) (fun _ h9 => h9) rfl pd_I rfl rfl (Nat.le_of_ble_eq_true rfl) dX4_widen_8 (fun H locs hP1 _ hS => ?_)
  have hP : va_P (zD v) vwCl (pX.1 v (up g1 6 (upd (g1 6) 1 (99 : Int32)))) H := hP1
  obtain ⟨g2, eg2, hf⟩ := lt_e hf
  rw [← eg2] at hP
  exact hret _ _ _ _ _ (Option.some.inj hf) hP hS dX4_widen_11
abbrev rm_X4_size : Room := { frames := 1, cells := 0, slots := 0, locals := 60 }
set_option maxRecDepth 100000 in
theorem t_X4_size (l : Launch) (v : Ev) (N : Nat) (g : Sg) (res : Int32 × Sg) (hf : x_X4_size N g = some res) : Ci l yX4_size cX4_size 1 .int rm_X4_size pX v [.ref (zA v 6)] g res := by
  refine ze_i (by decide +kernel) (Nat.le_of_ble_eq_true rfl) ?_
  intro p e s m args below meth c Q ls hcx hret hP hl
  obtain ⟨hx, hb, hml, hown, hts, hk⟩ := hcx
  have hown : s.vm.findClass RX4 = some m.cls := hown
  have hS : va_S (An nX v) s.heap s.heap [] := va_S.rf
  have hl : lv_has ls 1 [(0, .ref (zA v 6))] := hl
  unfold x_X4_size at hf
  refine lv_iconst (v := 0) hx hb dX4_size_0 kI_0 ?_
  refine lv_aload_n hx hb dX4_size_1 rfl (lv_at hl 0 rfl) ?_
  refine va_get (D := zD v) (ci := 3) (v := .int (g 6 1)) (C := RX4) (T := TX4) (N := 2) hx hb hts iX4 hown hk.1 hP 6 rfl rfl 1 (by decide) (hts _ fl_X4_15) (fun _ h9 => h9) rfl dX4_size_2 ?_
  refine lv_aload_n hx hb dX4_size_5 rfl (lv_at hl 0 rfl) ?_
  refine va_get (D := zD v) (ci := 3) (v := .int (g 6 0)) (C := RX4) (T := TX4) (N := 2) hx hb hts iX4 hown hk.1 hP 6 rfl rfl 0 (by decide) (hts _ fl_X4_9) (fun _ h9 => h9) rfl dX4_size_6 ?_
  refine lv_isub hx hb dX4_size_9 ?_
  refine lv_iconst (v := 1) hx hb dX4_size_10 kI_1 ?_
  refine lv_iadd hx hb dX4_size_11 ?_
  refine va_mmax hx hb (hml.trans hl.1.symm) hown (hts _ ml_X4_18) (hts _ mS_max) (hts _ mI_math) (hts _ mC_max) (Nat.le_of_ble_eq_true rfl) (Nat.le_of_ble_eq_true rfl) (Nat.zero_le _) (Nat.zero_le _) dX4_size_12 ?_
  obtain ⟨x1, ex1, hf⟩ := lt_e hf
  refine lv_nm ex1 ?_
  exact hret _ _ _ _ _ _ (Or.inl rfl) (Option.some.inj hf) hP hS dX4_size_15
abbrev rm_X4_narrow : Room := { frames := 5, cells := 0, slots := 0, locals := 149 }
set_option maxRecDepth 100000 in
theorem t_X4_narrow (l : Launch) (v : Ev) (N : Nat) (a2 : Int32) (a3 : Int32) (g : Sg) (res : Sg) (hf : x_X4_narrow N a2 a3 g = some res) : Cv l yX4_narrow cX4_narrow 4 rm_X4_narrow pX v [.ref (zA v 6), .ref (zA v 1), .int a2, .int a3] g res := by
  refine ze_v (by decide +kernel) (Nat.le_of_ble_eq_true rfl) ?_
  intro p e s m args below meth c Q ls hcx hret hP hl
  obtain ⟨hx, hb, hml, hown, hts, hk⟩ := hcx
  have hown : s.vm.findClass RX4 = some m.cls := hown
  have hS : va_S (An nX v) s.heap s.heap [] := va_S.rf
  have hl : lv_has ls 4 [(0, .ref (zA v 6)), (1, .ref (zA v 1)), (2, .int a2), (3, .int a3)] := hl
  unfold x_X4_narrow at hf
  refine lv_aload_n hx hb dX4_narrow_0 rfl (lv_at hl 0 rfl) ?_
  refine lv_aload_n hx hb dX4_narrow_1 rfl (lv_at hl 0 rfl) ?_
  refine va_get (D := zD v) (ci := 3) (v := .int (g 6 0)) (C := RX4) (T := TX4) (N := 2) hx hb hts iX4 hown hk.1 hP 6 rfl rfl 0 (by decide) (hts _ fl_X4_9) (fun _ h9 => h9) rfl dX4_narrow_2 ?_
  refine lv_aload_n hx hb dX4_narrow_5 rfl (lv_at hl 1 rfl) ?_
  refine lv_iload_n hx hb dX4_narrow_6 rfl (lv_at hl 2 rfl) ?_
  refine lv_iload_n hx hb dX4_narrow_7 rfl (lv_at hl 3 rfl) ?_
  refine lv_iconst (v := 1) hx hb dX4_narrow_8 kI_1 ?_
  refine lv_iadd hx hb dX4_narrow_9 ?_
  obtain ⟨q1, eq1, hf⟩ := bd_e hf
  refine zki hS (zrV (As := [.int a2, .int (a3 + (1 : Int32))]) (rest := [.int (g 6 0), .ref (zA v 6)]) okX hx hb hml hown hts hk hP hS (t_X5_reach l v N a2 (a3 + (1 : Int32)) g _ eq1) vk_X5_reach ml_X4_24 rfl rfl ⟨(Nat.le_of_ble_eq_true rfl), (Nat.le_of_ble_eq_true rfl)⟩ (va_recv (q := (RX5, TX5, 10)) hk.1 hP (q0 := 1) (ci := 4) rfl rfl) rfl hl.1 rfl (Nat.le_of_ble_eq_true rfl) dX4_narrow_10) (fun H locs hP hS => ?_)
  refine lv_iconst (v := 1) hx hb dX4_narrow_13 kI_1 ?_
  refine lv_iadd hx hb dX4_narrow_14 ?_
  refine va_mmax hx hb (hml.trans hl.1.symm) hown (hts _ ml_X4_18) (hts _ mS_max) (hts _ mI_math) (hts _ mC_max) (Nat.le_of_ble_eq_true rfl) (Nat.le_of_ble_eq_true rfl) (Nat.zero_le _) (Nat.zero_le _) dX4_narrow_15 ?_
  obtain ⟨x2, ex2, hf⟩ := lt_e hf
  refine lv_nm ex2 ?_
  refine va_put (D := zD v) (ci := 3) (v := .int x2) (ty := .int) (C := RX4) (T := TX4) (N := 2) hx hb hts iX4 tyX4 tyX4_ok nmX4 hown hk.1 hP (zw_D okX hk _) hS 6 rfl rfl 0 (by decide) (hts _ fl_X4_9) (fun _ h9 => h9) rfl pd_I rfl rfl (Nat.le_of_ble_eq_true rfl) dX4_narrow_18 (fun H locs hP1 _ hS => ?_)
  have hP : va_P (zD v) vwCl (pX.1 v (up q1.2 6 (upd (q1.2 6) 0 x2))) H := hP1
  obtain ⟨g3, eg3, hf⟩ := lt_e hf
  rw [← eg3] at hP
  refine lv_aload_n hx hb dX4_narrow_21 rfl (lv_at hl 0 rfl) ?_
  refine lv_aload_n hx hb dX4_narrow_22 rfl (lv_at hl 0 rfl) ?_
  refine va_get (D := zD v) (ci := 3) (v := .int (g3 6 1)) (C := RX4) (T := TX4) (N := 2) hx hb hts iX4 hown hk.1 hP 6 rfl rfl 1 (by decide) (hts _ fl_X4_15) (fun _ h9 => h9) rfl dX4_narrow_23 ?_
  refine lv_aload_n hx hb dX4_narrow_26 rfl (lv_at hl 1 rfl) ?_
  refine lv_iload_n hx hb dX4_narrow_27 rfl (lv_at hl 2 rfl) ?_
  refine lv_iload_n hx hb dX4_narrow_28 rfl (lv_at hl 3 rfl) ?_
  obtain ⟨q4, eq4, hf⟩ := bd_e hf
  refine zki hS (zrV (As := [.int a2, .int a3]) (rest := [.int (g3 6 1), .ref (zA v 6)]) okX hx hb hml hown hts hk hP hS (t_X5_reach l v N a2 a3 g3 _ eq4) vk_X5_reach ml_X4_24 rfl rfl ⟨(Nat.le_of_ble_eq_true rfl), (Nat.le_of_ble_eq_true rfl)⟩ (va_recv (q := (RX5, TX5, 10)) hk.1 hP (q0 := 1) (ci := 4) rfl rfl) rfl hl.1 rfl (Nat.le_of_ble_eq_true rfl) dX4_narrow_29) (fun H locs hP hS => ?_)
  refine va_mmin hx hb (hml.trans hl.1.symm) hown (hts _ ml_X4_29) (hts _ mS_min) (hts _ mI_math) (hts _ mC_min) (Nat.le_of_ble_eq_true rfl) (Nat.le_of_ble_eq_true rfl) (Nat.zero_le _) (Nat.zero_le _) dX4_narrow_32 ?_
  obtain ⟨x5, ex5, hf⟩ := lt_e hf
  refine lv_nm ex5 ?_
  refine va_put (D := zD v) (ci := 3) (v := .int x5) (ty := .int) (C := RX4) (T := TX4) (N := 2) hx hb hts iX4 tyX4 tyX4_ok nmX4 hown hk.1 hP (zw_D okX hk _) hS 6 rfl rfl 1 (by decide) (hts _ fl_X4_15) (fun _ h9 => h9) rfl pd_I rfl rfl (Nat.le_of_ble_eq_true rfl) dX4_narrow_35 (fun H locs hP1 _ hS => ?_)
  have hP : va_P (zD v) vwCl (pX.1 v (up q4.2 6 (upd (q4.2 6) 1 x5))) H := hP1
  obtain ⟨g6, eg6, hf⟩ := lt_e hf
  rw [← eg6] at hP
  exact hret _ _ _ _ _ (Option.some.inj hf) hP hS dX4_narrow_38
abbrev rm_X4_meets : Room := { frames := 1, cells := 0, slots := 0, locals := 60 }
set_option maxRecDepth 100000 in
theorem t_X4_meets (l : Launch) (v : Ev) (N : Nat) (a1 : Int32) (a2 : Int32) (g : Sg) (res : Int32 × Sg) (hf : x_X4_meets N a1 a2 g = some res) : Ci l yX4_meets cX4_meets 3 .boolean rm_X4_meets pX v [.ref (zA v 6), .int a1, .int a2] g res := by
  refine ze_i (by decide +kernel) (Nat.le_of_ble_eq_true rfl) ?_
  intro p e s m args below meth c Q ls hcx hret hP hl
  obtain ⟨hx, hb, hml, hown, hts, hk⟩ := hcx
  have hown : s.vm.findClass RX4 = some m.cls := hown
  have hS : va_S (An nX v) s.heap s.heap [] := va_S.rf
  have hl : lv_has ls 3 [(0, .ref (zA v 6)), (1, .int a1), (2, .int a2)] := hl
  unfold x_X4_meets at hf
  refine lv_aload_n hx hb dX4_meets_0 rfl (lv_at hl 0 rfl) ?_
  refine va_get (D := zD v) (ci := 3) (v := .int (g 6 0)) (C := RX4) (T := TX4) (N := 2) hx hb hts iX4 hown hk.1 hP 6 rfl rfl 0 (by decide) (hts _ fl_X4_9) (fun _ h9 => h9) rfl dX4_meets_1 ?_
  refine lv_iload_n hx hb dX4_meets_4 rfl (lv_at hl 1 rfl) ?_
  refine va_mmax hx hb (hml.trans hl.1.symm) hown (hts _ ml_X4_18) (hts _ mS_max) (hts _ mI_math) (hts _ mC_max) (Nat.le_of_ble_eq_true rfl) (Nat.le_of_ble_eq_true rfl) (Nat.zero_le _) (Nat.zero_le _) dX4_meets_5 ?_
  obtain ⟨x1, ex1, hf⟩ := lt_e hf
  refine lv_nm ex1 ?_
  refine lv_aload_n hx hb dX4_meets_8 rfl (lv_at hl 0 rfl) ?_
  refine va_get (D := zD v) (ci := 3) (v := .int (g 6 1)) (C := RX4) (T := TX4) (N := 2) hx hb hts iX4 hown hk.1 hP 6 rfl rfl 1 (by decide) (hts _ fl_X4_15) (fun _ h9 => h9) rfl dX4_meets_9 ?_
  refine lv_iload_n hx hb dX4_meets_12 rfl (lv_at hl 2 rfl) ?_
  refine va_mmin hx hb (hml.trans hl.1.symm) hown (hts _ ml_X4_29) (hts _ mS_min) (hts _ mI_math) (hts _ mC_min) (Nat.le_of_ble_eq_true rfl) (Nat.le_of_ble_eq_true rfl) (Nat.zero_le _) (Nat.zero_le _) dX4_meets_13 ?_
  obtain ⟨x2, ex2, hf⟩ := lt_e hf
  refine lv_nm ex2 ?_
  refine lv_icmp_gt (tgt := 23) hx hb dX4_meets_16 (by decide) (fun c3 => ?_) (fun c3 => ?_)
  · have hf := ite_t c3 hf
    refine lv_iconst (v := 0) hx hb dX4_meets_23 kI_0 ?_
    exact hret _ _ _ _ _ _ (Or.inr rfl) (Option.some.inj hf) hP hS dX4_meets_24
  · have hf := ite_f c3 hf
    refine lv_iconst (v := 1) hx hb dX4_meets_19 kI_1 ?_
    refine lv_goto (tgt := 24) hx hb dX4_meets_20 (by decide) ?_
    exact hret _ _ _ _ _ _ (Or.inr rfl) (Option.some.inj hf) hP hS dX4_meets_24
abbrev rm_X4_mostAlike : Room := { frames := 4, cells := 0, slots := 0, locals := 127 }
set_option maxRecDepth 100000 in
theorem t_X4_mostAlike (l : Launch) (v : Ev) (N : Nat) (a2 : Int32) (g : Sg) (res : Int32 × Sg) (hf : x_X4_mostAlike N a2 g = some res) : Ci l yX4_mostAlike cX4_mostAlike 9 .int rm_X4_mostAlike pX v [.ref (zA v 6), .ref (zA v 1), .int a2] g res := by
  refine ze_i (by decide +kernel) (Nat.le_of_ble_eq_true rfl) ?_
  intro p e s m args below meth c Q ls hcx hret hP hl
  obtain ⟨hx, hb, hml, hown, hts, hk⟩ := hcx
  have hown : s.vm.findClass RX4 = some m.cls := hown
  have hS : va_S (An nX v) s.heap s.heap [] := va_S.rf
  have hl : lv_has ls 9 [(0, .ref (zA v 6)), (1, .ref (zA v 1)), (2, .int a2)] := hl
  have wL31 : ∀ (n : Nat) (x : Int32 × Int32 × Int32 × Int32 × Int32 × Sg), lp (x_X4_mostAlike_B31 N) n x = some res → ∀ (H : Heap) (locs : List Loc) (ls : Array Slot), va_P (zD v) vwCl (pX.1 v x.2.2.2.2.2) H → va_S (An nX v) s.heap H locs → lv_has ls 9 [(0, .ref (zA v 6)), (3, .int x.1), (4, .int x.2.1), (5, .int x.2.2.1), (6, .int x.2.2.2.1), (7, .int x.2.2.2.2.1)] → W p l e rm_X4_mostAlike s m args below meth c H locs 0 0 Q (F0 m 31 ls []) := by
    refine lp_w (P := fun x : Int32 × Int32 × Int32 × Int32 × Int32 × Sg => ∀ (H : Heap) (locs : List Loc) (ls : Array Slot), va_P (zD v) vwCl (pX.1 v x.2.2.2.2.2) H → va_S (An nX v) s.heap H locs → lv_has ls 9 [(0, .ref (zA v 6)), (3, .int x.1), (4, .int x.2.1), (5, .int x.2.2.1), (6, .int x.2.2.2.1), (7, .int x.2.2.2.2.1)] → W p l e rm_X4_mostAlike s m args below meth c H locs 0 0 Q (F0 m 31 ls [])) ?_
    intro h31 hh31 x hf H locs ls hP hS hl
    unfold x_X4_mostAlike_B31 at hf
    refine lv_iload hx hb dX4_mostAlike_31 (lv_at hl 5 rfl) ?_
    refine lv_bipush (v := -2) hx hb dX4_mostAlike_33 kB_m2 ?_
    refine lv_icmp_lt (tgt := 82) hx hb dX4_mostAlike_35 (by decide) (fun c5 => ?_) (fun c5 => ?_)
    · have hf := ite_t c5 hf
      refine lv_iload hx hb dX4_mostAlike_82 (lv_at hl 3 rfl) ?_
      exact hret _ _ _ _ _ _ (Or.inl rfl) (Option.some.inj hf) hP hS dX4_mostAlike_84
    · have hf := ite_f c5 hf
      refine lv_aload_n hx hb dX4_mostAlike_38 rfl (lv_at hl 0 rfl) ?_
      refine va_get (D := zD v) (ci := 3) (v := .int (x.2.2.2.2.2 6 1)) (C := RX4) (T := TX4) (N := 2) hx hb hts iX4 hown hk.1 hP 6 rfl rfl 1 (by decide) (hts _ fl_X4_15) (fun _ h9 => h9) rfl dX4_mostAlike_39 ?_
      refine lv_iload_n hx hb dX4_mostAlike_42 rfl (lv_at hl 1 rfl) ?_
      refine lv_iload hx hb dX4_mostAlike_43 (lv_at hl 2 rfl) ?_
      refine lv_iload hx hb dX4_mostAlike_45 (lv_at hl 5 rfl) ?_
      obtain ⟨q6, eq6, hf⟩ := bd_e hf
      refine zki hS (zrS (As := [.int x.1, .int x.2.1, .int x.2.2.2.2.1]) (rest := [.int (x.2.2.2.2.2 6 1)]) okX hx hb hml hown hts hk hP hS (t_X0_reach l v N x.1 x.2.1 x.2.2.2.2.1 x.2.2.2.2.2 _ eq6) sk_X0_reach ml_X4_40 rfl rfl ⟨(Nat.le_of_ble_eq_true rfl), (Nat.le_of_ble_eq_true rfl)⟩ rfl hl.1 rfl (Nat.le_of_ble_eq_true rfl) dX4_mostAlike_47) (fun H locs hP hS => ?_)
      refine va_mmin hx hb (hml.trans hl.1.symm) hown (hts _ ml_X4_29) (hts _ mS_min) (hts _ mI_math) (hts _ mC_min) (Nat.le_of_ble_eq_true rfl) (Nat.le_of_ble_eq_true rfl) (Nat.zero_le _) (Nat.zero_le _) dX4_mostAlike_50 ?_
      obtain ⟨x7, ex7, hf⟩ := lt_e hf
      refine lv_nm ex7 ?_
      refine lv_istore (lv' := [(8, .int x7), (0, .ref (zA v 6)), (3, .int x.1), (4, .int x.2.1), (5, .int x.2.2.1), (6, .int x.2.2.2.1), (7, .int x.2.2.2.2.1)]) hx hb dX4_mostAlike_53 hl (by decide) rfl (fun ls hl => ?_)
      refine lv_iload hx hb dX4_mostAlike_55 (lv_at hl 4 rfl) ?_
      refine lv_iload hx hb dX4_mostAlike_57 (lv_at hl 0 rfl) ?_
      refine lv_iload hx hb dX4_mostAlike_59 (lv_at hl 5 rfl) ?_
      refine lv_isub hx hb dX4_mostAlike_61 ?_
      refine va_mmax hx hb (hml.trans hl.1.symm) hown (hts _ ml_X4_18) (hts _ mS_max) (hts _ mI_math) (hts _ mC_max) (Nat.le_of_ble_eq_true rfl) (Nat.le_of_ble_eq_true rfl) (Nat.zero_le _) (Nat.zero_le _) dX4_mostAlike_62 ?_
      obtain ⟨x8, ex8, hf⟩ := lt_e hf
      refine lv_nm ex8 ?_
      refine lv_istore (lv' := [(5, .int x8), (8, .int x7), (0, .ref (zA v 6)), (3, .int x.1), (4, .int x.2.1), (6, .int x.2.2.2.1), (7, .int x.2.2.2.2.1)]) hx hb dX4_mostAlike_65 hl (by decide) rfl (fun ls hl => ?_)
      refine lv_iload hx hb dX4_mostAlike_67 (lv_at hl 5 rfl) ?_
      refine lv_iload hx hb dX4_mostAlike_69 (lv_at hl 1 rfl) ?_
      refine va_mmax hx hb (hml.trans hl.1.symm) hown (hts _ ml_X4_18) (hts _ mS_max) (hts _ mI_math) (hts _ mC_max) (Nat.le_of_ble_eq_true rfl) (Nat.le_of_ble_eq_true rfl) (Nat.zero_le _) (Nat.zero_le _) dX4_mostAlike_71 ?_
      obtain ⟨x9, ex9, hf⟩ := lt_e hf
      refine lv_nm ex9 ?_
      refine lv_istore (lv' := [(6, .int x9), (5, .int x8), (8, .int x7), (0, .ref (zA v 6)), (3, .int x.1), (4, .int x.2.1), (7, .int x.2.2.2.2.1)]) hx hb dX4_mostAlike_74 hl (by decide) rfl (fun ls hl => ?_)
      obtain ⟨x10, ex10, hf⟩ := lt_e hf
      refine lv_iinc (v := x10) (lv' := [(7, .int x10), (6, .int x9), (5, .int x8), (8, .int x7), (0, .ref (zA v 6)), (3, .int x.1), (4, .int x.2.1)]) hx hb dX4_mostAlike_76 hl (k := 6) rfl ((congrArg (fun z => x.2.2.2.2.1 + z) kI_m1).trans ex10.symm) (by decide) rfl (fun ls hl => ?_)
      refine lv_goto (tgt := 31) hx hb dX4_mostAlike_79 (by decide) ?_
      exact hh31 (x.1, x.2.1, x8, x9, x10, q6.2) hf _ _ _ hP hS (lv_sub hl [4, 5, 6, 2, 1, 0] rfl)
  unfold x_X4_mostAlike at hf
  refine lv_aload_n hx hb dX4_mostAlike_0 rfl (lv_at hl 1 rfl) ?_
  refine va_get (D := zD v) (ci := 4) (v := .ref (zA v 12)) (C := RX5) (T := TX5) (N := 10) hx hb hts iX5 hown hk.1 hP 1 rfl rfl 6 (by decide) (hts _ fl_X4_32) (fun _ h9 => h9) rfl dX4_mostAlike_1 ?_
  refine lv_iload_n hx hb dX4_mostAlike_4 rfl (lv_at hl 2 rfl) ?_
  refine lv_bipush (v := 20) hx hb dX4_mostAlike_5 kB_20 ?_
  refine lv_idiv hx hb dX4_mostAlike_7 kz_20 ?_
  obtain ⟨c1, hf⟩ := gd_e hf
  refine va_iald hx hb hk.1 hP 12 0 rfl rfl (inb_in c1) dX4_mostAlike_8 ?_
  obtain ⟨x2, ex2, hf⟩ := lt_e hf
  refine lv_nm ex2 ?_
  refine lv_istore_n (lv' := [(3, .int x2), (0, .ref (zA v 6)), (1, .ref (zA v 1)), (2, .int a2)]) hx hb dX4_mostAlike_9 rfl hl (by decide) rfl (fun ls hl => ?_)
  refine lv_aload_n hx hb dX4_mostAlike_10 rfl (lv_at hl 2 rfl) ?_
  refine lv_iload_n hx hb dX4_mostAlike_11 rfl (lv_at hl 3 rfl) ?_
  obtain ⟨q3, eq3, hf⟩ := bd_e hf
  refine zki hS (zrV (As := [.int a2]) (rest := []) okX hx hb hml hown hts hk hP hS (t_X5_seeming l v N a2 g _ eq3) vk_X5_seeming ml_X4_36 rfl rfl ⟨(Nat.le_of_ble_eq_true rfl), (Nat.le_of_ble_eq_true rfl)⟩ (va_recv (q := (RX5, TX5, 10)) hk.1 hP (q0 := 1) (ci := 4) rfl rfl) rfl hl.1 rfl (Nat.le_of_ble_eq_true rfl) dX4_mostAlike_12) (fun H locs hP hS => ?_)
  refine lv_istore (lv' := [(4, .int q3.1), (3, .int x2), (0, .ref (zA v 6)), (1, .ref (zA v 1)), (2, .int a2)]) hx hb dX4_mostAlike_15 hl (by decide) rfl (fun ls hl => ?_)
  refine lv_iconst (v := 0) hx hb dX4_mostAlike_17 kI_0 ?_
  refine lv_istore (lv' := [(5, .int (0 : Int32)), (4, .int q3.1), (3, .int x2), (0, .ref (zA v 6)), (1, .ref (zA v 1)), (2, .int a2)]) hx hb dX4_mostAlike_18 hl (by decide) rfl (fun ls hl => ?_)
  refine lv_aload_n hx hb dX4_mostAlike_20 rfl (lv_at hl 3 rfl) ?_
  refine va_get (D := zD v) (ci := 3) (v := .int (q3.2 6 0)) (C := RX4) (T := TX4) (N := 2) hx hb hts iX4 hown hk.1 hP 6 rfl rfl 0 (by decide) (hts _ fl_X4_9) (fun _ h9 => h9) rfl dX4_mostAlike_21 ?_
  refine lv_iconst (v := 1) hx hb dX4_mostAlike_24 kI_1 ?_
  refine lv_isub hx hb dX4_mostAlike_25 ?_
  obtain ⟨x4, ex4, hf⟩ := lt_e hf
  refine lv_nm ex4 ?_
  refine lv_istore (lv' := [(6, .int x4), (5, .int (0 : Int32)), (4, .int q3.1), (3, .int x2), (0, .ref (zA v 6)), (1, .ref (zA v 1)), (2, .int a2)]) hx hb dX4_mostAlike_26 hl (by decide) rfl (fun ls hl => ?_)
  refine lv_iconst (v := 2) hx hb dX4_mostAlike_28 kI_2 ?_
  refine lv_istore (lv' := [(7, .int (2 : Int32)), (6, .int x4), (5, .int (0 : Int32)), (4, .int q3.1), (3, .int x2), (0, .ref (zA v 6)), (1, .ref (zA v 1)), (2, .int a2)]) hx hb dX4_mostAlike_29 hl (by decide) rfl (fun ls hl => ?_)
  exact wL31 N (x2, q3.1, (0 : Int32), x4, (2 : Int32), q3.2) hf _ _ _ hP hS (lv_sub hl [5, 4, 3, 2, 1, 0] rfl)
abbrev rm_X3_isOne : Room := { frames := 1, cells := 0, slots := 0, locals := 60 }
set_option maxRecDepth 100000 in
theorem t_X3_isOne (l : Launch) (v : Ev) (N : Nat) (a0 : Int32) (g : Sg) (res : Int32 × Sg) (hf : x_X3_isOne N a0 g = some res) : Ci l yX3_isOne cX3_isOne 1 .boolean rm_X3_isOne pX v [.int a0] g res := by
  refine ze_i (by decide +kernel) (Nat.le_of_ble_eq_true rfl) ?_
  intro p e s m args below meth c Q ls hcx hret hP hl
  obtain ⟨hx, hb, hml, hown, hts, hk⟩ := hcx
  have hown : s.vm.findClass RX3 = some m.cls := hown
  have hS : va_S (An nX v) s.heap s.heap [] := va_S.rf
  have hl : lv_has ls 1 [(0, .int a0)] := hl
  unfold x_X3_isOne at hf
  refine lv_iload_n hx hb dX3_isOne_0 rfl (lv_at hl 0 rfl) ?_
  refine lv_if_lt (tgt := 13) hx hb dX3_isOne_1 (by decide) (fun c1 => ?_) (fun c1 => ?_)
  · have hf := ite_t c1 hf
    refine lv_iconst (v := 0) hx hb dX3_isOne_13 kI_0 ?_
    exact hret _ _ _ _ _ _ (Or.inr rfl) (Option.some.inj hf) hP hS dX3_isOne_14
  · have hf := ite_f c1 hf
    refine lv_iload_n hx hb dX3_isOne_4 rfl (lv_at hl 0 rfl) ?_
    refine lv_iconst (v := 4) hx hb dX3_isOne_5 kI_4 ?_
    refine lv_icmp_ge (tgt := 13) hx hb dX3_isOne_6 (by decide) (fun c2 => ?_) (fun c2 => ?_)
    · have hf := ite_t c2 hf
      refine lv_iconst (v := 0) hx hb dX3_isOne_13 kI_0 ?_
      exact hret _ _ _ _ _ _ (Or.inr rfl) (Option.some.inj hf) hP hS dX3_isOne_14
    · have hf := ite_f c2 hf
      refine lv_iconst (v := 1) hx hb dX3_isOne_9 kI_1 ?_
      refine lv_goto (tgt := 14) hx hb dX3_isOne_10 (by decide) ?_
      exact hret _ _ _ _ _ _ (Or.inr rfl) (Option.some.inj hf) hP hS dX3_isOne_14
abbrev rm_X3_isMissing : Room := { frames := 1, cells := 0, slots := 0, locals := 60 }
set_option maxRecDepth 100000 in
theorem t_X3_isMissing (l : Launch) (v : Ev) (N : Nat) (a1 : Int32) (g : Sg) (res : Int32 × Sg) (hf : x_X3_isMissing N a1 g = some res) : Ci l yX3_isMissing cX3_isMissing 2 .boolean rm_X3_isMissing pX v [.ref (zA v 5), .int a1] g res := by
  refine ze_i (by decide +kernel) (Nat.le_of_ble_eq_true rfl) ?_
  intro p e s m args below meth c Q ls hcx hret hP hl
  obtain ⟨hx, hb, hml, hown, hts, hk⟩ := hcx
  have hown : s.vm.findClass RX3 = some m.cls := hown
  have hS : va_S (An nX v) s.heap s.heap [] := va_S.rf
  have hl : lv_has ls 2 [(0, .ref (zA v 5)), (1, .int a1)] := hl
  unfold x_X3_isMissing at hf
  refine lv_aload_n hx hb dX3_isMissing_0 rfl (lv_at hl 0 rfl) ?_
  refine va_get (D := zD v) (ci := 2) (v := .ref (zA v 30)) (C := RX3) (T := TX3) (N := 3) hx hb hts iX3 hown hk.1 hP 5 rfl rfl 0 (by decide) (hts _ fl_X3_9) (fun _ h9 => h9) rfl dX3_isMissing_1 ?_
  refine lv_iload_n hx hb dX3_isMissing_4 rfl (lv_at hl 1 rfl) ?_
  obtain ⟨c1, hf⟩ := gd_e hf
  refine va_iald hx hb hk.1 hP 30 0 rfl rfl (inb_in c1) dX3_isMissing_5 ?_
  refine lv_iconst (v := -1) hx hb dX3_isMissing_6 kI_m1 ?_
  refine lv_icmp_ne (tgt := 14) hx hb dX3_isMissing_7 (by decide) (fun c2 => ?_) (fun c2 => ?_)
  · have hf := ite_f c2 hf
    refine lv_iconst (v := 0) hx hb dX3_isMissing_14 kI_0 ?_
    exact hret _ _ _ _ _ _ (Or.inr rfl) (Option.some.inj hf) hP hS dX3_isMissing_15
  · have hf := ite_t c2 hf
    refine lv_iconst (v := 1) hx hb dX3_isMissing_10 kI_1 ?_
    refine lv_goto (tgt := 15) hx hb dX3_isMissing_11 (by decide) ?_
    exact hret _ _ _ _ _ _ (Or.inr rfl) (Option.some.inj hf) hP hS dX3_isMissing_15
abbrev rm_X3_become : Room := { frames := 2, cells := 0, slots := 0, locals := 83 }
set_option maxRecDepth 100000 in
theorem t_X3_become (l : Launch) (v : Ev) (N : Nat) (a1 : Int32) (a2 : Int32) (a3 : Int32) (g : Sg) (res : Sg) (hf : x_X3_become N a1 a2 a3 g = some res) : Cv l yX3_become cX3_become 4 rm_X3_become pX v [.ref (zA v 5), .int a1, .int a2, .int a3] g res := by
  refine ze_v (by decide +kernel) (Nat.le_of_ble_eq_true rfl) ?_
  intro p e s m args below meth c Q ls hcx hret hP hl
  obtain ⟨hx, hb, hml, hown, hts, hk⟩ := hcx
  have hown : s.vm.findClass RX3 = some m.cls := hown
  have hS : va_S (An nX v) s.heap s.heap [] := va_S.rf
  have hl : lv_has ls 4 [(0, .ref (zA v 5)), (1, .int a1), (2, .int a2), (3, .int a3)] := hl
  unfold x_X3_become at hf
  refine lv_aload_n hx hb dX3_become_0 rfl (lv_at hl 0 rfl) ?_
  refine va_get (D := zD v) (ci := 2) (v := .ref (zA v 30)) (C := RX3) (T := TX3) (N := 3) hx hb hts iX3 hown hk.1 hP 5 rfl rfl 0 (by decide) (hts _ fl_X3_9) (fun _ h9 => h9) rfl dX3_become_1 ?_
  refine lv_iload_n hx hb dX3_become_4 rfl (lv_at hl 1 rfl) ?_
  refine lv_iload_n hx hb dX3_become_5 rfl (lv_at hl 2 rfl) ?_
  obtain ⟨c1, hf⟩ := gd_e hf
  refine va_iast hx hb hk.1 hP (zw_D okX hk _) hS 30 0 rfl rfl (inb_in c1) dX3_become_6 (fun H locs hP1 _ hS => ?_)
  have hP : va_P (zD v) vwCl (pX.1 v (up g 30 (upd (g 30) (a1).toNatClampNeg a2))) H := hP1
  obtain ⟨g2, eg2, hf⟩ := lt_e hf
  rw [← eg2] at hP
  refine lv_aload_n hx hb dX3_become_7 rfl (lv_at hl 0 rfl) ?_
  refine va_get (D := zD v) (ci := 2) (v := .ref (zA v 31)) (C := RX3) (T := TX3) (N := 3) hx hb hts iX3 hown hk.1 hP 5 rfl rfl 1 (by decide) (hts _ fl_X3_15) (fun _ h9 => h9) rfl dX3_become_8 ?_
  refine lv_iload_n hx hb dX3_become_11 rfl (lv_at hl 1 rfl) ?_
  refine lv_iload_n hx hb dX3_become_12 rfl (lv_at hl 3 rfl) ?_
  obtain ⟨c3, hf⟩ := gd_e hf
  refine va_iast hx hb hk.1 hP (zw_D okX hk _) hS 31 0 rfl rfl (inb_in c3) dX3_become_13 (fun H locs hP1 _ hS => ?_)
  have hP : va_P (zD v) vwCl (pX.1 v (up g2 31 (upd (g2 31) (a1).toNatClampNeg a3))) H := hP1
  obtain ⟨g4, eg4, hf⟩ := lt_e hf
  rw [← eg4] at hP
  refine lv_aload_n hx hb dX3_become_14 rfl (lv_at hl 0 rfl) ?_
  refine va_get (D := zD v) (ci := 2) (v := .ref (zA v 32)) (C := RX3) (T := TX3) (N := 3) hx hb hts iX3 hown hk.1 hP 5 rfl rfl 2 (by decide) (hts _ fl_X3_20) (fun _ h9 => h9) rfl dX3_become_15 ?_
  refine lv_iload_n hx hb dX3_become_18 rfl (lv_at hl 1 rfl) ?_
  obtain ⟨c5, hf⟩ := gd_e hf
  refine za_ld hx hb hk.1 hP 32 2 rfl rfl (inb_in c5) dX3_become_19 ?_
  refine lv_iconst (v := 0) hx hb dX3_become_20 kI_0 ?_
  obtain ⟨q6, eq6, hf⟩ := bd_e hf
  refine zkv hS (zrS (As := [.ref (zA v (33 + (a1).toNatClampNeg)), .int (0 : Int32)]) (rest := []) okX hx hb hml hown hts hk hP hS (t_J7_fill_53178 l v N (33 + (a1).toNatClampNeg) 40 (fun g9 => zr_at v g9 (inb_lt c5)) (fun g9 F9 => zr_set v g9 F9 (inb_lt c5)) (0 : Int32) g4 _ eq6) sk_J7_fill_53178 ml_X3_23 rfl rfl ⟨(Nat.le_of_ble_eq_true rfl), (Nat.le_of_ble_eq_true rfl)⟩ rfl hl.1 rfl (Nat.le_of_ble_eq_true rfl) dX3_become_21) (fun H locs hP hS => ?_)
  exact hret _ _ _ _ _ (Option.some.inj hf) hP hS dX3_become_24
abbrev rm_X3_put : Room := { frames := 1, cells := 0, slots := 0, locals := 60 }
set_option maxRecDepth 100000 in
theorem t_X3_put (l : Launch) (v : Ev) (N : Nat) (a1 : Int32) (a2 : Int32) (a3 : Int32) (g : Sg) (res : Sg) (hf : x_X3_put N a1 a2 a3 g = some res) : Cv l yX3_put cX3_put 4 rm_X3_put pX v [.ref (zA v 5), .int a1, .int a2, .int a3] g res := by
  refine ze_v (by decide +kernel) (Nat.le_of_ble_eq_true rfl) ?_
  intro p e s m args below meth c Q ls hcx hret hP hl
  obtain ⟨hx, hb, hml, hown, hts, hk⟩ := hcx
  have hown : s.vm.findClass RX3 = some m.cls := hown
  have hS : va_S (An nX v) s.heap s.heap [] := va_S.rf
  have hl : lv_has ls 4 [(0, .ref (zA v 5)), (1, .int a1), (2, .int a2), (3, .int a3)] := hl
  unfold x_X3_put at hf
  refine lv_aload_n hx hb dX3_put_0 rfl (lv_at hl 0 rfl) ?_
  refine va_get (D := zD v) (ci := 2) (v := .ref (zA v 30)) (C := RX3) (T := TX3) (N := 3) hx hb hts iX3 hown hk.1 hP 5 rfl rfl 0 (by decide) (hts _ fl_X3_9) (fun _ h9 => h9) rfl dX3_put_1 ?_
  refine lv_iload_n hx hb dX3_put_4 rfl (lv_at hl 1 rfl) ?_
  obtain ⟨c1, hf⟩ := gd_e hf
  refine va_iald hx hb hk.1 hP 30 0 rfl rfl (inb_in c1) dX3_put_5 ?_
  by_cases c2 : (g 30 (a1).toNatClampNeg) = (0 : Int32)
  · have hf := ite_t c2 hf
    refine lv_lookup (tgt := 32) hx hb dX3_put_6 rfl (by rw [c2]) (by decide) ?_
    refine lv_aload_n hx hb dX3_put_32 rfl (lv_at hl 0 rfl) ?_
    refine va_get (D := zD v) (ci := 2) (v := .ref (zA v 32)) (C := RX3) (T := TX3) (N := 3) hx hb hts iX3 hown hk.1 hP 5 rfl rfl 2 (by decide) (hts _ fl_X3_20) (fun _ h9 => h9) rfl dX3_put_33 ?_
    refine lv_iload_n hx hb dX3_put_36 rfl (lv_at hl 1 rfl) ?_
    obtain ⟨c3, hf⟩ := gd_e hf
    refine za_ld hx hb hk.1 hP 32 2 rfl rfl (inb_in c3) dX3_put_37 ?_
    refine lv_iload_n hx hb dX3_put_38 rfl (lv_at hl 2 rfl) ?_
    refine lv_iload_n hx hb dX3_put_39 rfl (lv_at hl 3 rfl) ?_
    refine lv_i2b hx hb dX3_put_40 rfl ?_
    obtain ⟨c4, hf⟩ := gd_e hf
    refine va_iast hx hb hk.1 hP (zw_D okX hk _) hS (33 + (a1).toNatClampNeg) 0 (zr_at v g (inb_lt c3)) rfl (inb_in c4) dX3_put_41 (fun H locs hP1 _ hS => ?_)
    have hP : va_P (zD v) vwCl (pX.1 v (up g (33 + (a1).toNatClampNeg) (upd (g (33 + (a1).toNatClampNeg)) (a2).toNatClampNeg ((a3).toInt8.toInt32)))) H := by rw [zr_set v g _ (inb_lt c3)] at hP1; exact hP1
    obtain ⟨g5, eg5, hf⟩ := lt_e hf
    rw [← eg5] at hP
    refine lv_goto (tgt := 67) hx hb dX3_put_42 (by decide) ?_
    exact hret _ _ _ _ _ (Option.some.inj hf) hP hS dX3_put_67
  · have hf := ite_f c2 hf
    by_cases c6 : (g 30 (a1).toNatClampNeg) = (1 : Int32)
    · have hf := ite_t c6 hf
      refine lv_lookup (tgt := 45) hx hb dX3_put_6 rfl (by rw [c6]) (by decide) ?_
      refine lv_aload_n hx hb dX3_put_45 rfl (lv_at hl 0 rfl) ?_
      refine va_get (D := zD v) (ci := 2) (v := .ref (zA v 32)) (C := RX3) (T := TX3) (N := 3) hx hb hts iX3 hown hk.1 hP 5 rfl rfl 2 (by decide) (hts _ fl_X3_20) (fun _ h9 => h9) rfl dX3_put_46 ?_
      refine lv_iload_n hx hb dX3_put_49 rfl (lv_at hl 1 rfl) ?_
      obtain ⟨c7, hf⟩ := gd_e hf
      refine za_ld hx hb hk.1 hP 32 2 rfl rfl (inb_in c7) dX3_put_50 ?_
      refine lv_iload_n hx hb dX3_put_51 rfl (lv_at hl 2 rfl) ?_
      refine lv_iload_n hx hb dX3_put_52 rfl (lv_at hl 3 rfl) ?_
      refine lv_i2s hx hb dX3_put_53 rfl ?_
      obtain ⟨c8, hf⟩ := gd_e hf
      refine va_iast hx hb hk.1 hP (zw_D okX hk _) hS (33 + (a1).toNatClampNeg) 0 (zr_at v g (inb_lt c7)) rfl (inb_in c8) dX3_put_54 (fun H locs hP1 _ hS => ?_)
      have hP : va_P (zD v) vwCl (pX.1 v (up g (33 + (a1).toNatClampNeg) (upd (g (33 + (a1).toNatClampNeg)) (a2).toNatClampNeg ((a3).toInt16.toInt32)))) H := by rw [zr_set v g _ (inb_lt c7)] at hP1; exact hP1
      obtain ⟨g9, eg9, hf⟩ := lt_e hf
      rw [← eg9] at hP
      refine lv_goto (tgt := 67) hx hb dX3_put_55 (by decide) ?_
      exact hret _ _ _ _ _ (Option.some.inj hf) hP hS dX3_put_67
    · have hf := ite_f c6 hf
      refine lv_lookup (tgt := 58) hx hb dX3_put_6 rfl (lk01 c2 c6) (by decide) ?_
      refine lv_aload_n hx hb dX3_put_58 rfl (lv_at hl 0 rfl) ?_
      refine va_get (D := zD v) (ci := 2) (v := .ref (zA v 32)) (C := RX3) (T := TX3) (N := 3) hx hb hts iX3 hown hk.1 hP 5 rfl rfl 2 (by decide) (hts _ fl_X3_20) (fun _ h9 => h9) rfl dX3_put_59 ?_
      refine lv_iload_n hx hb dX3_put_62 rfl (lv_at hl 1 rfl) ?_
      obtain ⟨c10, hf⟩ := gd_e hf
      refine za_ld hx hb hk.1 hP 32 2 rfl rfl (inb_in c10) dX3_put_63 ?_
      refine lv_iload_n hx hb dX3_put_64 rfl (lv_at hl 2 rfl) ?_
      refine lv_iload_n hx hb dX3_put_65 rfl (lv_at hl 3 rfl) ?_
      obtain ⟨c11, hf⟩ := gd_e hf
      refine va_iast hx hb hk.1 hP (zw_D okX hk _) hS (33 + (a1).toNatClampNeg) 0 (zr_at v g (inb_lt c10)) rfl (inb_in c11) dX3_put_66 (fun H locs hP1 _ hS => ?_)
      have hP : va_P (zD v) vwCl (pX.1 v (up g (33 + (a1).toNatClampNeg) (upd (g (33 + (a1).toNatClampNeg)) (a2).toNatClampNeg a3))) H := by rw [zr_set v g _ (inb_lt c10)] at hP1; exact hP1
      obtain ⟨g12, eg12, hf⟩ := lt_e hf
      rw [← eg12] at hP
      exact hret _ _ _ _ _ (Option.some.inj hf) hP hS dX3_put_67
abbrev rm_X6_keep : Room := { frames := 1, cells := 0, slots := 0, locals := 120 }
set_option maxRecDepth 100000 in
theorem t_X6_keep (l : Launch) (v : Ev) (N : Nat) (g : Sg) (res : Int32 × Sg) (hf : x_X6_keep N g = some res) : Ci l yX6_keep cX6_keep 3 .int rm_X6_keep pX v [.ref (zA v 4), .ref (zA v 3)] g res := by
  refine ze_i (by decide +kernel) (Nat.le_of_ble_eq_true rfl) ?_
  intro p e s m args below meth c Q ls hcx hret hP hl
  obtain ⟨hx, hb, hml, hown, hts, hk⟩ := hcx
  have hown : s.vm.findClass RX6 = some m.cls := hown
  have hS : va_S (An nX v) s.heap s.heap [] := va_S.rf
  have hl : lv_has ls 3 [(0, .ref (zA v 4)), (1, .ref (zA v 3))] := hl
  unfold x_X6_keep at hf
  refine lv_aload_n hx hb dX6_keep_0 rfl (lv_at hl 0 rfl) ?_
  refine va_get (D := zD v) (ci := 5) (v := .int (g 4 0)) (C := RX6) (T := TX6) (N := 5) hx hb hts iX6 hown hk.1 hP 4 rfl rfl 0 (by decide) (hts _ fl_X6_24) (fun _ h9 => h9) rfl dX6_keep_1 ?_
  obtain ⟨x1, ex1, hf⟩ := lt_e hf
  refine lv_nm ex1 ?_
  refine lv_istore_n (lv' := [(2, .int x1), (0, .ref (zA v 4)), (1, .ref (zA v 3))]) hx hb dX6_keep_4 rfl hl (by decide) rfl (fun ls hl => ?_)
  refine lv_aload_n hx hb dX6_keep_5 rfl (lv_at hl 2 rfl) ?_
  refine va_get (D := zD v) (ci := 1) (v := .ref (zA v 24)) (C := RX2) (T := TX2) (N := 8) hx hb hts iX2 hown hk.1 hP 3 rfl rfl 5 (by decide) (hts _ fl_X6_28) (fun _ h9 => h9) rfl dX6_keep_6 ?_
  refine lv_iconst (v := 0) hx hb dX6_keep_9 kI_0 ?_
  refine lv_aload_n hx hb dX6_keep_10 rfl (lv_at hl 1 rfl) ?_
  refine va_get (D := zD v) (ci := 5) (v := .ref (zA v 26)) (C := RX6) (T := TX6) (N := 5) hx hb hts iX6 hown hk.1 hP 4 rfl rfl 1 (by decide) (hts _ fl_X6_9) (fun _ h9 => h9) rfl dX6_keep_11 ?_
  refine lv_iload_n hx hb dX6_keep_14 rfl (lv_at hl 0 rfl) ?_
  refine lv_sipush (v := 160) hx hb dX6_keep_15 kS_160 ?_
  refine lv_imul hx hb dX6_keep_18 ?_
  refine lv_sipush (v := 160) hx hb dX6_keep_19 kS_160 ?_
  obtain ⟨c2, hf⟩ := gd_e hf
  have c2 := acb_e c2
  refine va_copyi hx hb (hml.trans hl.1.symm) hown (hts _ ml_X6_31) (hts _ mN_ac) (hts _ mS_ac) (hts _ mI_sys) hk.1 hP (zw_D okX hk _) hS 24 26 0 0 rfl rfl rfl rfl rfl c2.1 c2.2.1 c2.2.2.1 c2.2.2.2.1 c2.2.2.2.2 (fun _ _ => rfl) (Nat.le_of_ble_eq_true rfl) (Nat.le_of_ble_eq_true rfl) dX6_keep_22 (fun H locs hP1 _ hS => ?_)
  have hP : va_P (zD v) vwCl (pX.1 v (up g 26 (va_cpy (g 24) (g 26) ((0 : Int32)).toNatClampNeg ((x1 * (160 : Int32))).toNatClampNeg ((160 : Int32)).toNatClampNeg))) H := hP1
  obtain ⟨g3, eg3, hf⟩ := lt_e hf
  rw [← eg3] at hP
  refine lv_aload_n hx hb dX6_keep_25 rfl (lv_at hl 2 rfl) ?_
  refine va_get (D := zD v) (ci := 1) (v := .ref (zA v 25)) (C := RX2) (T := TX2) (N := 8) hx hb hts iX2 hown hk.1 hP 3 rfl rfl 6 (by decide) (hts _ fl_X6_37) (fun _ h9 => h9) rfl dX6_keep_26 ?_
  refine lv_iconst (v := 0) hx hb dX6_keep_29 kI_0 ?_
  refine lv_aload_n hx hb dX6_keep_30 rfl (lv_at hl 1 rfl) ?_
  refine va_get (D := zD v) (ci := 5) (v := .ref (zA v 27)) (C := RX6) (T := TX6) (N := 5) hx hb hts iX6 hown hk.1 hP 4 rfl rfl 2 (by decide) (hts _ fl_X6_15) (fun _ h9 => h9) rfl dX6_keep_31 ?_
  refine lv_iload_n hx hb dX6_keep_34 rfl (lv_at hl 0 rfl) ?_
  refine lv_iconst (v := 4) hx hb dX6_keep_35 kI_4 ?_
  refine lv_imul hx hb dX6_keep_36 ?_
  refine lv_iconst (v := 4) hx hb dX6_keep_37 kI_4 ?_
  obtain ⟨c4, hf⟩ := gd_e hf
  have c4 := acb_e c4
  refine va_copyi hx hb (hml.trans hl.1.symm) hown (hts _ ml_X6_31) (hts _ mN_ac) (hts _ mS_ac) (hts _ mI_sys) hk.1 hP (zw_D okX hk _) hS 25 27 0 0 rfl rfl rfl rfl rfl c4.1 c4.2.1 c4.2.2.1 c4.2.2.2.1 c4.2.2.2.2 (fun _ _ => rfl) (Nat.le_of_ble_eq_true rfl) (Nat.le_of_ble_eq_true rfl) dX6_keep_38 (fun H locs hP1 _ hS => ?_)
  have hP : va_P (zD v) vwCl (pX.1 v (up g3 27 (va_cpy (g3 25) (g3 27) ((0 : Int32)).toNatClampNeg ((x1 * (4 : Int32))).toNatClampNeg ((4 : Int32)).toNatClampNeg))) H := hP1
  obtain ⟨g5, eg5, hf⟩ := lt_e hf
  rw [← eg5] at hP
  refine lv_aload_n hx hb dX6_keep_41 rfl (lv_at hl 1 rfl) ?_
  refine lv_iload_n hx hb dX6_keep_42 rfl (lv_at hl 0 rfl) ?_
  refine lv_iconst (v := 1) hx hb dX6_keep_43 kI_1 ?_
  refine lv_iadd hx hb dX6_keep_44 ?_
  refine va_put (D := zD v) (ci := 5) (v := .int (x1 + (1 : Int32))) (ty := .int) (C := RX6) (T := TX6) (N := 5) hx hb hts iX6 tyX6 tyX6_ok nmX6 hown hk.1 hP (zw_D okX hk _) hS 4 rfl rfl 0 (by decide) (hts _ fl_X6_24) (fun _ h9 => h9) rfl pd_I rfl rfl (Nat.le_of_ble_eq_true rfl) dX6_keep_45 (fun H locs hP1 _ hS => ?_)
  have hP : va_P (zD v) vwCl (pX.1 v (up g5 4 (upd (g5 4) 0 (x1 + (1 : Int32))))) H := hP1
  obtain ⟨g6, eg6, hf⟩ := lt_e hf
  rw [← eg6] at hP
  refine lv_iload_n hx hb dX6_keep_48 rfl (lv_at hl 0 rfl) ?_
  exact hret _ _ _ _ _ _ (Or.inl rfl) (Option.some.inj hf) hP hS dX6_keep_49
abbrev rm_X6_name : Room := { frames := 1, cells := 0, slots := 0, locals := 60 }
set_option maxRecDepth 100000 in
theorem t_X6_name (l : Launch) (v : Ev) (N : Nat) (a1 : Int32) (a2 : Int32) (a3 : Int32) (a4 : Int32) (a5 : Int32) (a6 : Int32) (g : Sg) (res : Sg) (hf : x_X6_name N a1 a2 a3 a4 a5 a6 g = some res) : Cv l yX6_name cX6_name 7 rm_X6_name pX v [.ref (zA v 4), .int a1, .int a2, .int a3, .int a4, .int a5, .int a6] g res := by
  refine ze_v (by decide +kernel) (Nat.le_of_ble_eq_true rfl) ?_
  intro p e s m args below meth c Q ls hcx hret hP hl
  obtain ⟨hx, hb, hml, hown, hts, hk⟩ := hcx
  have hown : s.vm.findClass RX6 = some m.cls := hown
  have hS : va_S (An nX v) s.heap s.heap [] := va_S.rf
  have hl : lv_has ls 7 [(0, .ref (zA v 4)), (1, .int a1), (2, .int a2), (3, .int a3), (4, .int a4), (5, .int a5), (6, .int a6)] := hl
  unfold x_X6_name at hf
  refine lv_aload_n hx hb dX6_name_0 rfl (lv_at hl 0 rfl) ?_
  refine va_get (D := zD v) (ci := 5) (v := .ref (zA v 28)) (C := RX6) (T := TX6) (N := 5) hx hb hts iX6 hown hk.1 hP 4 rfl rfl 3 (by decide) (hts _ fl_X6_18) (fun _ h9 => h9) rfl dX6_name_1 ?_
  refine lv_iconst (v := 0) hx hb dX6_name_4 kI_0 ?_
  refine lv_iload_n hx hb dX6_name_5 rfl (lv_at hl 1 rfl) ?_
  obtain ⟨c1, hf⟩ := gd_e hf
  refine va_iast hx hb hk.1 hP (zw_D okX hk _) hS 28 0 rfl rfl (inb_in c1) dX6_name_6 (fun H locs hP1 _ hS => ?_)
  have hP : va_P (zD v) vwCl (pX.1 v (up g 28 (upd (g 28) ((0 : Int32)).toNatClampNeg a1))) H := hP1
  obtain ⟨g2, eg2, hf⟩ := lt_e hf
  rw [← eg2] at hP
  refine lv_aload_n hx hb dX6_name_7 rfl (lv_at hl 0 rfl) ?_
  refine va_get (D := zD v) (ci := 5) (v := .ref (zA v 28)) (C := RX6) (T := TX6) (N := 5) hx hb hts iX6 hown hk.1 hP 4 rfl rfl 3 (by decide) (hts _ fl_X6_18) (fun _ h9 => h9) rfl dX6_name_8 ?_
  refine lv_iconst (v := 1) hx hb dX6_name_11 kI_1 ?_
  refine lv_iload_n hx hb dX6_name_12 rfl (lv_at hl 2 rfl) ?_
  obtain ⟨c3, hf⟩ := gd_e hf
  refine va_iast hx hb hk.1 hP (zw_D okX hk _) hS 28 0 rfl rfl (inb_in c3) dX6_name_13 (fun H locs hP1 _ hS => ?_)
  have hP : va_P (zD v) vwCl (pX.1 v (up g2 28 (upd (g2 28) ((1 : Int32)).toNatClampNeg a2))) H := hP1
  obtain ⟨g4, eg4, hf⟩ := lt_e hf
  rw [← eg4] at hP
  refine lv_aload_n hx hb dX6_name_14 rfl (lv_at hl 0 rfl) ?_
  refine va_get (D := zD v) (ci := 5) (v := .ref (zA v 28)) (C := RX6) (T := TX6) (N := 5) hx hb hts iX6 hown hk.1 hP 4 rfl rfl 3 (by decide) (hts _ fl_X6_18) (fun _ h9 => h9) rfl dX6_name_15 ?_
  refine lv_iconst (v := 2) hx hb dX6_name_18 kI_2 ?_
  refine lv_iload_n hx hb dX6_name_19 rfl (lv_at hl 3 rfl) ?_
  obtain ⟨c5, hf⟩ := gd_e hf
  refine va_iast hx hb hk.1 hP (zw_D okX hk _) hS 28 0 rfl rfl (inb_in c5) dX6_name_20 (fun H locs hP1 _ hS => ?_)
  have hP : va_P (zD v) vwCl (pX.1 v (up g4 28 (upd (g4 28) ((2 : Int32)).toNatClampNeg a3))) H := hP1
  obtain ⟨g6, eg6, hf⟩ := lt_e hf
  rw [← eg6] at hP
  refine lv_aload_n hx hb dX6_name_21 rfl (lv_at hl 0 rfl) ?_
  refine va_get (D := zD v) (ci := 5) (v := .ref (zA v 28)) (C := RX6) (T := TX6) (N := 5) hx hb hts iX6 hown hk.1 hP 4 rfl rfl 3 (by decide) (hts _ fl_X6_18) (fun _ h9 => h9) rfl dX6_name_22 ?_
  refine lv_iconst (v := 3) hx hb dX6_name_25 kI_3 ?_
  refine lv_iload hx hb dX6_name_26 (lv_at hl 4 rfl) ?_
  obtain ⟨c7, hf⟩ := gd_e hf
  refine va_iast hx hb hk.1 hP (zw_D okX hk _) hS 28 0 rfl rfl (inb_in c7) dX6_name_28 (fun H locs hP1 _ hS => ?_)
  have hP : va_P (zD v) vwCl (pX.1 v (up g6 28 (upd (g6 28) ((3 : Int32)).toNatClampNeg a4))) H := hP1
  obtain ⟨g8, eg8, hf⟩ := lt_e hf
  rw [← eg8] at hP
  refine lv_aload_n hx hb dX6_name_29 rfl (lv_at hl 0 rfl) ?_
  refine va_get (D := zD v) (ci := 5) (v := .ref (zA v 28)) (C := RX6) (T := TX6) (N := 5) hx hb hts iX6 hown hk.1 hP 4 rfl rfl 3 (by decide) (hts _ fl_X6_18) (fun _ h9 => h9) rfl dX6_name_30 ?_
  refine lv_iconst (v := 4) hx hb dX6_name_33 kI_4 ?_
  refine lv_iload hx hb dX6_name_34 (lv_at hl 5 rfl) ?_
  obtain ⟨c9, hf⟩ := gd_e hf
  refine va_iast hx hb hk.1 hP (zw_D okX hk _) hS 28 0 rfl rfl (inb_in c9) dX6_name_36 (fun H locs hP1 _ hS => ?_)
  have hP : va_P (zD v) vwCl (pX.1 v (up g8 28 (upd (g8 28) ((4 : Int32)).toNatClampNeg a5))) H := hP1
  obtain ⟨g10, eg10, hf⟩ := lt_e hf
  rw [← eg10] at hP
  refine lv_aload_n hx hb dX6_name_37 rfl (lv_at hl 0 rfl) ?_
  refine va_get (D := zD v) (ci := 5) (v := .ref (zA v 28)) (C := RX6) (T := TX6) (N := 5) hx hb hts iX6 hown hk.1 hP 4 rfl rfl 3 (by decide) (hts _ fl_X6_18) (fun _ h9 => h9) rfl dX6_name_38 ?_
  refine lv_iconst (v := 5) hx hb dX6_name_41 kI_5 ?_
  refine lv_iload hx hb dX6_name_42 (lv_at hl 6 rfl) ?_
  obtain ⟨c11, hf⟩ := gd_e hf
  refine va_iast hx hb hk.1 hP (zw_D okX hk _) hS 28 0 rfl rfl (inb_in c11) dX6_name_44 (fun H locs hP1 _ hS => ?_)
  have hP : va_P (zD v) vwCl (pX.1 v (up g10 28 (upd (g10 28) ((5 : Int32)).toNatClampNeg a6))) H := hP1
  obtain ⟨g12, eg12, hf⟩ := lt_e hf
  rw [← eg12] at hP
  exact hret _ _ _ _ _ (Option.some.inj hf) hP hS dX6_name_45
abbrev rm_X6_joined : Room := { frames := 1, cells := 0, slots := 0, locals := 60 }
set_option maxRecDepth 100000 in
theorem t_X6_joined (l : Launch) (v : Ev) (N : Nat) (a0 : Int32) (a1 : Int32) (a2 : Int32) (g : Sg) (res : Int32 × Sg) (hf : x_X6_joined N a0 a1 a2 g = some res) : Ci l yX6_joined cX6_joined 3 .int rm_X6_joined pX v [.int a0, .int a1, .int a2] g res := by
  refine ze_i (by decide +kernel) (Nat.le_of_ble_eq_true rfl) ?_
  intro p e s m args below meth c Q ls hcx hret hP hl
  obtain ⟨hx, hb, hml, hown, hts, hk⟩ := hcx
  have hown : s.vm.findClass RX6 = some m.cls := hown
  have hS : va_S (An nX v) s.heap s.heap [] := va_S.rf
  have hl : lv_has ls 3 [(0, .int a0), (1, .int a1), (2, .int a2)] := hl
  unfold x_X6_joined at hf
  refine lv_iload_n hx hb dX6_joined_0 rfl (lv_at hl 0 rfl) ?_
  by_cases c1 : (a0).toInt < 3 ∨ 19 < (a0).toInt
  · have hf := ite_t c1 hf
    refine lv_tableOut (tgt := 142) hx hb dX6_joined_1 c1 (by decide) ?_
    refine lv_iload_n hx hb dX6_joined_142 rfl (lv_at hl 1 rfl) ?_
    refine lv_iload_n hx hb dX6_joined_143 rfl (lv_at hl 2 rfl) ?_
    refine lv_imul hx hb dX6_joined_144 ?_
    exact hret _ _ _ _ _ _ (Or.inl rfl) (Option.some.inj hf) hP hS dX6_joined_145
  · have hf := ite_f c1 hf
    by_cases c2 : ((a0).toInt - (3)).toNat = 0
    · have hf := ite_t c2 hf
      refine lv_tableIn (tgt := 84) hx hb dX6_joined_1 (fun h => c1 (Or.inl h)) (fun h => c1 (Or.inr h)) (by rw [c2]; rfl) (by decide) ?_
      refine lv_iload_n hx hb dX6_joined_84 rfl (lv_at hl 1 rfl) ?_
      refine lv_if_ne (tgt := 92) hx hb dX6_joined_85 (by decide) (fun c3 => ?_) (fun c3 => ?_)
      · have hf := ite_f c3 hf
        refine lv_iconst (v := 1) hx hb dX6_joined_92 kI_1 ?_
        refine lv_goto (tgt := 97) hx hb dX6_joined_93 (by decide) ?_
        exact hret _ _ _ _ _ _ (Or.inl rfl) (Option.some.inj hf) hP hS dX6_joined_97
      · have hf := ite_t c3 hf
        refine lv_iload_n hx hb dX6_joined_88 rfl (lv_at hl 2 rfl) ?_
        refine lv_if_eq (tgt := 96) hx hb dX6_joined_89 (by decide) (fun c4 => ?_) (fun c4 => ?_)
        · have hf := ite_t c4 hf
          refine lv_iconst (v := 0) hx hb dX6_joined_96 kI_0 ?_
          exact hret _ _ _ _ _ _ (Or.inl rfl) (Option.some.inj hf) hP hS dX6_joined_97
        · have hf := ite_f c4 hf
          refine lv_iconst (v := 1) hx hb dX6_joined_92 kI_1 ?_
          refine lv_goto (tgt := 97) hx hb dX6_joined_93 (by decide) ?_
          exact hret _ _ _ _ _ _ (Or.inl rfl) (Option.some.inj hf) hP hS dX6_joined_97
    · have hf := ite_f c2 hf
      by_cases c5 : ((a0).toInt - (3)).toNat = 1
      · have hf := ite_t c5 hf
        refine lv_tableIn (tgt := 98) hx hb dX6_joined_1 (fun h => c1 (Or.inl h)) (fun h => c1 (Or.inr h)) (by rw [c5]; rfl) (by decide) ?_
        refine lv_iload_n hx hb dX6_joined_98 rfl (lv_at hl 1 rfl) ?_
        refine lv_if_eq (tgt := 110) hx hb dX6_joined_99 (by decide) (fun c6 => ?_) (fun c6 => ?_)
        · have hf := ite_t c6 hf
          refine lv_iconst (v := 0) hx hb dX6_joined_110 kI_0 ?_
          exact hret _ _ _ _ _ _ (Or.inl rfl) (Option.some.inj hf) hP hS dX6_joined_111
        · have hf := ite_f c6 hf
          refine lv_iload_n hx hb dX6_joined_102 rfl (lv_at hl 2 rfl) ?_
          refine lv_if_eq (tgt := 110) hx hb dX6_joined_103 (by decide) (fun c7 => ?_) (fun c7 => ?_)
          · have hf := ite_t c7 hf
            refine lv_iconst (v := 0) hx hb dX6_joined_110 kI_0 ?_
            exact hret _ _ _ _ _ _ (Or.inl rfl) (Option.some.inj hf) hP hS dX6_joined_111
          · have hf := ite_f c7 hf
            refine lv_iconst (v := 1) hx hb dX6_joined_106 kI_1 ?_
            refine lv_goto (tgt := 111) hx hb dX6_joined_107 (by decide) ?_
            exact hret _ _ _ _ _ _ (Or.inl rfl) (Option.some.inj hf) hP hS dX6_joined_111
      · have hf := ite_f c5 hf
        by_cases c8 : ((a0).toInt - (3)).toNat = 2
        · have hf := ite_t c8 hf
          refine lv_tableIn (tgt := 142) hx hb dX6_joined_1 (fun h => c1 (Or.inl h)) (fun h => c1 (Or.inr h)) (by rw [c8]; rfl) (by decide) ?_
          refine lv_iload_n hx hb dX6_joined_142 rfl (lv_at hl 1 rfl) ?_
          refine lv_iload_n hx hb dX6_joined_143 rfl (lv_at hl 2 rfl) ?_
          refine lv_imul hx hb dX6_joined_144 ?_
          exact hret _ _ _ _ _ _ (Or.inl rfl) (Option.some.inj hf) hP hS dX6_joined_145
        · have hf := ite_f c8 hf
          by_cases c9 : ((a0).toInt - (3)).toNat = 3
          · have hf := ite_t c9 hf
            refine lv_tableIn (tgt := 142) hx hb dX6_joined_1 (fun h => c1 (Or.inl h)) (fun h => c1 (Or.inr h)) (by rw [c9]; rfl) (by decide) ?_
            refine lv_iload_n hx hb dX6_joined_142 rfl (lv_at hl 1 rfl) ?_
            refine lv_iload_n hx hb dX6_joined_143 rfl (lv_at hl 2 rfl) ?_
            refine lv_imul hx hb dX6_joined_144 ?_
            exact hret _ _ _ _ _ _ (Or.inl rfl) (Option.some.inj hf) hP hS dX6_joined_145
          · have hf := ite_f c9 hf
            by_cases c10 : ((a0).toInt - (3)).toNat = 4
            · have hf := ite_t c10 hf
              refine lv_tableIn (tgt := 142) hx hb dX6_joined_1 (fun h => c1 (Or.inl h)) (fun h => c1 (Or.inr h)) (by rw [c10]; rfl) (by decide) ?_
              refine lv_iload_n hx hb dX6_joined_142 rfl (lv_at hl 1 rfl) ?_
              refine lv_iload_n hx hb dX6_joined_143 rfl (lv_at hl 2 rfl) ?_
              refine lv_imul hx hb dX6_joined_144 ?_
              exact hret _ _ _ _ _ _ (Or.inl rfl) (Option.some.inj hf) hP hS dX6_joined_145
            · have hf := ite_f c10 hf
              by_cases c11 : ((a0).toInt - (3)).toNat = 5
              · have hf := ite_t c11 hf
                refine lv_tableIn (tgt := 142) hx hb dX6_joined_1 (fun h => c1 (Or.inl h)) (fun h => c1 (Or.inr h)) (by rw [c11]; rfl) (by decide) ?_
                refine lv_iload_n hx hb dX6_joined_142 rfl (lv_at hl 1 rfl) ?_
                refine lv_iload_n hx hb dX6_joined_143 rfl (lv_at hl 2 rfl) ?_
                refine lv_imul hx hb dX6_joined_144 ?_
                exact hret _ _ _ _ _ _ (Or.inl rfl) (Option.some.inj hf) hP hS dX6_joined_145
              · have hf := ite_f c11 hf
                by_cases c12 : ((a0).toInt - (3)).toNat = 6
                · have hf := ite_t c12 hf
                  refine lv_tableIn (tgt := 142) hx hb dX6_joined_1 (fun h => c1 (Or.inl h)) (fun h => c1 (Or.inr h)) (by rw [c12]; rfl) (by decide) ?_
                  refine lv_iload_n hx hb dX6_joined_142 rfl (lv_at hl 1 rfl) ?_
                  refine lv_iload_n hx hb dX6_joined_143 rfl (lv_at hl 2 rfl) ?_
                  refine lv_imul hx hb dX6_joined_144 ?_
                  exact hret _ _ _ _ _ _ (Or.inl rfl) (Option.some.inj hf) hP hS dX6_joined_145
                · have hf := ite_f c12 hf
                  by_cases c13 : ((a0).toInt - (3)).toNat = 7
                  · have hf := ite_t c13 hf
                    refine lv_tableIn (tgt := 142) hx hb dX6_joined_1 (fun h => c1 (Or.inl h)) (fun h => c1 (Or.inr h)) (by rw [c13]; rfl) (by decide) ?_
                    refine lv_iload_n hx hb dX6_joined_142 rfl (lv_at hl 1 rfl) ?_
                    refine lv_iload_n hx hb dX6_joined_143 rfl (lv_at hl 2 rfl) ?_
                    refine lv_imul hx hb dX6_joined_144 ?_
                    exact hret _ _ _ _ _ _ (Or.inl rfl) (Option.some.inj hf) hP hS dX6_joined_145
                  · have hf := ite_f c13 hf
                    by_cases c14 : ((a0).toInt - (3)).toNat = 8
                    · have hf := ite_t c14 hf
                      refine lv_tableIn (tgt := 142) hx hb dX6_joined_1 (fun h => c1 (Or.inl h)) (fun h => c1 (Or.inr h)) (by rw [c14]; rfl) (by decide) ?_
                      refine lv_iload_n hx hb dX6_joined_142 rfl (lv_at hl 1 rfl) ?_
                      refine lv_iload_n hx hb dX6_joined_143 rfl (lv_at hl 2 rfl) ?_
                      refine lv_imul hx hb dX6_joined_144 ?_
                      exact hret _ _ _ _ _ _ (Or.inl rfl) (Option.some.inj hf) hP hS dX6_joined_145
                    · have hf := ite_f c14 hf
                      by_cases c15 : ((a0).toInt - (3)).toNat = 9
                      · have hf := ite_t c15 hf
                        refine lv_tableIn (tgt := 142) hx hb dX6_joined_1 (fun h => c1 (Or.inl h)) (fun h => c1 (Or.inr h)) (by rw [c15]; rfl) (by decide) ?_
                        refine lv_iload_n hx hb dX6_joined_142 rfl (lv_at hl 1 rfl) ?_
                        refine lv_iload_n hx hb dX6_joined_143 rfl (lv_at hl 2 rfl) ?_
                        refine lv_imul hx hb dX6_joined_144 ?_
                        exact hret _ _ _ _ _ _ (Or.inl rfl) (Option.some.inj hf) hP hS dX6_joined_145
                      · have hf := ite_f c15 hf
                        by_cases c16 : ((a0).toInt - (3)).toNat = 10
                        · have hf := ite_t c16 hf
                          refine lv_tableIn (tgt := 142) hx hb dX6_joined_1 (fun h => c1 (Or.inl h)) (fun h => c1 (Or.inr h)) (by rw [c16]; rfl) (by decide) ?_
                          refine lv_iload_n hx hb dX6_joined_142 rfl (lv_at hl 1 rfl) ?_
                          refine lv_iload_n hx hb dX6_joined_143 rfl (lv_at hl 2 rfl) ?_
                          refine lv_imul hx hb dX6_joined_144 ?_
                          exact hret _ _ _ _ _ _ (Or.inl rfl) (Option.some.inj hf) hP hS dX6_joined_145
                        · have hf := ite_f c16 hf
                          by_cases c17 : ((a0).toInt - (3)).toNat = 11
                          · have hf := ite_t c17 hf
                            refine lv_tableIn (tgt := 142) hx hb dX6_joined_1 (fun h => c1 (Or.inl h)) (fun h => c1 (Or.inr h)) (by rw [c17]; rfl) (by decide) ?_
                            refine lv_iload_n hx hb dX6_joined_142 rfl (lv_at hl 1 rfl) ?_
                            refine lv_iload_n hx hb dX6_joined_143 rfl (lv_at hl 2 rfl) ?_
                            refine lv_imul hx hb dX6_joined_144 ?_
                            exact hret _ _ _ _ _ _ (Or.inl rfl) (Option.some.inj hf) hP hS dX6_joined_145
                          · have hf := ite_f c17 hf
                            by_cases c18 : ((a0).toInt - (3)).toNat = 12
                            · have hf := ite_t c18 hf
                              refine lv_tableIn (tgt := 134) hx hb dX6_joined_1 (fun h => c1 (Or.inl h)) (fun h => c1 (Or.inr h)) (by rw [c18]; rfl) (by decide) ?_
                              refine lv_iload_n hx hb dX6_joined_134 rfl (lv_at hl 1 rfl) ?_
                              refine lv_iload_n hx hb dX6_joined_135 rfl (lv_at hl 2 rfl) ?_
                              refine lv_iadd hx hb dX6_joined_136 ?_
                              exact hret _ _ _ _ _ _ (Or.inl rfl) (Option.some.inj hf) hP hS dX6_joined_137
                            · have hf := ite_f c18 hf
                              by_cases c19 : ((a0).toInt - (3)).toNat = 13
                              · have hf := ite_t c19 hf
                                refine lv_tableIn (tgt := 138) hx hb dX6_joined_1 (fun h => c1 (Or.inl h)) (fun h => c1 (Or.inr h)) (by rw [c19]; rfl) (by decide) ?_
                                refine lv_iload_n hx hb dX6_joined_138 rfl (lv_at hl 1 rfl) ?_
                                refine lv_iload_n hx hb dX6_joined_139 rfl (lv_at hl 2 rfl) ?_
                                refine lv_isub hx hb dX6_joined_140 ?_
                                exact hret _ _ _ _ _ _ (Or.inl rfl) (Option.some.inj hf) hP hS dX6_joined_141
                              · have hf := ite_f c19 hf
                                by_cases c20 : ((a0).toInt - (3)).toNat = 14
                                · have hf := ite_t c20 hf
                                  refine lv_tableIn (tgt := 142) hx hb dX6_joined_1 (fun h => c1 (Or.inl h)) (fun h => c1 (Or.inr h)) (by rw [c20]; rfl) (by decide) ?_
                                  refine lv_iload_n hx hb dX6_joined_142 rfl (lv_at hl 1 rfl) ?_
                                  refine lv_iload_n hx hb dX6_joined_143 rfl (lv_at hl 2 rfl) ?_
                                  refine lv_imul hx hb dX6_joined_144 ?_
                                  exact hret _ _ _ _ _ _ (Or.inl rfl) (Option.some.inj hf) hP hS dX6_joined_145
                                · have hf := ite_f c20 hf
                                  by_cases c21 : ((a0).toInt - (3)).toNat = 15
                                  · have hf := ite_t c21 hf
                                    refine lv_tableIn (tgt := 112) hx hb dX6_joined_1 (fun h => c1 (Or.inl h)) (fun h => c1 (Or.inr h)) (by rw [c21]; rfl) (by decide) ?_
                                    refine lv_iload_n hx hb dX6_joined_112 rfl (lv_at hl 1 rfl) ?_
                                    refine lv_iload_n hx hb dX6_joined_113 rfl (lv_at hl 2 rfl) ?_
                                    refine lv_icmp_ge (tgt := 121) hx hb dX6_joined_114 (by decide) (fun c22 => ?_) (fun c22 => ?_)
                                    · have hf := ite_t c22 hf
                                      refine lv_iconst (v := 0) hx hb dX6_joined_121 kI_0 ?_
                                      exact hret _ _ _ _ _ _ (Or.inl rfl) (Option.some.inj hf) hP hS dX6_joined_122
                                    · have hf := ite_f c22 hf
                                      refine lv_iconst (v := 1) hx hb dX6_joined_117 kI_1 ?_
                                      refine lv_goto (tgt := 122) hx hb dX6_joined_118 (by decide) ?_
                                      exact hret _ _ _ _ _ _ (Or.inl rfl) (Option.some.inj hf) hP hS dX6_joined_122
                                  · have hf := ite_f c21 hf
                                    by_cases c23 : ((a0).toInt - (3)).toNat = 16
                                    · have hf := ite_t c23 hf
                                      refine lv_tableIn (tgt := 123) hx hb dX6_joined_1 (fun h => c1 (Or.inl h)) (fun h => c1 (Or.inr h)) (by rw [c23]; rfl) (by decide) ?_
                                      refine lv_iload_n hx hb dX6_joined_123 rfl (lv_at hl 1 rfl) ?_
                                      refine lv_iload_n hx hb dX6_joined_124 rfl (lv_at hl 2 rfl) ?_
                                      refine lv_icmp_ne (tgt := 132) hx hb dX6_joined_125 (by decide) (fun c24 => ?_) (fun c24 => ?_)
                                      · have hf := ite_f c24 hf
                                        refine lv_iconst (v := 0) hx hb dX6_joined_132 kI_0 ?_
                                        exact hret _ _ _ _ _ _ (Or.inl rfl) (Option.some.inj hf) hP hS dX6_joined_133
                                      · have hf := ite_t c24 hf
                                        refine lv_iconst (v := 1) hx hb dX6_joined_128 kI_1 ?_
                                        refine lv_goto (tgt := 133) hx hb dX6_joined_129 (by decide) ?_
                                        exact hret _ _ _ _ _ _ (Or.inl rfl) (Option.some.inj hf) hP hS dX6_joined_133
                                    · have hf := ite_f c23 hf
                                      exact nn_e hf
abbrev rm_X6_step : Room := { frames := 2, cells := 0, slots := 0, locals := 82 }
set_option maxRecDepth 100000 in
theorem t_X6_step (l : Launch) (v : Ev) (N : Nat) (a1 : Int32) (a2 : Int32) (g : Sg) (res : Int32 × Sg) (hf : x_X6_step N a1 a2 g = some res) : Ci l yX6_step cX6_step 3 .int rm_X6_step pX v [.ref (zA v 4), .int a1, .int a2] g res := by
  refine ze_i (by decide +kernel) (Nat.le_of_ble_eq_true rfl) ?_
  intro p e s m args below meth c Q ls hcx hret hP hl
  obtain ⟨hx, hb, hml, hown, hts, hk⟩ := hcx
  have hown : s.vm.findClass RX6 = some m.cls := hown
  have hS : va_S (An nX v) s.heap s.heap [] := va_S.rf
  have hl : lv_has ls 3 [(0, .ref (zA v 4)), (1, .int a1), (2, .int a2)] := hl
  have wb56 : ∀ (y2 : Int32) (t0 : Int32) (t1 : Int32) (g : Sg) (hf : x_X6_step_b56 N y2 t0 t1 g = some res) (H : Heap) (locs : List Loc) (ls : Array Slot) (hP : va_P (zD v) vwCl (pX.1 v g) H) (hS : va_S (An nX v) s.heap H locs) (hl : lv_has ls 3 [(2, .int y2)]), W p l e rm_X6_step s m args below meth c H locs 0 0 Q (F0 m 56 ls [.int t0, .int t1, .ref (zA v 29)]) := by
    intro y2 t0 t1 g hf H locs ls hP hS hl
    unfold x_X6_step_b56 at hf
    obtain ⟨c5, hf⟩ := gd_e hf
    refine va_iast hx hb hk.1 hP (zw_D okX hk _) hS 29 0 rfl rfl (inb_in c5) dX6_step_56 (fun H locs hP1 _ hS => ?_)
    have hP : va_P (zD v) vwCl (pX.1 v (up g 29 (upd (g 29) (t1).toNatClampNeg t0))) H := hP1
    obtain ⟨g6, eg6, hf⟩ := lt_e hf
    rw [← eg6] at hP
    refine lv_iload_n hx hb dX6_step_57 rfl (lv_at hl 0 rfl) ?_
    refine lv_iconst (v := 1) hx hb dX6_step_58 kI_1 ?_
    refine lv_iadd hx hb dX6_step_59 ?_
    exact hret _ _ _ _ _ _ (Or.inl rfl) (Option.some.inj hf) hP hS dX6_step_60
  have wb18 : ∀ (y1 : Int32) (y2 : Int32) (g : Sg) (hf : x_X6_step_b18 N y1 y2 g = some res) (H : Heap) (locs : List Loc) (ls : Array Slot) (hP : va_P (zD v) vwCl (pX.1 v g) H) (hS : va_S (An nX v) s.heap H locs) (hl : lv_has ls 3 [(0, .ref (zA v 4)), (1, .int y1), (2, .int y2)]), W p l e rm_X6_step s m args below meth c H locs 0 0 Q (F0 m 18 ls []) := by
    intro y1 y2 g hf H locs ls hP hS hl
    unfold x_X6_step_b18 at hf
    refine lv_iload_n hx hb dX6_step_18 rfl (lv_at hl 2 rfl) ?_
    refine lv_aload_n hx hb dX6_step_19 rfl (lv_at hl 0 rfl) ?_
    refine va_get (D := zD v) (ci := 5) (v := .ref (zA v 29)) (C := RX6) (T := TX6) (N := 5) hx hb hts iX6 hown hk.1 hP 4 rfl rfl 4 (by decide) (hts _ fl_X6_21) (fun _ h9 => h9) rfl dX6_step_20 ?_
    refine va_alen (v := 160) hx hb hk.1 hP 29 0 rfl rfl kN_160 dX6_step_23 ?_
    refine lv_icmp_lt (tgt := 29) hx hb dX6_step_24 (by decide) (fun c2 => ?_) (fun c2 => ?_)
    · have hf := ite_t c2 hf
      refine lv_aload_n hx hb dX6_step_29 rfl (lv_at hl 0 rfl) ?_
      refine va_get (D := zD v) (ci := 5) (v := .ref (zA v 29)) (C := RX6) (T := TX6) (N := 5) hx hb hts iX6 hown hk.1 hP 4 rfl rfl 4 (by decide) (hts _ fl_X6_21) (fun _ h9 => h9) rfl dX6_step_30 ?_
      refine lv_iload_n hx hb dX6_step_33 rfl (lv_at hl 2 rfl) ?_
      refine lv_iload_n hx hb dX6_step_34 rfl (lv_at hl 1 rfl) ?_
      refine lv_bipush (v := 100) hx hb dX6_step_35 kB_100 ?_
      refine lv_icmp_lt (tgt := 47) hx hb dX6_step_37 (by decide) (fun c3 => ?_) (fun c3 => ?_)
      · have hf := ite_t c3 hf
        refine lv_aload_n hx hb dX6_step_47 rfl (lv_at hl 0 rfl) ?_
        refine va_get (D := zD v) (ci := 5) (v := .ref (zA v 28)) (C := RX6) (T := TX6) (N := 5) hx hb hts iX6 hown hk.1 hP 4 rfl rfl 3 (by decide) (hts _ fl_X6_18) (fun _ h9 => h9) rfl dX6_step_48 ?_
        refine lv_iload_n hx hb dX6_step_51 rfl (lv_at hl 1 rfl) ?_
        refine lv_bipush (v := 6) hx hb dX6_step_52 kB_6 ?_
        refine lv_isub hx hb dX6_step_54 ?_
        obtain ⟨c4, hf⟩ := gd_e hf
        refine va_iald hx hb hk.1 hP 28 0 rfl rfl (inb_in c4) dX6_step_55 ?_
        exact wb56 y2 (g 28 ((y1 - (6 : Int32))).toNatClampNeg) y2 g hf _ _ _ hP hS (lv_sub hl [2] rfl)
      · have hf := ite_f c3 hf
        refine lv_iload_n hx hb dX6_step_40 rfl (lv_at hl 1 rfl) ?_
        refine lv_bipush (v := 100) hx hb dX6_step_41 kB_100 ?_
        refine lv_isub hx hb dX6_step_43 ?_
        refine lv_goto (tgt := 56) hx hb dX6_step_44 (by decide) ?_
        exact wb56 y2 (y1 - (100 : Int32)) y2 g hf _ _ _ hP hS (lv_sub hl [2] rfl)
    · have hf := ite_f c2 hf
      refine lv_iload_n hx hb dX6_step_27 rfl (lv_at hl 2 rfl) ?_
      exact hret _ _ _ _ _ _ (Or.inl rfl) (Option.some.inj hf) hP hS dX6_step_28
  have wb127 : ∀ (y1 : Int32) (y2 : Int32) (g : Sg) (hf : x_X6_step_b127 N y1 y2 g = some res) (H : Heap) (locs : List Loc) (ls : Array Slot) (hP : va_P (zD v) vwCl (pX.1 v g) H) (hS : va_S (An nX v) s.heap H locs) (hl : lv_has ls 3 [(0, .ref (zA v 4)), (1, .int y1), (2, .int y2)]), W p l e rm_X6_step s m args below meth c H locs 0 0 Q (F0 m 127 ls []) := by
    intro y1 y2 g hf H locs ls hP hS hl
    unfold x_X6_step_b127 at hf
    refine lv_iload_n hx hb dX6_step_127 rfl (lv_at hl 2 rfl) ?_
    refine lv_iconst (v := 1) hx hb dX6_step_128 kI_1 ?_
    refine lv_icmp_le (tgt := 164) hx hb dX6_step_129 (by decide) (fun c10 => ?_) (fun c10 => ?_)
    · have hf := ite_t c10 hf
      refine lv_iload_n hx hb dX6_step_164 rfl (lv_at hl 2 rfl) ?_
      exact hret _ _ _ _ _ _ (Or.inl rfl) (Option.some.inj hf) hP hS dX6_step_165
    · have hf := ite_f c10 hf
      refine lv_aload_n hx hb dX6_step_132 rfl (lv_at hl 0 rfl) ?_
      refine va_get (D := zD v) (ci := 5) (v := .ref (zA v 29)) (C := RX6) (T := TX6) (N := 5) hx hb hts iX6 hown hk.1 hP 4 rfl rfl 4 (by decide) (hts _ fl_X6_21) (fun _ h9 => h9) rfl dX6_step_133 ?_
      refine lv_iload_n hx hb dX6_step_136 rfl (lv_at hl 2 rfl) ?_
      refine lv_iconst (v := 2) hx hb dX6_step_137 kI_2 ?_
      refine lv_isub hx hb dX6_step_138 ?_
      refine lv_iload_n hx hb dX6_step_139 rfl (lv_at hl 1 rfl) ?_
      refine lv_aload_n hx hb dX6_step_140 rfl (lv_at hl 0 rfl) ?_
      refine va_get (D := zD v) (ci := 5) (v := .ref (zA v 29)) (C := RX6) (T := TX6) (N := 5) hx hb hts iX6 hown hk.1 hP 4 rfl rfl 4 (by decide) (hts _ fl_X6_21) (fun _ h9 => h9) rfl dX6_step_141 ?_
      refine lv_iload_n hx hb dX6_step_144 rfl (lv_at hl 2 rfl) ?_
      refine lv_iconst (v := 2) hx hb dX6_step_145 kI_2 ?_
      refine lv_isub hx hb dX6_step_146 ?_
      obtain ⟨c11, hf⟩ := gd_e hf
      refine va_iald hx hb hk.1 hP 29 0 rfl rfl (inb_in c11) dX6_step_147 ?_
      refine lv_aload_n hx hb dX6_step_148 rfl (lv_at hl 0 rfl) ?_
      refine va_get (D := zD v) (ci := 5) (v := .ref (zA v 29)) (C := RX6) (T := TX6) (N := 5) hx hb hts iX6 hown hk.1 hP 4 rfl rfl 4 (by decide) (hts _ fl_X6_21) (fun _ h9 => h9) rfl dX6_step_149 ?_
      refine lv_iload_n hx hb dX6_step_152 rfl (lv_at hl 2 rfl) ?_
      refine lv_iconst (v := 1) hx hb dX6_step_153 kI_1 ?_
      refine lv_isub hx hb dX6_step_154 ?_
      obtain ⟨c12, hf⟩ := gd_e hf
      refine va_iald hx hb hk.1 hP 29 0 rfl rfl (inb_in c12) dX6_step_155 ?_
      obtain ⟨q13, eq13, hf⟩ := bd_e hf
      refine zki hS (zrS (As := [.int y1, .int (g 29 ((y2 - (2 : Int32))).toNatClampNeg), .int (g 29 ((y2 - (1 : Int32))).toNatClampNeg)]) (rest := [.int (y2 - (2 : Int32)), .ref (zA v 29)]) okX hx hb hml hown hts hk hP hS (t_X6_joined l v N y1 (g 29 ((y2 - (2 : Int32))).toNatClampNeg) (g 29 ((y2 - (1 : Int32))).toNatClampNeg) g _ eq13) sk_X6_joined ml_X6_42 rfl rfl ⟨(Nat.le_of_ble_eq_true rfl), (Nat.le_of_ble_eq_true rfl)⟩ rfl hl.1 rfl (Nat.le_of_ble_eq_true rfl) dX6_step_156) (fun H locs hP hS => ?_)
      obtain ⟨c14, hf⟩ := gd_e hf
      refine va_iast hx hb hk.1 hP (zw_D okX hk _) hS 29 0 rfl rfl (inb_in c14) dX6_step_159 (fun H locs hP1 _ hS => ?_)
      have hP : va_P (zD v) vwCl (pX.1 v (up q13.2 29 (upd (q13.2 29) ((y2 - (2 : Int32))).toNatClampNeg q13.1))) H := hP1
      obtain ⟨g15, eg15, hf⟩ := lt_e hf
      rw [← eg15] at hP
      refine lv_iload_n hx hb dX6_step_160 rfl (lv_at hl 2 rfl) ?_
      refine lv_iconst (v := 1) hx hb dX6_step_161 kI_1 ?_
      refine lv_isub hx hb dX6_step_162 ?_
      exact hret _ _ _ _ _ _ (Or.inl rfl) (Option.some.inj hf) hP hS dX6_step_163
  have wb97 : ∀ (y1 : Int32) (y2 : Int32) (g : Sg) (hf : x_X6_step_b97 N y1 y2 g = some res) (H : Heap) (locs : List Loc) (ls : Array Slot) (hP : va_P (zD v) vwCl (pX.1 v g) H) (hS : va_S (An nX v) s.heap H locs) (hl : lv_has ls 3 [(0, .ref (zA v 4)), (1, .int y1), (2, .int y2)]), W p l e rm_X6_step s m args below meth c H locs 0 0 Q (F0 m 97 ls []) := by
    intro y1 y2 g hf H locs ls hP hS hl
    unfold x_X6_step_b97 at hf
    refine lv_iload_n hx hb dX6_step_97 rfl (lv_at hl 2 rfl) ?_
    refine lv_if_le (tgt := 127) hx hb dX6_step_98 (by decide) (fun c9 => ?_) (fun c9 => ?_)
    · have hf := ite_t c9 hf
      exact wb127 y1 y2 g hf _ _ _ hP hS (lv_sub hl [0, 1, 2] rfl)
    · have hf := ite_f c9 hf
      refine lv_iload_n hx hb dX6_step_101 rfl (lv_at hl 1 rfl) ?_
      refine lv_bipush (v := 22) hx hb dX6_step_102 kB_22 ?_
      refine lv_icmp_ne (tgt := 127) hx hb dX6_step_104 (by decide) (fun c16 => ?_) (fun c16 => ?_)
      · have hf := ite_f c16 hf
        exact wb127 y1 y2 g hf _ _ _ hP hS (lv_sub hl [0, 1, 2] rfl)
      · have hf := ite_t c16 hf
        refine lv_aload_n hx hb dX6_step_107 rfl (lv_at hl 0 rfl) ?_
        refine va_get (D := zD v) (ci := 5) (v := .ref (zA v 29)) (C := RX6) (T := TX6) (N := 5) hx hb hts iX6 hown hk.1 hP 4 rfl rfl 4 (by decide) (hts _ fl_X6_21) (fun _ h9 => h9) rfl dX6_step_108 ?_
        refine lv_iload_n hx hb dX6_step_111 rfl (lv_at hl 2 rfl) ?_
        refine lv_iconst (v := 1) hx hb dX6_step_112 kI_1 ?_
        refine lv_isub hx hb dX6_step_113 ?_
        refine lv_aload_n hx hb dX6_step_114 rfl (lv_at hl 0 rfl) ?_
        refine va_get (D := zD v) (ci := 5) (v := .ref (zA v 29)) (C := RX6) (T := TX6) (N := 5) hx hb hts iX6 hown hk.1 hP 4 rfl rfl 4 (by decide) (hts _ fl_X6_21) (fun _ h9 => h9) rfl dX6_step_115 ?_
        refine lv_iload_n hx hb dX6_step_118 rfl (lv_at hl 2 rfl) ?_
        refine lv_iconst (v := 1) hx hb dX6_step_119 kI_1 ?_
        refine lv_isub hx hb dX6_step_120 ?_
        obtain ⟨c17, hf⟩ := gd_e hf
        refine va_iald hx hb hk.1 hP 29 0 rfl rfl (inb_in c17) dX6_step_121 ?_
        refine lv_ineg hx hb dX6_step_122 ?_
        obtain ⟨c18, hf⟩ := gd_e hf
        refine va_iast hx hb hk.1 hP (zw_D okX hk _) hS 29 0 rfl rfl (inb_in c18) dX6_step_123 (fun H locs hP1 _ hS => ?_)
        have hP : va_P (zD v) vwCl (pX.1 v (up g 29 (upd (g 29) ((y2 - (1 : Int32))).toNatClampNeg (-(g 29 ((y2 - (1 : Int32))).toNatClampNeg))))) H := hP1
        obtain ⟨g19, eg19, hf⟩ := lt_e hf
        rw [← eg19] at hP
        refine lv_goto (tgt := 164) hx hb dX6_step_124 (by decide) ?_
        refine lv_iload_n hx hb dX6_step_164 rfl (lv_at hl 2 rfl) ?_
        exact hret _ _ _ _ _ _ (Or.inl rfl) (Option.some.inj hf) hP hS dX6_step_165
  have wb93 : ∀ (y2 : Int32) (t0 : Int32) (t1 : Int32) (g : Sg) (hf : x_X6_step_b93 N y2 t0 t1 g = some res) (H : Heap) (locs : List Loc) (ls : Array Slot) (hP : va_P (zD v) vwCl (pX.1 v g) H) (hS : va_S (An nX v) s.heap H locs) (hl : lv_has ls 3 [(2, .int y2)]), W p l e rm_X6_step s m args below meth c H locs 0 0 Q (F0 m 93 ls [.int t0, .int t1, .ref (zA v 29)]) := by
    intro y2 t0 t1 g hf H locs ls hP hS hl
    unfold x_X6_step_b93 at hf
    obtain ⟨c23, hf⟩ := gd_e hf
    refine va_iast hx hb hk.1 hP (zw_D okX hk _) hS 29 0 rfl rfl (inb_in c23) dX6_step_93 (fun H locs hP1 _ hS => ?_)
    have hP : va_P (zD v) vwCl (pX.1 v (up g 29 (upd (g 29) (t1).toNatClampNeg t0))) H := hP1
    obtain ⟨g24, eg24, hf⟩ := lt_e hf
    rw [← eg24] at hP
    refine lv_goto (tgt := 164) hx hb dX6_step_94 (by decide) ?_
    refine lv_iload_n hx hb dX6_step_164 rfl (lv_at hl 0 rfl) ?_
    exact hret _ _ _ _ _ _ (Or.inl rfl) (Option.some.inj hf) hP hS dX6_step_165
  have wb61 : ∀ (y1 : Int32) (y2 : Int32) (g : Sg) (hf : x_X6_step_b61 N y1 y2 g = some res) (H : Heap) (locs : List Loc) (ls : Array Slot) (hP : va_P (zD v) vwCl (pX.1 v g) H) (hS : va_S (An nX v) s.heap H locs) (hl : lv_has ls 3 [(0, .ref (zA v 4)), (1, .int y1), (2, .int y2)]), W p l e rm_X6_step s m args below meth c H locs 0 0 Q (F0 m 61 ls []) := by
    intro y1 y2 g hf H locs ls hP hS hl
    unfold x_X6_step_b61 at hf
    refine lv_iload_n hx hb dX6_step_61 rfl (lv_at hl 2 rfl) ?_
    refine lv_if_le (tgt := 97) hx hb dX6_step_62 (by decide) (fun c8 => ?_) (fun c8 => ?_)
    · have hf := ite_t c8 hf
      exact wb97 y1 y2 g hf _ _ _ hP hS (lv_sub hl [0, 1, 2] rfl)
    · have hf := ite_f c8 hf
      refine lv_iload_n hx hb dX6_step_65 rfl (lv_at hl 1 rfl) ?_
      refine lv_iconst (v := 5) hx hb dX6_step_66 kI_5 ?_
      refine lv_icmp_ne (tgt := 97) hx hb dX6_step_67 (by decide) (fun c20 => ?_) (fun c20 => ?_)
      · have hf := ite_f c20 hf
        exact wb97 y1 y2 g hf _ _ _ hP hS (lv_sub hl [0, 1, 2] rfl)
      · have hf := ite_t c20 hf
        refine lv_aload_n hx hb dX6_step_70 rfl (lv_at hl 0 rfl) ?_
        refine va_get (D := zD v) (ci := 5) (v := .ref (zA v 29)) (C := RX6) (T := TX6) (N := 5) hx hb hts iX6 hown hk.1 hP 4 rfl rfl 4 (by decide) (hts _ fl_X6_21) (fun _ h9 => h9) rfl dX6_step_71 ?_
        refine lv_iload_n hx hb dX6_step_74 rfl (lv_at hl 2 rfl) ?_
        refine lv_iconst (v := 1) hx hb dX6_step_75 kI_1 ?_
        refine lv_isub hx hb dX6_step_76 ?_
        refine lv_aload_n hx hb dX6_step_77 rfl (lv_at hl 0 rfl) ?_
        refine va_get (D := zD v) (ci := 5) (v := .ref (zA v 29)) (C := RX6) (T := TX6) (N := 5) hx hb hts iX6 hown hk.1 hP 4 rfl rfl 4 (by decide) (hts _ fl_X6_21) (fun _ h9 => h9) rfl dX6_step_78 ?_
        refine lv_iload_n hx hb dX6_step_81 rfl (lv_at hl 2 rfl) ?_
        refine lv_iconst (v := 1) hx hb dX6_step_82 kI_1 ?_
        refine lv_isub hx hb dX6_step_83 ?_
        obtain ⟨c21, hf⟩ := gd_e hf
        refine va_iald hx hb hk.1 hP 29 0 rfl rfl (inb_in c21) dX6_step_84 ?_
        refine lv_if_ne (tgt := 92) hx hb dX6_step_85 (by decide) (fun c22 => ?_) (fun c22 => ?_)
        · have hf := ite_f c22 hf
          refine lv_iconst (v := 0) hx hb dX6_step_92 kI_0 ?_
          exact wb93 y2 (0 : Int32) (y2 - (1 : Int32)) g hf _ _ _ hP hS (lv_sub hl [2] rfl)
        · have hf := ite_t c22 hf
          refine lv_iconst (v := 1) hx hb dX6_step_88 kI_1 ?_
          refine lv_goto (tgt := 93) hx hb dX6_step_89 (by decide) ?_
          exact wb93 y2 (1 : Int32) (y2 - (1 : Int32)) g hf _ _ _ hP hS (lv_sub hl [2] rfl)
  unfold x_X6_step at hf
  refine lv_iload_n hx hb dX6_step_0 rfl (lv_at hl 1 rfl) ?_
  refine lv_bipush (v := 100) hx hb dX6_step_1 kB_100 ?_
  refine lv_icmp_ge (tgt := 18) hx hb dX6_step_3 (by decide) (fun c1 => ?_) (fun c1 => ?_)
  · have hf := ite_t c1 hf
    exact wb18 a1 a2 g hf _ _ _ hP hS (lv_sub hl [0, 1, 2] rfl)
  · have hf := ite_f c1 hf
    refine lv_iload_n hx hb dX6_step_6 rfl (lv_at hl 1 rfl) ?_
    refine lv_bipush (v := 6) hx hb dX6_step_7 kB_6 ?_
    refine lv_icmp_lt (tgt := 61) hx hb dX6_step_9 (by decide) (fun c7 => ?_) (fun c7 => ?_)
    · have hf := ite_t c7 hf
      exact wb61 a1 a2 g hf _ _ _ hP hS (lv_sub hl [0, 1, 2] rfl)
    · have hf := ite_f c7 hf
      refine lv_iload_n hx hb dX6_step_12 rfl (lv_at hl 1 rfl) ?_
      refine lv_bipush (v := 12) hx hb dX6_step_13 kB_12 ?_
      refine lv_icmp_ge (tgt := 61) hx hb dX6_step_15 (by decide) (fun c25 => ?_) (fun c25 => ?_)
      · have hf := ite_t c25 hf
        exact wb61 a1 a2 g hf _ _ _ hP hS (lv_sub hl [0, 1, 2] rfl)
      · have hf := ite_f c25 hf
        exact wb18 a1 a2 g hf _ _ _ hP hS (lv_sub hl [0, 1, 2] rfl)
abbrev rm_X6_value : Room := { frames := 3, cells := 0, slots := 0, locals := 104 }
set_option maxRecDepth 100000 in
theorem t_X6_value (l : Launch) (v : Ev) (N : Nat) (a1 : Int32) (a2 : Int32) (g : Sg) (res : Int32 × Sg) (hf : x_X6_value N a1 a2 g = some res) : Ci l yX6_value cX6_value 6 .int rm_X6_value pX v [.ref (zA v 4), .int a1, .int a2] g res := by
  refine ze_i (by decide +kernel) (Nat.le_of_ble_eq_true rfl) ?_
  intro p e s m args below meth c Q ls hcx hret hP hl
  obtain ⟨hx, hb, hml, hown, hts, hk⟩ := hcx
  have hown : s.vm.findClass RX6 = some m.cls := hown
  have hS : va_S (An nX v) s.heap s.heap [] := va_S.rf
  have hl : lv_has ls 6 [(0, .ref (zA v 4)), (1, .int a1), (2, .int a2)] := hl
  have wL17 : ∀ (n : Nat) (x : Int32 × Int32 × Int32 × Int32 × Sg), lp (x_X6_value_B17 N) n x = some res → ∀ (H : Heap) (locs : List Loc) (ls : Array Slot), va_P (zD v) vwCl (pX.1 v x.2.2.2.2) H → va_S (An nX v) s.heap H locs → lv_has ls 6 [(0, .ref (zA v 4)), (1, .int x.1), (3, .int x.2.1), (4, .int x.2.2.1), (5, .int x.2.2.2.1)] → W p l e rm_X6_value s m args below meth c H locs 0 0 Q (F0 m 17 ls []) := by
    refine lp_w (P := fun x : Int32 × Int32 × Int32 × Int32 × Sg => ∀ (H : Heap) (locs : List Loc) (ls : Array Slot), va_P (zD v) vwCl (pX.1 v x.2.2.2.2) H → va_S (An nX v) s.heap H locs → lv_has ls 6 [(0, .ref (zA v 4)), (1, .int x.1), (3, .int x.2.1), (4, .int x.2.2.1), (5, .int x.2.2.2.1)] → W p l e rm_X6_value s m args below meth c H locs 0 0 Q (F0 m 17 ls [])) ?_
    intro h17 hh17 x hf H locs ls hP hS hl
    unfold x_X6_value_B17 at hf
    refine lv_iload hx hb dX6_value_17 (lv_at hl 4 rfl) ?_
    refine lv_aload_n hx hb dX6_value_19 rfl (lv_at hl 0 rfl) ?_
    refine va_get (D := zD v) (ci := 5) (v := .ref (zA v 27)) (C := RX6) (T := TX6) (N := 5) hx hb hts iX6 hown hk.1 hP 4 rfl rfl 2 (by decide) (hts _ fl_X6_15) (fun _ h9 => h9) rfl dX6_value_20 ?_
    refine lv_iload_n hx hb dX6_value_23 rfl (lv_at hl 2 rfl) ?_
    refine lv_iconst (v := 1) hx hb dX6_value_24 kI_1 ?_
    refine lv_iadd hx hb dX6_value_25 ?_
    obtain ⟨c4, hf⟩ := gd_e hf
    refine va_iald hx hb hk.1 hP 27 0 rfl rfl (inb_in c4) dX6_value_26 ?_
    refine lv_icmp_ge (tgt := 57) hx hb dX6_value_27 (by decide) (fun c5 => ?_) (fun c5 => ?_)
    · have hf := ite_t c5 hf
      refine lv_iload hx hb dX6_value_57 (lv_at hl 3 rfl) ?_
      refine lv_if_le (tgt := 71) hx hb dX6_value_59 (by decide) (fun c6 => ?_) (fun c6 => ?_)
      · have hf := ite_t c6 hf
        refine lv_iconst (v := 0) hx hb dX6_value_71 kI_0 ?_
        exact hret _ _ _ _ _ _ (Or.inl rfl) (Option.some.inj hf) hP hS dX6_value_72
      · have hf := ite_f c6 hf
        refine lv_aload_n hx hb dX6_value_62 rfl (lv_at hl 0 rfl) ?_
        refine va_get (D := zD v) (ci := 5) (v := .ref (zA v 29)) (C := RX6) (T := TX6) (N := 5) hx hb hts iX6 hown hk.1 hP 4 rfl rfl 4 (by decide) (hts _ fl_X6_21) (fun _ h9 => h9) rfl dX6_value_63 ?_
        refine lv_iconst (v := 0) hx hb dX6_value_66 kI_0 ?_
        obtain ⟨c7, hf⟩ := gd_e hf
        refine va_iald hx hb hk.1 hP 29 0 rfl rfl (inb_in c7) dX6_value_67 ?_
        refine lv_goto (tgt := 72) hx hb dX6_value_68 (by decide) ?_
        exact hret _ _ _ _ _ _ (Or.inl rfl) (Option.some.inj hf) hP hS dX6_value_72
    · have hf := ite_f c5 hf
      refine lv_aload_n hx hb dX6_value_30 rfl (lv_at hl 0 rfl) ?_
      refine lv_aload_n hx hb dX6_value_31 rfl (lv_at hl 0 rfl) ?_
      refine va_get (D := zD v) (ci := 5) (v := .ref (zA v 26)) (C := RX6) (T := TX6) (N := 5) hx hb hts iX6 hown hk.1 hP 4 rfl rfl 1 (by decide) (hts _ fl_X6_9) (fun _ h9 => h9) rfl dX6_value_32 ?_
      refine lv_iload_n hx hb dX6_value_35 rfl (lv_at hl 1 rfl) ?_
      refine lv_sipush (v := 160) hx hb dX6_value_36 kS_160 ?_
      refine lv_imul hx hb dX6_value_39 ?_
      refine lv_iload hx hb dX6_value_40 (lv_at hl 4 rfl) ?_
      refine lv_iadd hx hb dX6_value_42 ?_
      obtain ⟨c8, hf⟩ := gd_e hf
      refine va_iald hx hb hk.1 hP 26 0 rfl rfl (inb_in c8) dX6_value_43 ?_
      refine lv_iload hx hb dX6_value_44 (lv_at hl 3 rfl) ?_
      obtain ⟨q9, eq9, hf⟩ := bd_e hf
      refine zki hS (zrV (As := [.int (x.2.2.2.2 26 (((x.1 * (160 : Int32)) + x.2.2.2.1)).toNatClampNeg), .int x.2.2.1]) (rest := []) okX hx hb hml hown hts hk hP hS (t_X6_step l v N (x.2.2.2.2 26 (((x.1 * (160 : Int32)) + x.2.2.2.1)).toNatClampNeg) x.2.2.1 x.2.2.2.2 _ eq9) vk_X6_step ml_X6_38 rfl rfl ⟨(Nat.le_of_ble_eq_true rfl), (Nat.le_of_ble_eq_true rfl)⟩ (va_recv (q := (RX6, TX6, 5)) hk.1 hP (q0 := 4) (ci := 5) rfl rfl) rfl hl.1 rfl (Nat.le_of_ble_eq_true rfl) dX6_value_46) (fun H locs hP hS => ?_)
      refine lv_istore (lv' := [(4, .int q9.1), (0, .ref (zA v 4)), (1, .int x.1), (3, .int x.2.1), (5, .int x.2.2.2.1)]) hx hb dX6_value_49 hl (by decide) rfl (fun ls hl => ?_)
      obtain ⟨x10, ex10, hf⟩ := lt_e hf
      refine lv_iinc (v := x10) (lv' := [(5, .int x10), (4, .int q9.1), (0, .ref (zA v 4)), (1, .int x.1), (3, .int x.2.1)]) hx hb dX6_value_51 hl (k := 4) rfl ((congrArg (fun z => x.2.2.2.1 + z) kI_1).trans ex10.symm) (by decide) rfl (fun ls hl => ?_)
      refine lv_goto (tgt := 17) hx hb dX6_value_54 (by decide) ?_
      exact hh17 (x.1, x.2.1, q9.1, x10, q9.2) hf _ _ _ hP hS (lv_sub hl [2, 3, 4, 1, 0] rfl)
  unfold x_X6_value at hf
  refine lv_iload_n hx hb dX6_value_0 rfl (lv_at hl 1 rfl) ?_
  refine lv_iconst (v := 4) hx hb dX6_value_1 kI_4 ?_
  refine lv_imul hx hb dX6_value_2 ?_
  refine lv_iload_n hx hb dX6_value_3 rfl (lv_at hl 2 rfl) ?_
  refine lv_iadd hx hb dX6_value_4 ?_
  obtain ⟨x1, ex1, hf⟩ := lt_e hf
  refine lv_nm ex1 ?_
  refine lv_istore_n (lv' := [(3, .int x1), (0, .ref (zA v 4)), (1, .int a1), (2, .int a2)]) hx hb dX6_value_5 rfl hl (by decide) rfl (fun ls hl => ?_)
  refine lv_iconst (v := 0) hx hb dX6_value_6 kI_0 ?_
  refine lv_istore (lv' := [(4, .int (0 : Int32)), (3, .int x1), (0, .ref (zA v 4)), (1, .int a1), (2, .int a2)]) hx hb dX6_value_7 hl (by decide) rfl (fun ls hl => ?_)
  refine lv_aload_n hx hb dX6_value_9 rfl (lv_at hl 2 rfl) ?_
  refine va_get (D := zD v) (ci := 5) (v := .ref (zA v 27)) (C := RX6) (T := TX6) (N := 5) hx hb hts iX6 hown hk.1 hP 4 rfl rfl 2 (by decide) (hts _ fl_X6_15) (fun _ h9 => h9) rfl dX6_value_10 ?_
  refine lv_iload_n hx hb dX6_value_13 rfl (lv_at hl 1 rfl) ?_
  obtain ⟨c2, hf⟩ := gd_e hf
  refine va_iald hx hb hk.1 hP 27 0 rfl rfl (inb_in c2) dX6_value_14 ?_
  obtain ⟨x3, ex3, hf⟩ := lt_e hf
  refine lv_nm ex3 ?_
  refine lv_istore (lv' := [(5, .int x3), (4, .int (0 : Int32)), (3, .int x1), (0, .ref (zA v 4)), (1, .int a1), (2, .int a2)]) hx hb dX6_value_15 hl (by decide) rfl (fun ls hl => ?_)
  exact wL17 N (a1, x1, (0 : Int32), x3, g) hf _ _ _ hP hS (lv_sub hl [3, 4, 2, 1, 0] rfl)
