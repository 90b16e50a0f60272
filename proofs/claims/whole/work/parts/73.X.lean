theorem ml_X7_165 : Cond.methodLink RX7 165 Lib.Math.min.name ∈ WL := wl (by decide +kernel) rfl
theorem ml_X7_204 : Cond.methodLink RX7 204 Lib.Math.max.name ∈ WL := wl (by decide +kernel) rfl
theorem fl_X7_29 : Cond.fieldLink RX7 29 "HalfASize" "texts" "LHalfASize$Texts;" ∈ WL := wl (by decide +kernel) rfl
theorem fl_X7_10 : Cond.fieldLink RX7 10 "HalfASize" "now" "LHalfASize$State;" ∈ WL := wl (by decide +kernel) rfl
theorem fl_X7_104 : Cond.fieldLink RX7 104 "HalfASize$State" "hour" "I" ∈ WL := wl (by decide +kernel) rfl
theorem vk_X6_name : VOK yX6_name cX6_name 7 none 6 := vok_of (by decide +kernel)
theorem ml_X7_155 : Cond.methodLink RX7 155 yX6_name ∈ WL := wl (by decide +kernel) rfl
theorem fl_X7_152 : Cond.fieldLink RX7 152 "HalfASize$State" "rule" "I" ∈ WL := wl (by decide +kernel) rfl
theorem vk_X6_value : VOK yX6_value cX6_value 6 (some .int) 2 := vok_of (by decide +kernel)
theorem ml_X7_159 : Cond.methodLink RX7 159 yX6_value ∈ WL := wl (by decide +kernel) rfl
theorem sk_X7_within : SOK yX7_within cX7_within 2 (some .int) 2 := sok_of (by decide +kernel)
theorem ml_X7_162 : Cond.methodLink RX7 162 yX7_within ∈ WL := wl (by decide +kernel) rfl
theorem fl_X7_101 : Cond.fieldLink RX7 101 "HalfASize$State" "right" "I" ∈ WL := wl (by decide +kernel) rfl
theorem fl_X7_97 : Cond.fieldLink RX7 97 "HalfASize$State" "left" "I" ∈ WL := wl (by decide +kernel) rfl
theorem kB_m100 : (Int8.ofInt (-100)).toInt32 = (-100 : Int32) := by decide +kernel
theorem sk_X7_isFoot : SOK yX7_isFoot cX7_isFoot 1 (some .boolean) 1 := sok_of (by decide +kernel)
theorem ml_X7_126 : Cond.methodLink RX7 126 yX7_isFoot ∈ WL := wl (by decide +kernel) rfl
theorem fl_X7_107 : Cond.fieldLink RX7 107 "HalfASize$State" "having" "[I" ∈ WL := wl (by decide +kernel) rfl
theorem vk_X5_hasMake : VOK yX5_hasMake cX5_hasMake 2 (some .boolean) 1 := vok_of (by decide +kernel)
theorem ml_X7_130 : Cond.methodLink RX7 130 yX5_hasMake ∈ WL := wl (by decide +kernel) rfl
theorem fl_X7_110 : Cond.fieldLink RX7 110 "HalfASize$State" "number" "[I" ∈ WL := wl (by decide +kernel) rfl
theorem fl_X7_113 : Cond.fieldLink RX7 113 "HalfASize$State" "run" "[I" ∈ WL := wl (by decide +kernel) rfl
theorem fl_X7_116 : Cond.fieldLink RX7 116 "HalfASize$State" "stock" "[I" ∈ WL := wl (by decide +kernel) rfl
theorem fl_X7_123 : Cond.fieldLink RX7 123 "HalfASize$State" "kind" "[I" ∈ WL := wl (by decide +kernel) rfl
theorem vk_X7_footNow : VOK yX7_footNow cX7_footNow 3 (some .int) 1 := vok_of (by decide +kernel)
theorem ml_X7_133 : Cond.methodLink RX7 133 yX7_footNow ∈ WL := wl (by decide +kernel) rfl
theorem fl_X7_87 : Cond.fieldLink RX7 87 "HalfASize" "LOW" "[I" ∈ WL := wl (by decide +kernel) rfl
theorem kN_7 : Int32.ofNat 7 = (7 : Int32) := by decide +kernel
theorem fl_X7_90 : Cond.fieldLink RX7 90 "HalfASize" "HIGH" "[I" ∈ WL := wl (by decide +kernel) rfl
theorem vk_X7_told : VOK yX7_told cX7_told 3 (some .int) 2 := vok_of (by decide +kernel)
theorem ml_X7_93 : Cond.methodLink RX7 93 yX7_told ∈ WL := wl (by decide +kernel) rfl
theorem kc_X7_119 : Cond.constant RX7 119 (1048575) ∈ WL := wl (by decide +kernel) rfl
theorem kz_100 : ¬ (100 : Int32) = 0 := by decide +kernel
theorem kB_9 : (Int8.ofInt (9)).toInt32 = (9 : Int32) := by decide +kernel
theorem kB_19 : (Int8.ofInt (19)).toInt32 = (19 : Int32) := by decide +kernel
theorem fl_X7_120 : Cond.fieldLink RX7 120 "HalfASize$State" "makes" "I" ∈ WL := wl (by decide +kernel) rfl
theorem kB_m4 : (Int8.ofInt (-4)).toInt32 = (-4 : Int32) := by decide +kernel
theorem ml_X7_136 : Cond.methodLink RX7 136 yX5_hasShoe ∈ WL := wl (by decide +kernel) rfl
theorem kS_m1000 : (Int16.ofInt (-1000)).toInt32 = (-1000 : Int32) := by decide +kernel
theorem vk_X5_saysOf : VOK yX5_saysOf cX5_saysOf 4 (some .int) 2 := vok_of (by decide +kernel)
theorem ml_X7_142 : Cond.methodLink RX7 142 yX5_saysOf ∈ WL := wl (by decide +kernel) rfl
theorem ml_X7_139 : Cond.methodLink RX7 139 yX5_lengthOf ∈ WL := wl (by decide +kernel) rfl
theorem fl_X7_22 : Cond.fieldLink RX7 22 "HalfASize" "reader" "LHalfASize$Reader;" ∈ WL := wl (by decide +kernel) rfl
theorem ml_X7_145 : Cond.methodLink RX7 145 yX2_isFull ∈ WL := wl (by decide +kernel) rfl
theorem vk_X2_append : VOK yX2_append cX2_append 2 (some .int) 1 := vok_of (by decide +kernel)
theorem ml_X7_76 : Cond.methodLink RX7 76 yX2_append ∈ WL := wl (by decide +kernel) rfl
theorem fl_X7_149 : Cond.fieldLink RX7 149 "HalfASize$Texts" "held" "I" ∈ WL := wl (by decide +kernel) rfl
theorem vk_X2_read : VOK yX2_read cX2_read 3 (some .int) 0 := vok_of (by decide +kernel)
theorem ml_X7_80 : Cond.methodLink RX7 80 yX2_read ∈ WL := wl (by decide +kernel) rfl
theorem vk_X6_keep : VOK yX6_keep cX6_keep 3 (some .int) 1 := vok_of (by decide +kernel)
theorem ml_X7_83 : Cond.methodLink RX7 83 yX6_keep ∈ WL := wl (by decide +kernel) rfl
theorem ml_X7_170 : Cond.methodLink RX7 170 Lib.Math.abs.name ∈ WL := wl (by decide +kernel) rfl
theorem mS_abs : Cond.static Lib.Math.abs.name ∈ WL := wl (by decide +kernel) rfl
theorem mC_abs : Cond.code Lib.Math.abs.name Lib.Math.abs.code 1 (some .int) ∈ WL := wl (by decide +kernel) rfl
theorem fl_X7_36 : Cond.fieldLink RX7 36 "HalfASize" "sheets" "LHalfASize$Sheets;" ∈ WL := wl (by decide +kernel) rfl
theorem vk_X3_isMissing : VOK yX3_isMissing cX3_isMissing 2 (some .boolean) 1 := vok_of (by decide +kernel)
theorem ml_X7_207 : Cond.methodLink RX7 207 yX3_isMissing ∈ WL := wl (by decide +kernel) rfl
theorem fl_X7_210 : Cond.fieldLink RX7 210 "HalfASize$Sheets" "size" "[I" ∈ WL := wl (by decide +kernel) rfl
theorem fl_X7_212 : Cond.fieldLink RX7 212 "HalfASize$Sheets" "cells" "[[I" ∈ WL := wl (by decide +kernel) rfl
theorem kB_m11 : (Int8.ofInt (-11)).toInt32 = (-11 : Int32) := by decide +kernel
theorem fl_X7_43 : Cond.fieldLink RX7 43 "HalfASize" "feet" "LHalfASize$Span;" ∈ WL := wl (by decide +kernel) rfl
theorem vk_X4_widen : VOK yX4_widen cX4_widen 1 none 0 := vok_of (by decide +kernel)
theorem ml_X7_216 : Cond.methodLink RX7 216 yX4_widen ∈ WL := wl (by decide +kernel) rfl
theorem vk_X4_narrow : VOK yX4_narrow cX4_narrow 4 none 3 := vok_of (by decide +kernel)
theorem ml_X7_219 : Cond.methodLink RX7 219 yX4_narrow ∈ WL := wl (by decide +kernel) rfl
theorem sk_X3_isOne : SOK yX3_isOne cX3_isOne 1 (some .boolean) 1 := sok_of (by decide +kernel)
theorem ml_X7_173 : Cond.methodLink RX7 173 yX3_isOne ∈ WL := wl (by decide +kernel) rfl
theorem vk_X7_rowsRefusal : VOK yX7_rowsRefusal cX7_rowsRefusal 5 (some .int) 1 := vok_of (by decide +kernel)
theorem ml_X7_176 : Cond.methodLink RX7 176 yX7_rowsRefusal ∈ WL := wl (by decide +kernel) rfl
theorem vk_X7_narrowByRows : VOK yX7_narrowByRows cX7_narrowByRows 3 none 1 := vok_of (by decide +kernel)
theorem ml_X7_179 : Cond.methodLink RX7 179 yX7_narrowByRows ∈ WL := wl (by decide +kernel) rfl
theorem vk_X4_size : VOK yX4_size cX4_size 1 (some .int) 0 := vok_of (by decide +kernel)
theorem ml_X7_183 : Cond.methodLink RX7 183 yX4_size ∈ WL := wl (by decide +kernel) rfl
theorem fl_X7_189 : Cond.fieldLink RX7 189 "HalfASize$Span" "greatest" "I" ∈ WL := wl (by decide +kernel) rfl
theorem fl_X7_186 : Cond.fieldLink RX7 186 "HalfASize$Span" "least" "I" ∈ WL := wl (by decide +kernel) rfl
theorem fl_X7_54 : Cond.fieldLink RX7 54 "HalfASize" "first" "LHalfASize$Least;" ∈ WL := wl (by decide +kernel) rfl
theorem vk_X1_clear : VOK yX1_clear cX1_clear 1 none 0 := vok_of (by decide +kernel)
theorem ml_X7_223 : Cond.methodLink RX7 223 yX1_clear ∈ WL := wl (by decide +kernel) rfl
theorem ml_X7_226 : Cond.methodLink RX7 226 yX5_shoes ∈ WL := wl (by decide +kernel) rfl
theorem vk_X5_stocks : VOK yX5_stocks cX5_stocks 2 (some .boolean) 1 := vok_of (by decide +kernel)
theorem ml_X7_229 : Cond.methodLink RX7 229 yX5_stocks ∈ WL := wl (by decide +kernel) rfl
theorem vk_X4_mostAlike : VOK yX4_mostAlike cX4_mostAlike 9 (some .int) 2 := vok_of (by decide +kernel)
theorem ml_X7_232 : Cond.methodLink RX7 232 yX4_mostAlike ∈ WL := wl (by decide +kernel) rfl
theorem vk_X1_offer : VOK yX1_offer cX1_offer 3 none 2 := vok_of (by decide +kernel)
theorem ml_X7_236 : Cond.methodLink RX7 236 yX1_offer ∈ WL := wl (by decide +kernel) rfl
theorem vk_X7_chooseNext : VOK yX7_chooseNext cX7_chooseNext 2 none 0 := vok_of (by decide +kernel)
theorem ml_X7_192 : Cond.methodLink RX7 192 yX7_chooseNext ∈ WL := wl (by decide +kernel) rfl
theorem fl_X7_195 : Cond.fieldLink RX7 195 "HalfASize$Least" "what" "I" ∈ WL := wl (by decide +kernel) rfl
theorem fl_X7_198 : Cond.fieldLink RX7 198 "HalfASize$Least" "measure" "I" ∈ WL := wl (by decide +kernel) rfl
theorem vk_X5_leastFitted : VOK yX5_leastFitted cX5_leastFitted 2 (some .int) 1 := vok_of (by decide +kernel)
theorem ml_X7_243 : Cond.methodLink RX7 243 yX5_leastFitted ∈ WL := wl (by decide +kernel) rfl
theorem vk_X5_greatestFitted : VOK yX5_greatestFitted cX5_greatestFitted 2 (some .int) 1 := vok_of (by decide +kernel)
theorem ml_X7_246 : Cond.methodLink RX7 246 yX5_greatestFitted ∈ WL := wl (by decide +kernel) rfl
theorem vk_X4_meets : VOK yX4_meets cX4_meets 3 (some .boolean) 2 := vok_of (by decide +kernel)
theorem ml_X7_249 : Cond.methodLink RX7 249 yX4_meets ∈ WL := wl (by decide +kernel) rfl
theorem vk_X7_anyFits : VOK yX7_anyFits cX7_anyFits 2 (some .boolean) 0 := vok_of (by decide +kernel)
theorem ml_X7_240 : Cond.methodLink RX7 240 yX7_anyFits ∈ WL := wl (by decide +kernel) rfl
theorem vk_X7_findFor : VOK yX7_findFor cX7_findFor 5 (some .int) 1 := vok_of (by decide +kernel)
theorem ml_X7_201 : Cond.methodLink RX7 201 yX7_findFor ∈ WL := wl (by decide +kernel) rfl
theorem fl_X7_58 : Cond.fieldLink RX7 58 "HalfASize" "second" "LHalfASize$Least;" ∈ WL := wl (by decide +kernel) rfl
theorem fl_X7_61 : Cond.fieldLink RX7 61 "HalfASize" "third" "LHalfASize$Least;" ∈ WL := wl (by decide +kernel) rfl
theorem vk_X7_rubbing : VOK yX7_rubbing cX7_rubbing 6 (some .int) 3 := vok_of (by decide +kernel)
theorem ml_X7_260 : Cond.methodLink RX7 260 yX7_rubbing ∈ WL := wl (by decide +kernel) rfl
theorem vk_X7_priceOf : VOK yX7_priceOf cX7_priceOf 3 (some .int) 1 := vok_of (by decide +kernel)
theorem ml_X7_264 : Cond.methodLink RX7 264 yX7_priceOf ∈ WL := wl (by decide +kernel) rfl
theorem kc_X7_253 : Cond.constant RX7 253 (-100000) ∈ WL := wl (by decide +kernel) rfl
theorem vk_X7_tryAllOn : VOK yX7_tryAllOn cX7_tryAllOn 6 none 0 := vok_of (by decide +kernel)
theorem ml_X7_254 : Cond.methodLink RX7 254 yX7_tryAllOn ∈ WL := wl (by decide +kernel) rfl
theorem vk_X7_worth : VOK yX7_worth cX7_worth 3 (some .int) 0 := vok_of (by decide +kernel)
theorem ml_X7_257 : Cond.methodLink RX7 257 yX7_worth ∈ WL := wl (by decide +kernel) rfl
theorem fl_X7_47 : Cond.fieldLink RX7 47 "HalfASize" "fitted" "[I" ∈ WL := wl (by decide +kernel) rfl
theorem ml_X7_279 : Cond.methodLink RX7 279 yJ7_fill_53178 ∈ WL := wl (by decide +kernel) rfl
theorem vk_X7_markFitted : VOK yX7_markFitted cX7_markFitted 6 none 2 := vok_of (by decide +kernel)
theorem ml_X7_267 : Cond.methodLink RX7 267 yX7_markFitted ∈ WL := wl (by decide +kernel) rfl
theorem vk_X5_peopleOf : VOK yX5_peopleOf cX5_peopleOf 5 (some .int) 2 := vok_of (by decide +kernel)
theorem ml_X7_276 : Cond.methodLink RX7 276 yX5_peopleOf ∈ WL := wl (by decide +kernel) rfl
theorem sk_J6_numberOfTrailingZeros_0f7a4 : SOK yJ6_numberOfTrailingZeros_0f7a4 cJ6_numberOfTrailingZeros_0f7a4 2 (some .int) 1 := sok_of (by decide +kernel)
theorem ml_X7_286 : Cond.methodLink RX7 286 yJ6_numberOfTrailingZeros_0f7a4 ∈ WL := wl (by decide +kernel) rfl
theorem kc_X7_285 : Cond.constant RX7 285 (1048576) ∈ WL := wl (by decide +kernel) rfl
theorem kS_1140 : (Int16.ofInt (1140)).toInt32 = (1140 : Int32) := by decide +kernel
theorem vk_X7_servedBySet : VOK yX7_servedBySet cX7_servedBySet 8 (some .int) 2 := vok_of (by decide +kernel)
theorem ml_X7_270 : Cond.methodLink RX7 270 yX7_servedBySet ∈ WL := wl (by decide +kernel) rfl
theorem sk_X7_nextSet : SOK yX7_nextSet cX7_nextSet 3 (some .int) 1 := sok_of (by decide +kernel)
theorem ml_X7_273 : Cond.methodLink RX7 273 yX7_nextSet ∈ WL := wl (by decide +kernel) rfl
theorem ml_X7_295 : Cond.methodLink RX7 295 yX0_lengthOf ∈ WL := wl (by decide +kernel) rfl
theorem ml_X7_300 : Cond.methodLink RX7 300 yX0_says ∈ WL := wl (by decide +kernel) rfl
theorem vk_X7_rowsHold : VOK yX7_rowsHold cX7_rowsHold 10 (some .boolean) 5 := vok_of (by decide +kernel)
theorem ml_X7_291 : Cond.methodLink RX7 291 yX7_rowsHold ∈ WL := wl (by decide +kernel) rfl
theorem vk_X5_stocked : VOK yX5_stocked cX5_stocked 3 (some .int) 0 := vok_of (by decide +kernel)
theorem ml_X7_303 : Cond.methodLink RX7 303 yX5_stocked ∈ WL := wl (by decide +kernel) rfl
theorem vk_X3_become : VOK yX3_become cX3_become 4 none 3 := vok_of (by decide +kernel)
theorem ml_X7_306 : Cond.methodLink RX7 306 yX3_become ∈ WL := wl (by decide +kernel) rfl
theorem vk_X3_put : VOK yX3_put cX3_put 4 none 3 := vok_of (by decide +kernel)
theorem ml_X7_310 : Cond.methodLink RX7 310 yX3_put ∈ WL := wl (by decide +kernel) rfl
theorem kc_X7_322 : Cond.constant RX7 322 (1103515245) ∈ WL := wl (by decide +kernel) rfl
theorem kS_12345 : (Int16.ofInt (12345)).toInt32 = (12345 : Int32) := by decide +kernel
theorem kz_10 : ¬ (10 : Int32) = 0 := by decide +kernel
theorem vk_X7_draw : VOK yX7_draw cX7_draw 6 (some .int) 2 := vok_of (by decide +kernel)
theorem ml_X7_313 : Cond.methodLink RX7 313 yX7_draw ∈ WL := wl (by decide +kernel) rfl
theorem kc_X7_317 : Cond.constantLong RX7 317 (-4611686018427387904) ∈ WL := wl (by decide +kernel) rfl
theorem sk_X7_commonDivisor : SOK yX7_commonDivisor cX7_commonDivisor 3 (some .int) 2 := sok_of (by decide +kernel)
theorem ml_X7_319 : Cond.methodLink RX7 319 yX7_commonDivisor ∈ WL := wl (by decide +kernel) rfl
theorem fl_X7_16 : Cond.fieldLink RX7 16 "HalfASize" "kept" "LHalfASize$State;" ∈ WL := wl (by decide +kernel) rfl
theorem vk_X5_takeOver : VOK yX5_takeOver cX5_takeOver 2 none 1 := vok_of (by decide +kernel)
theorem ml_X7_323 : Cond.methodLink RX7 323 yX5_takeOver ∈ WL := wl (by decide +kernel) rfl
theorem fl_X7_327 : Cond.fieldLink RX7 327 "HalfASize" "imaged" "Z" ∈ WL := wl (by decide +kernel) rfl
theorem pd_Z : parseFieldDescriptor "Z" = some .boolean := by decide +kernel
theorem kB_m3 : (Int8.ofInt (-3)).toInt32 = (-3 : Int32) := by decide +kernel
theorem fl_X7_331 : Cond.fieldLink RX7 331 "HalfASize$Reader" "taped" "I" ∈ WL := wl (by decide +kernel) rfl
theorem kB_40 : (Int8.ofInt (40)).toInt32 = (40 : Int32) := by decide +kernel
theorem kB_m14 : (Int8.ofInt (-14)).toInt32 = (-14 : Int32) := by decide +kernel
theorem kB_m12 : (Int8.ofInt (-12)).toInt32 = (-12 : Int32) := by decide +kernel
theorem fl_X7_334 : Cond.fieldLink RX7 334 "HalfASize$Sheets" "sort" "[I" ∈ WL := wl (by decide +kernel) rfl
theorem ml_X7_337 : Cond.methodLink RX7 337 arraycopyName ∈ WL := wl (by decide +kernel) rfl
theorem kB_m13 : (Int8.ofInt (-13)).toInt32 = (-13 : Int32) := by decide +kernel
theorem sk_X0_isUnder : SOK yX0_isUnder cX0_isUnder 4 (some .boolean) 2 := sok_of (by decide +kernel)
theorem ml_X7_343 : Cond.methodLink RX7 343 yX0_isUnder ∈ WL := wl (by decide +kernel) rfl
abbrev rm_X7_isFoot : Room := { frames := 1, cells := 0, slots := 0, locals := 60 }
set_option maxRecDepth 100000 in
theorem t_X7_isFoot (l : Launch) (v : Ev) (N : Nat) (a0 : Int32) (g : Sg) (res : Int32 × Sg) (hf : x_X7_isFoot N a0 g = some res) : Ci l yX7_isFoot cX7_isFoot 1 .boolean rm_X7_isFoot pX v [.int a0] g res := by
  refine ze_i (by decide +kernel) (Nat.le_of_ble_eq_true rfl) ?_
  intro p e s m args below meth c Q ls hcx hret hP hl
  obtain ⟨hx, hb, hml, hown, hts, hk⟩ := hcx
  have hown : s.vm.findClass RX7 = some m.cls := hown
  have hS : va_S (An nX v) s.heap s.heap [] := va_S.rf
  have hl : lv_has ls 1 [(0, .int a0)] := hl
  unfold x_X7_isFoot at hf
  refine lv_iload_n hx hb dX7_isFoot_0 rfl (lv_at hl 0 rfl) ?_
  refine lv_if_lt (tgt := 14) hx hb dX7_isFoot_1 (by decide) (fun c1 => ?_) (fun c1 => ?_)
  · have hf := ite_t c1 hf
    refine lv_iconst (v := 0) hx hb dX7_isFoot_14 kI_0 ?_
    exact hret _ _ _ _ _ _ (Or.inr rfl) (Option.some.inj hf) hP hS dX7_isFoot_15
  · have hf := ite_f c1 hf
    refine lv_iload_n hx hb dX7_isFoot_4 rfl (lv_at hl 0 rfl) ?_
    refine lv_bipush (v := 100) hx hb dX7_isFoot_5 kB_100 ?_
    refine lv_icmp_ge (tgt := 14) hx hb dX7_isFoot_7 (by decide) (fun c2 => ?_) (fun c2 => ?_)
    · have hf := ite_t c2 hf
      refine lv_iconst (v := 0) hx hb dX7_isFoot_14 kI_0 ?_
      exact hret _ _ _ _ _ _ (Or.inr rfl) (Option.some.inj hf) hP hS dX7_isFoot_15
    · have hf := ite_f c2 hf
      refine lv_iconst (v := 1) hx hb dX7_isFoot_10 kI_1 ?_
      refine lv_goto (tgt := 15) hx hb dX7_isFoot_11 (by decide) ?_
      exact hret _ _ _ _ _ _ (Or.inr rfl) (Option.some.inj hf) hP hS dX7_isFoot_15
abbrev rm_X7_within : Room := { frames := 1, cells := 0, slots := 0, locals := 60 }
set_option maxRecDepth 100000 in
theorem t_X7_within (l : Launch) (v : Ev) (N : Nat) (a0 : Int32) (a1 : Int32) (g : Sg) (res : Int32 × Sg) (hf : x_X7_within N a0 a1 g = some res) : Ci l yX7_within cX7_within 2 .int rm_X7_within pX v [.int a0, .int a1] g res := by
  refine ze_i (by decide +kernel) (Nat.le_of_ble_eq_true rfl) ?_
  intro p e s m args below meth c Q ls hcx hret hP hl
  obtain ⟨hx, hb, hml, hown, hts, hk⟩ := hcx
  have hown : s.vm.findClass RX7 = some m.cls := hown
  have hS : va_S (An nX v) s.heap s.heap [] := va_S.rf
  have hl : lv_has ls 2 [(0, .int a0), (1, .int a1)] := hl
  unfold x_X7_within at hf
  refine lv_iconst (v := 0) hx hb dX7_within_0 kI_0 ?_
  refine lv_iload_n hx hb dX7_within_1 rfl (lv_at hl 1 rfl) ?_
  refine lv_iload_n hx hb dX7_within_2 rfl (lv_at hl 0 rfl) ?_
  refine va_mmin hx hb (hml.trans hl.1.symm) hown (hts _ ml_X7_165) (hts _ mS_min) (hts _ mI_math) (hts _ mC_min) (Nat.le_of_ble_eq_true rfl) (Nat.le_of_ble_eq_true rfl) (Nat.zero_le _) (Nat.zero_le _) dX7_within_3 ?_
  obtain ⟨x1, ex1, hf⟩ := lt_e hf
  refine lv_nm ex1 ?_
  refine va_mmax hx hb (hml.trans hl.1.symm) hown (hts _ ml_X7_204) (hts _ mS_max) (hts _ mI_math) (hts _ mC_max) (Nat.le_of_ble_eq_true rfl) (Nat.le_of_ble_eq_true rfl) (Nat.zero_le _) (Nat.zero_le _) dX7_within_6 ?_
  obtain ⟨x2, ex2, hf⟩ := lt_e hf
  refine lv_nm ex2 ?_
  exact hret _ _ _ _ _ _ (Or.inl rfl) (Option.some.inj hf) hP hS dX7_within_9
abbrev rm_X7_footNow : Room := { frames := 4, cells := 0, slots := 0, locals := 129 }
set_option maxRecDepth 100000 in
theorem t_X7_footNow (l : Launch) (v : Ev) (N : Nat) (a1 : Int32) (g : Sg) (res : Int32 × Sg) (hf : x_X7_footNow N a1 g = some res) : Ci l yX7_footNow cX7_footNow 3 .int rm_X7_footNow pX v [.ref (zA v 0), .int a1] g res := by
  refine ze_i (by decide +kernel) (Nat.le_of_ble_eq_true rfl) ?_
  intro p e s m args below meth c Q ls hcx hret hP hl
  obtain ⟨hx, hb, hml, hown, hts, hk⟩ := hcx
  have hown : s.vm.findClass RX7 = some m.cls := hown
  have hS : va_S (An nX v) s.heap s.heap [] := va_S.rf
  have hl : lv_has ls 3 [(0, .ref (zA v 0)), (1, .int a1)] := hl
  have wb63 : ∀ (y2 : Int32) (t0 : Int32) (t1 : Int32) (g : Sg) (hf : x_X7_footNow_b63 N y2 t0 t1 g = some res) (H : Heap) (locs : List Loc) (ls : Array Slot) (hP : va_P (zD v) vwCl (pX.1 v g) H) (hS : va_S (An nX v) s.heap H locs) (hl : lv_has ls 3 [(2, .int y2)]), W p l e rm_X7_footNow s m args below meth c H locs 0 0 Q (F0 m 63 ls [.int t0, .int t1]) := by
    intro y2 t0 t1 g hf H locs ls hP hS hl
    unfold x_X7_footNow_b63 at hf
    refine lv_iload_n hx hb dX7_footNow_63 rfl (lv_at hl 0 rfl) ?_
    refine lv_iadd hx hb dX7_footNow_64 ?_
    refine va_mmin hx hb (hml.trans hl.1.symm) hown (hts _ ml_X7_165) (hts _ mS_min) (hts _ mI_math) (hts _ mC_min) (Nat.le_of_ble_eq_true rfl) (Nat.le_of_ble_eq_true rfl) (Nat.zero_le _) (Nat.zero_le _) dX7_footNow_65 ?_
    obtain ⟨x5, ex5, hf⟩ := lt_e hf
    refine lv_nm ex5 ?_
    exact hret _ _ _ _ _ _ (Or.inl rfl) (Option.some.inj hf) hP hS dX7_footNow_68
  unfold x_X7_footNow at hf
  refine lv_aload_n hx hb dX7_footNow_0 rfl (lv_at hl 0 rfl) ?_
  refine va_get (D := zD v) (ci := 6) (v := .ref (zA v 4)) (C := RX7) (T := TX7) (N := 11) hx hb hts iX7 hown hk.1 hP 0 rfl rfl 4 (by decide) (hts _ fl_X7_29) (fun _ h9 => h9) rfl dX7_footNow_1 ?_
  refine lv_iconst (v := 0) hx hb dX7_footNow_4 kI_0 ?_
  refine lv_iconst (v := 0) hx hb dX7_footNow_5 kI_0 ?_
  refine lv_iconst (v := 0) hx hb dX7_footNow_6 kI_0 ?_
  refine lv_iconst (v := 0) hx hb dX7_footNow_7 kI_0 ?_
  refine lv_iload_n hx hb dX7_footNow_8 rfl (lv_at hl 1 rfl) ?_
  refine lv_aload_n hx hb dX7_footNow_9 rfl (lv_at hl 0 rfl) ?_
  refine va_get (D := zD v) (ci := 6) (v := .ref (zA v 1)) (C := RX7) (T := TX7) (N := 11) hx hb hts iX7 hown hk.1 hP 0 rfl rfl 0 (by decide) (hts _ fl_X7_10) (fun _ h9 => h9) rfl dX7_footNow_10 ?_
  refine va_get (D := zD v) (ci := 4) (v := .int (g 1 2)) (C := RX5) (T := TX5) (N := 10) hx hb hts iX5 hown hk.1 hP 1 rfl rfl 2 (by decide) (hts _ fl_X7_104) (fun _ h9 => h9) rfl dX7_footNow_13 ?_
  obtain ⟨q1, eq1, hf⟩ := bd_e hf
  refine zkv hS (zrV (As := [.int (0 : Int32), .int (0 : Int32), .int (0 : Int32), .int (0 : Int32), .int a1, .int (g 1 2)]) (rest := []) okX hx hb hml hown hts hk hP hS (t_X6_name l v N (0 : Int32) (0 : Int32) (0 : Int32) (0 : Int32) a1 (g 1 2) g _ eq1) vk_X6_name ml_X7_155 rfl rfl ⟨(Nat.le_of_ble_eq_true rfl), (Nat.le_of_ble_eq_true rfl)⟩ (va_recv (q := (RX6, TX6, 5)) hk.1 hP (q0 := 4) (ci := 5) rfl rfl) rfl hl.1 rfl (Nat.le_of_ble_eq_true rfl) dX7_footNow_16) (fun H locs hP hS => ?_)
  refine lv_aload_n hx hb dX7_footNow_19 rfl (lv_at hl 0 rfl) ?_
  refine va_get (D := zD v) (ci := 6) (v := .ref (zA v 4)) (C := RX7) (T := TX7) (N := 11) hx hb hts iX7 hown hk.1 hP 0 rfl rfl 4 (by decide) (hts _ fl_X7_29) (fun _ h9 => h9) rfl dX7_footNow_20 ?_
  refine lv_aload_n hx hb dX7_footNow_23 rfl (lv_at hl 0 rfl) ?_
  refine va_get (D := zD v) (ci := 6) (v := .ref (zA v 1)) (C := RX7) (T := TX7) (N := 11) hx hb hts iX7 hown hk.1 hP 0 rfl rfl 0 (by decide) (hts _ fl_X7_10) (fun _ h9 => h9) rfl dX7_footNow_24 ?_
  refine va_get (D := zD v) (ci := 4) (v := .int (q1 1 3)) (C := RX5) (T := TX5) (N := 10) hx hb hts iX5 hown hk.1 hP 1 rfl rfl 3 (by decide) (hts _ fl_X7_152) (fun _ h9 => h9) rfl dX7_footNow_27 ?_
  refine lv_iconst (v := 0) hx hb dX7_footNow_30 kI_0 ?_
  obtain ⟨q2, eq2, hf⟩ := bd_e hf
  refine zki hS (zrV (As := [.int (q1 1 3), .int (0 : Int32)]) (rest := []) okX hx hb hml hown hts hk hP hS (t_X6_value l v N (q1 1 3) (0 : Int32) q1 _ eq2) vk_X6_value ml_X7_159 rfl rfl ⟨(Nat.le_of_ble_eq_true rfl), (Nat.le_of_ble_eq_true rfl)⟩ (va_recv (q := (RX6, TX6, 5)) hk.1 hP (q0 := 4) (ci := 5) rfl rfl) rfl hl.1 rfl (Nat.le_of_ble_eq_true rfl) dX7_footNow_31) (fun H locs hP hS => ?_)
  refine lv_bipush (v := 20) hx hb dX7_footNow_34 kB_20 ?_
  obtain ⟨q3, eq3, hf⟩ := bd_e hf
  refine zki hS (zrS (As := [.int q2.1, .int (20 : Int32)]) (rest := []) okX hx hb hml hown hts hk hP hS (t_X7_within l v N q2.1 (20 : Int32) q2.2 _ eq3) sk_X7_within ml_X7_162 rfl rfl ⟨(Nat.le_of_ble_eq_true rfl), (Nat.le_of_ble_eq_true rfl)⟩ rfl hl.1 rfl (Nat.le_of_ble_eq_true rfl) dX7_footNow_36) (fun H locs hP hS => ?_)
  refine lv_istore_n (lv' := [(2, .int q3.1), (0, .ref (zA v 0)), (1, .int a1)]) hx hb dX7_footNow_39 rfl hl (by decide) rfl (fun ls hl => ?_)
  refine lv_bipush (v := 99) hx hb dX7_footNow_40 kB_99 ?_
  refine lv_iload_n hx hb dX7_footNow_42 rfl (lv_at hl 2 rfl) ?_
  refine lv_if_ne (tgt := 56) hx hb dX7_footNow_43 (by decide) (fun c4 => ?_) (fun c4 => ?_)
  · have hf := ite_f c4 hf
    refine lv_aload_n hx hb dX7_footNow_56 rfl (lv_at hl 1 rfl) ?_
    refine va_get (D := zD v) (ci := 6) (v := .ref (zA v 1)) (C := RX7) (T := TX7) (N := 11) hx hb hts iX7 hown hk.1 hP 0 rfl rfl 0 (by decide) (hts _ fl_X7_10) (fun _ h9 => h9) rfl dX7_footNow_57 ?_
    refine va_get (D := zD v) (ci := 4) (v := .int (q3.2 1 1)) (C := RX5) (T := TX5) (N := 10) hx hb hts iX5 hown hk.1 hP 1 rfl rfl 1 (by decide) (hts _ fl_X7_101) (fun _ h9 => h9) rfl dX7_footNow_60 ?_
    exact wb63 q3.1 (q3.2 1 1) (99 : Int32) q3.2 hf _ _ _ hP hS (lv_sub hl [0] rfl)
  · have hf := ite_t c4 hf
    refine lv_aload_n hx hb dX7_footNow_46 rfl (lv_at hl 1 rfl) ?_
    refine va_get (D := zD v) (ci := 6) (v := .ref (zA v 1)) (C := RX7) (T := TX7) (N := 11) hx hb hts iX7 hown hk.1 hP 0 rfl rfl 0 (by decide) (hts _ fl_X7_10) (fun _ h9 => h9) rfl dX7_footNow_47 ?_
    refine va_get (D := zD v) (ci := 4) (v := .int (q3.2 1 0)) (C := RX5) (T := TX5) (N := 10) hx hb hts iX5 hown hk.1 hP 1 rfl rfl 0 (by decide) (hts _ fl_X7_97) (fun _ h9 => h9) rfl dX7_footNow_50 ?_
    refine lv_goto (tgt := 63) hx hb dX7_footNow_53 (by decide) ?_
    exact wb63 q3.1 (q3.2 1 0) (99 : Int32) q3.2 hf _ _ _ hP hS (lv_sub hl [0] rfl)
abbrev rm_X7_told : Room := { frames := 5, cells := 0, slots := 0, locals := 151 }
set_option maxRecDepth 100000 in
theorem t_X7_told (l : Launch) (v : Ev) (N : Nat) (a1 : Int32) (a2 : Int32) (g : Sg) (res : Int32 × Sg) (hf : x_X7_told N a1 a2 g = some res) : Ci l yX7_told cX7_told 3 .int rm_X7_told pX v [.ref (zA v 0), .int a1, .int a2] g res := by
  refine ze_i (by decide +kernel) (Nat.le_of_ble_eq_true rfl) ?_
  intro p e s m args below meth c Q ls hcx hret hP hl
  obtain ⟨hx, hb, hml, hown, hts, hk⟩ := hcx
  have hown : s.vm.findClass RX7 = some m.cls := hown
  have hS : va_S (An nX v) s.heap s.heap [] := va_S.rf
  have hl : lv_has ls 3 [(0, .ref (zA v 0)), (1, .int a1), (2, .int a2)] := hl
  unfold x_X7_told at hf
  refine lv_iload_n hx hb dX7_told_0 rfl (lv_at hl 2 rfl) ?_
  by_cases c1 : (a2).toInt < 0 ∨ 9 < (a2).toInt
  · have hf := ite_t c1 hf
    refine lv_tableOut (tgt := 218) hx hb dX7_told_1 c1 (by decide) ?_
    refine lv_bipush (v := -100) hx hb dX7_told_218 kB_m100 ?_
    exact hret _ _ _ _ _ _ (Or.inl rfl) (Option.some.inj hf) hP hS dX7_told_220
  · have hf := ite_f c1 hf
    by_cases c2 : ((a2).toInt - (0)).toNat = 0
    · have hf := ite_t c2 hf
      refine lv_tableIn (tgt := 56) hx hb dX7_told_1 (fun h => c1 (Or.inl h)) (fun h => c1 (Or.inr h)) (by rw [c2]; rfl) (by decide) ?_
      refine lv_aload_n hx hb dX7_told_56 rfl (lv_at hl 0 rfl) ?_
      refine va_get (D := zD v) (ci := 6) (v := .ref (zA v 1)) (C := RX7) (T := TX7) (N := 11) hx hb hts iX7 hown hk.1 hP 0 rfl rfl 0 (by decide) (hts _ fl_X7_10) (fun _ h9 => h9) rfl dX7_told_57 ?_
      refine va_get (D := zD v) (ci := 4) (v := .int (g 1 0)) (C := RX5) (T := TX5) (N := 10) hx hb hts iX5 hown hk.1 hP 1 rfl rfl 0 (by decide) (hts _ fl_X7_97) (fun _ h9 => h9) rfl dX7_told_60 ?_
      exact hret _ _ _ _ _ _ (Or.inl rfl) (Option.some.inj hf) hP hS dX7_told_63
    · have hf := ite_f c2 hf
      by_cases c3 : ((a2).toInt - (0)).toNat = 1
      · have hf := ite_t c3 hf
        refine lv_tableIn (tgt := 64) hx hb dX7_told_1 (fun h => c1 (Or.inl h)) (fun h => c1 (Or.inr h)) (by rw [c3]; rfl) (by decide) ?_
        refine lv_aload_n hx hb dX7_told_64 rfl (lv_at hl 0 rfl) ?_
        refine va_get (D := zD v) (ci := 6) (v := .ref (zA v 1)) (C := RX7) (T := TX7) (N := 11) hx hb hts iX7 hown hk.1 hP 0 rfl rfl 0 (by decide) (hts _ fl_X7_10) (fun _ h9 => h9) rfl dX7_told_65 ?_
        refine va_get (D := zD v) (ci := 4) (v := .int (g 1 1)) (C := RX5) (T := TX5) (N := 10) hx hb hts iX5 hown hk.1 hP 1 rfl rfl 1 (by decide) (hts _ fl_X7_101) (fun _ h9 => h9) rfl dX7_told_68 ?_
        exact hret _ _ _ _ _ _ (Or.inl rfl) (Option.some.inj hf) hP hS dX7_told_71
      · have hf := ite_f c3 hf
        by_cases c4 : ((a2).toInt - (0)).toNat = 2
        · have hf := ite_t c4 hf
          refine lv_tableIn (tgt := 72) hx hb dX7_told_1 (fun h => c1 (Or.inl h)) (fun h => c1 (Or.inr h)) (by rw [c4]; rfl) (by decide) ?_
          refine lv_aload_n hx hb dX7_told_72 rfl (lv_at hl 0 rfl) ?_
          refine va_get (D := zD v) (ci := 6) (v := .ref (zA v 1)) (C := RX7) (T := TX7) (N := 11) hx hb hts iX7 hown hk.1 hP 0 rfl rfl 0 (by decide) (hts _ fl_X7_10) (fun _ h9 => h9) rfl dX7_told_73 ?_
          refine va_get (D := zD v) (ci := 4) (v := .int (g 1 2)) (C := RX5) (T := TX5) (N := 10) hx hb hts iX5 hown hk.1 hP 1 rfl rfl 2 (by decide) (hts _ fl_X7_104) (fun _ h9 => h9) rfl dX7_told_76 ?_
          exact hret _ _ _ _ _ _ (Or.inl rfl) (Option.some.inj hf) hP hS dX7_told_79
        · have hf := ite_f c4 hf
          by_cases c5 : ((a2).toInt - (0)).toNat = 3
          · have hf := ite_t c5 hf
            refine lv_tableIn (tgt := 80) hx hb dX7_told_1 (fun h => c1 (Or.inl h)) (fun h => c1 (Or.inr h)) (by rw [c5]; rfl) (by decide) ?_
            refine lv_iload_n hx hb dX7_told_80 rfl (lv_at hl 1 rfl) ?_
            obtain ⟨q6, eq6, hf⟩ := bd_e hf
            refine zki hS (zrS (As := [.int a1]) (rest := []) okX hx hb hml hown hts hk hP hS (t_X7_isFoot l v N a1 g _ eq6) sk_X7_isFoot ml_X7_126 rfl rfl ⟨(Nat.le_of_ble_eq_true rfl), (Nat.le_of_ble_eq_true rfl)⟩ rfl hl.1 rfl (Nat.le_of_ble_eq_true rfl) dX7_told_81) (fun H locs hP hS => ?_)
            refine lv_if_eq (tgt := 99) hx hb dX7_told_84 (by decide) (fun c7 => ?_) (fun c7 => ?_)
            · have hf := ite_t c7 hf
              refine lv_bipush (v := -100) hx hb dX7_told_99 kB_m100 ?_
              exact hret _ _ _ _ _ _ (Or.inl rfl) (Option.some.inj hf) hP hS dX7_told_101
            · have hf := ite_f c7 hf
              refine lv_aload_n hx hb dX7_told_87 rfl (lv_at hl 0 rfl) ?_
              refine va_get (D := zD v) (ci := 6) (v := .ref (zA v 1)) (C := RX7) (T := TX7) (N := 11) hx hb hts iX7 hown hk.1 hP 0 rfl rfl 0 (by decide) (hts _ fl_X7_10) (fun _ h9 => h9) rfl dX7_told_88 ?_
              refine va_get (D := zD v) (ci := 4) (v := .ref (zA v 11)) (C := RX5) (T := TX5) (N := 10) hx hb hts iX5 hown hk.1 hP 1 rfl rfl 5 (by decide) (hts _ fl_X7_107) (fun _ h9 => h9) rfl dX7_told_91 ?_
              refine lv_iload_n hx hb dX7_told_94 rfl (lv_at hl 1 rfl) ?_
              obtain ⟨c8, hf⟩ := gd_e hf
              refine va_iald hx hb hk.1 hP 11 0 rfl rfl (inb_in c8) dX7_told_95 ?_
              refine lv_goto (tgt := 101) hx hb dX7_told_96 (by decide) ?_
              exact hret _ _ _ _ _ _ (Or.inl rfl) (Option.some.inj hf) hP hS dX7_told_101
          · have hf := ite_f c5 hf
            by_cases c9 : ((a2).toInt - (0)).toNat = 4
            · have hf := ite_t c9 hf
              refine lv_tableIn (tgt := 102) hx hb dX7_told_1 (fun h => c1 (Or.inl h)) (fun h => c1 (Or.inr h)) (by rw [c9]; rfl) (by decide) ?_
              refine lv_aload_n hx hb dX7_told_102 rfl (lv_at hl 0 rfl) ?_
              refine va_get (D := zD v) (ci := 6) (v := .ref (zA v 1)) (C := RX7) (T := TX7) (N := 11) hx hb hts iX7 hown hk.1 hP 0 rfl rfl 0 (by decide) (hts _ fl_X7_10) (fun _ h9 => h9) rfl dX7_told_103 ?_
              refine lv_iload_n hx hb dX7_told_106 rfl (lv_at hl 1 rfl) ?_
              obtain ⟨q10, eq10, hf⟩ := bd_e hf
              refine zki hS (zrV (As := [.int a1]) (rest := []) okX hx hb hml hown hts hk hP hS (t_X5_hasMake l v N a1 g _ eq10) vk_X5_hasMake ml_X7_130 rfl rfl ⟨(Nat.le_of_ble_eq_true rfl), (Nat.le_of_ble_eq_true rfl)⟩ (va_recv (q := (RX5, TX5, 10)) hk.1 hP (q0 := 1) (ci := 4) rfl rfl) rfl hl.1 rfl (Nat.le_of_ble_eq_true rfl) dX7_told_107) (fun H locs hP hS => ?_)
              refine lv_if_eq (tgt := 125) hx hb dX7_told_110 (by decide) (fun c11 => ?_) (fun c11 => ?_)
              · have hf := ite_t c11 hf
                refine lv_bipush (v := -100) hx hb dX7_told_125 kB_m100 ?_
                exact hret _ _ _ _ _ _ (Or.inl rfl) (Option.some.inj hf) hP hS dX7_told_127
              · have hf := ite_f c11 hf
                refine lv_aload_n hx hb dX7_told_113 rfl (lv_at hl 0 rfl) ?_
                refine va_get (D := zD v) (ci := 6) (v := .ref (zA v 1)) (C := RX7) (T := TX7) (N := 11) hx hb hts iX7 hown hk.1 hP 0 rfl rfl 0 (by decide) (hts _ fl_X7_10) (fun _ h9 => h9) rfl dX7_told_114 ?_
                refine va_get (D := zD v) (ci := 4) (v := .ref (zA v 13)) (C := RX5) (T := TX5) (N := 10) hx hb hts iX5 hown hk.1 hP 1 rfl rfl 7 (by decide) (hts _ fl_X7_110) (fun _ h9 => h9) rfl dX7_told_117 ?_
                refine lv_iload_n hx hb dX7_told_120 rfl (lv_at hl 1 rfl) ?_
                obtain ⟨c12, hf⟩ := gd_e hf
                refine va_iald hx hb hk.1 hP 13 0 rfl rfl (inb_in c12) dX7_told_121 ?_
                refine lv_goto (tgt := 127) hx hb dX7_told_122 (by decide) ?_
                exact hret _ _ _ _ _ _ (Or.inl rfl) (Option.some.inj hf) hP hS dX7_told_127
            · have hf := ite_f c9 hf
              by_cases c13 : ((a2).toInt - (0)).toNat = 5
              · have hf := ite_t c13 hf
                refine lv_tableIn (tgt := 128) hx hb dX7_told_1 (fun h => c1 (Or.inl h)) (fun h => c1 (Or.inr h)) (by rw [c13]; rfl) (by decide) ?_
                refine lv_aload_n hx hb dX7_told_128 rfl (lv_at hl 0 rfl) ?_
                refine va_get (D := zD v) (ci := 6) (v := .ref (zA v 1)) (C := RX7) (T := TX7) (N := 11) hx hb hts iX7 hown hk.1 hP 0 rfl rfl 0 (by decide) (hts _ fl_X7_10) (fun _ h9 => h9) rfl dX7_told_129 ?_
                refine lv_iload_n hx hb dX7_told_132 rfl (lv_at hl 1 rfl) ?_
                obtain ⟨q14, eq14, hf⟩ := bd_e hf
                refine zki hS (zrV (As := [.int a1]) (rest := []) okX hx hb hml hown hts hk hP hS (t_X5_hasMake l v N a1 g _ eq14) vk_X5_hasMake ml_X7_130 rfl rfl ⟨(Nat.le_of_ble_eq_true rfl), (Nat.le_of_ble_eq_true rfl)⟩ (va_recv (q := (RX5, TX5, 10)) hk.1 hP (q0 := 1) (ci := 4) rfl rfl) rfl hl.1 rfl (Nat.le_of_ble_eq_true rfl) dX7_told_133) (fun H locs hP hS => ?_)
                refine lv_if_eq (tgt := 151) hx hb dX7_told_136 (by decide) (fun c15 => ?_) (fun c15 => ?_)
                · have hf := ite_t c15 hf
                  refine lv_bipush (v := -100) hx hb dX7_told_151 kB_m100 ?_
                  exact hret _ _ _ _ _ _ (Or.inl rfl) (Option.some.inj hf) hP hS dX7_told_153
                · have hf := ite_f c15 hf
                  refine lv_aload_n hx hb dX7_told_139 rfl (lv_at hl 0 rfl) ?_
                  refine va_get (D := zD v) (ci := 6) (v := .ref (zA v 1)) (C := RX7) (T := TX7) (N := 11) hx hb hts iX7 hown hk.1 hP 0 rfl rfl 0 (by decide) (hts _ fl_X7_10) (fun _ h9 => h9) rfl dX7_told_140 ?_
                  refine va_get (D := zD v) (ci := 4) (v := .ref (zA v 14)) (C := RX5) (T := TX5) (N := 10) hx hb hts iX5 hown hk.1 hP 1 rfl rfl 8 (by decide) (hts _ fl_X7_113) (fun _ h9 => h9) rfl dX7_told_143 ?_
                  refine lv_iload_n hx hb dX7_told_146 rfl (lv_at hl 1 rfl) ?_
                  obtain ⟨c16, hf⟩ := gd_e hf
                  refine va_iald hx hb hk.1 hP 14 0 rfl rfl (inb_in c16) dX7_told_147 ?_
                  refine lv_goto (tgt := 153) hx hb dX7_told_148 (by decide) ?_
                  exact hret _ _ _ _ _ _ (Or.inl rfl) (Option.some.inj hf) hP hS dX7_told_153
              · have hf := ite_f c13 hf
                by_cases c17 : ((a2).toInt - (0)).toNat = 6
                · have hf := ite_t c17 hf
                  refine lv_tableIn (tgt := 154) hx hb dX7_told_1 (fun h => c1 (Or.inl h)) (fun h => c1 (Or.inr h)) (by rw [c17]; rfl) (by decide) ?_
                  refine lv_aload_n hx hb dX7_told_154 rfl (lv_at hl 0 rfl) ?_
                  refine va_get (D := zD v) (ci := 6) (v := .ref (zA v 1)) (C := RX7) (T := TX7) (N := 11) hx hb hts iX7 hown hk.1 hP 0 rfl rfl 0 (by decide) (hts _ fl_X7_10) (fun _ h9 => h9) rfl dX7_told_155 ?_
                  refine lv_iload_n hx hb dX7_told_158 rfl (lv_at hl 1 rfl) ?_
                  obtain ⟨q18, eq18, hf⟩ := bd_e hf
                  refine zki hS (zrV (As := [.int a1]) (rest := []) okX hx hb hml hown hts hk hP hS (t_X5_hasMake l v N a1 g _ eq18) vk_X5_hasMake ml_X7_130 rfl rfl ⟨(Nat.le_of_ble_eq_true rfl), (Nat.le_of_ble_eq_true rfl)⟩ (va_recv (q := (RX5, TX5, 10)) hk.1 hP (q0 := 1) (ci := 4) rfl rfl) rfl hl.1 rfl (Nat.le_of_ble_eq_true rfl) dX7_told_159) (fun H locs hP hS => ?_)
                  refine lv_if_eq (tgt := 177) hx hb dX7_told_162 (by decide) (fun c19 => ?_) (fun c19 => ?_)
                  · have hf := ite_t c19 hf
                    refine lv_bipush (v := -100) hx hb dX7_told_177 kB_m100 ?_
                    exact hret _ _ _ _ _ _ (Or.inl rfl) (Option.some.inj hf) hP hS dX7_told_179
                  · have hf := ite_f c19 hf
                    refine lv_aload_n hx hb dX7_told_165 rfl (lv_at hl 0 rfl) ?_
                    refine va_get (D := zD v) (ci := 6) (v := .ref (zA v 1)) (C := RX7) (T := TX7) (N := 11) hx hb hts iX7 hown hk.1 hP 0 rfl rfl 0 (by decide) (hts _ fl_X7_10) (fun _ h9 => h9) rfl dX7_told_166 ?_
                    refine va_get (D := zD v) (ci := 4) (v := .ref (zA v 15)) (C := RX5) (T := TX5) (N := 10) hx hb hts iX5 hown hk.1 hP 1 rfl rfl 9 (by decide) (hts _ fl_X7_116) (fun _ h9 => h9) rfl dX7_told_169 ?_
                    refine lv_iload_n hx hb dX7_told_172 rfl (lv_at hl 1 rfl) ?_
                    obtain ⟨c20, hf⟩ := gd_e hf
                    refine va_iald hx hb hk.1 hP 15 0 rfl rfl (inb_in c20) dX7_told_173 ?_
                    refine lv_goto (tgt := 179) hx hb dX7_told_174 (by decide) ?_
                    exact hret _ _ _ _ _ _ (Or.inl rfl) (Option.some.inj hf) hP hS dX7_told_179
                · have hf := ite_f c17 hf
                  by_cases c21 : ((a2).toInt - (0)).toNat = 7
                  · have hf := ite_t c21 hf
                    refine lv_tableIn (tgt := 180) hx hb dX7_told_1 (fun h => c1 (Or.inl h)) (fun h => c1 (Or.inr h)) (by rw [c21]; rfl) (by decide) ?_
                    refine lv_aload_n hx hb dX7_told_180 rfl (lv_at hl 0 rfl) ?_
                    refine va_get (D := zD v) (ci := 6) (v := .ref (zA v 1)) (C := RX7) (T := TX7) (N := 11) hx hb hts iX7 hown hk.1 hP 0 rfl rfl 0 (by decide) (hts _ fl_X7_10) (fun _ h9 => h9) rfl dX7_told_181 ?_
                    refine lv_iload_n hx hb dX7_told_184 rfl (lv_at hl 1 rfl) ?_
                    obtain ⟨q22, eq22, hf⟩ := bd_e hf
                    refine zki hS (zrV (As := [.int a1]) (rest := []) okX hx hb hml hown hts hk hP hS (t_X5_hasMake l v N a1 g _ eq22) vk_X5_hasMake ml_X7_130 rfl rfl ⟨(Nat.le_of_ble_eq_true rfl), (Nat.le_of_ble_eq_true rfl)⟩ (va_recv (q := (RX5, TX5, 10)) hk.1 hP (q0 := 1) (ci := 4) rfl rfl) rfl hl.1 rfl (Nat.le_of_ble_eq_true rfl) dX7_told_185) (fun H locs hP hS => ?_)
                    refine lv_if_eq (tgt := 203) hx hb dX7_told_188 (by decide) (fun c23 => ?_) (fun c23 => ?_)
                    · have hf := ite_t c23 hf
                      refine lv_bipush (v := -100) hx hb dX7_told_203 kB_m100 ?_
                      exact hret _ _ _ _ _ _ (Or.inl rfl) (Option.some.inj hf) hP hS dX7_told_205
                    · have hf := ite_f c23 hf
                      refine lv_aload_n hx hb dX7_told_191 rfl (lv_at hl 0 rfl) ?_
                      refine va_get (D := zD v) (ci := 6) (v := .ref (zA v 1)) (C := RX7) (T := TX7) (N := 11) hx hb hts iX7 hown hk.1 hP 0 rfl rfl 0 (by decide) (hts _ fl_X7_10) (fun _ h9 => h9) rfl dX7_told_192 ?_
                      refine va_get (D := zD v) (ci := 4) (v := .ref (zA v 12)) (C := RX5) (T := TX5) (N := 10) hx hb hts iX5 hown hk.1 hP 1 rfl rfl 6 (by decide) (hts _ fl_X7_123) (fun _ h9 => h9) rfl dX7_told_195 ?_
                      refine lv_iload_n hx hb dX7_told_198 rfl (lv_at hl 1 rfl) ?_
                      obtain ⟨c24, hf⟩ := gd_e hf
                      refine va_iald hx hb hk.1 hP 12 0 rfl rfl (inb_in c24) dX7_told_199 ?_
                      refine lv_goto (tgt := 205) hx hb dX7_told_200 (by decide) ?_
                      exact hret _ _ _ _ _ _ (Or.inl rfl) (Option.some.inj hf) hP hS dX7_told_205
                  · have hf := ite_f c21 hf
                    by_cases c25 : ((a2).toInt - (0)).toNat = 8
                    · have hf := ite_t c25 hf
                      refine lv_tableIn (tgt := 206) hx hb dX7_told_1 (fun h => c1 (Or.inl h)) (fun h => c1 (Or.inr h)) (by rw [c25]; rfl) (by decide) ?_
                      refine lv_aload_n hx hb dX7_told_206 rfl (lv_at hl 0 rfl) ?_
                      refine lv_iconst (v := 0) hx hb dX7_told_207 kI_0 ?_
                      obtain ⟨q26, eq26, hf⟩ := bd_e hf
                      refine zki hS (zrV (As := [.int (0 : Int32)]) (rest := []) okX hx hb hml hown hts hk hP hS (t_X7_footNow l v N (0 : Int32) g _ eq26) vk_X7_footNow ml_X7_133 rfl rfl ⟨(Nat.le_of_ble_eq_true rfl), (Nat.le_of_ble_eq_true rfl)⟩ (va_recv (q := (RX7, TX7, 11)) hk.1 hP (q0 := 0) (ci := 6) rfl rfl) rfl hl.1 rfl (Nat.le_of_ble_eq_true rfl) dX7_told_208) (fun H locs hP hS => ?_)
                      exact hret _ _ _ _ _ _ (Or.inl rfl) (Option.some.inj hf) hP hS dX7_told_211
                    · have hf := ite_f c25 hf
                      by_cases c27 : ((a2).toInt - (0)).toNat = 9
                      · have hf := ite_t c27 hf
                        refine lv_tableIn (tgt := 212) hx hb dX7_told_1 (fun h => c1 (Or.inl h)) (fun h => c1 (Or.inr h)) (by rw [c27]; rfl) (by decide) ?_
                        refine lv_aload_n hx hb dX7_told_212 rfl (lv_at hl 0 rfl) ?_
                        refine lv_iconst (v := 1) hx hb dX7_told_213 kI_1 ?_
                        obtain ⟨q28, eq28, hf⟩ := bd_e hf
                        refine zki hS (zrV (As := [.int (1 : Int32)]) (rest := []) okX hx hb hml hown hts hk hP hS (t_X7_footNow l v N (1 : Int32) g _ eq28) vk_X7_footNow ml_X7_133 rfl rfl ⟨(Nat.le_of_ble_eq_true rfl), (Nat.le_of_ble_eq_true rfl)⟩ (va_recv (q := (RX7, TX7, 11)) hk.1 hP (q0 := 0) (ci := 6) rfl rfl) rfl hl.1 rfl (Nat.le_of_ble_eq_true rfl) dX7_told_214) (fun H locs hP hS => ?_)
                        exact hret _ _ _ _ _ _ (Or.inl rfl) (Option.some.inj hf) hP hS dX7_told_217
                      · have hf := ite_f c27 hf
                        exact nn_e hf
abbrev rm_X7_set : Room := { frames := 6, cells := 0, slots := 0, locals := 173 }
set_option maxRecDepth 100000 in
theorem t_X7_set (l : Launch) (v : Ev) (N : Nat) (a1 : Int32) (a2 : Int32) (a3 : Int32) (g : Sg) (res : Int32 × Sg) (hf : x_X7_set N a1 a2 a3 g = some res) : Ci l yX7_set cX7_set 5 .int rm_X7_set pX v [.ref (zA v 0), .int a1, .int a2, .int a3] g res := by
  refine ze_i (by decide +kernel) (Nat.le_of_ble_eq_true rfl) ?_
  intro p e s m args below meth c Q ls hcx hret hP hl
  obtain ⟨hx, hb, hml, hown, hts, hk⟩ := hcx
  have hown : s.vm.findClass RX7 = some m.cls := hown
  have hS : va_S (An nX v) s.heap s.heap [] := va_S.rf
  have hl : lv_has ls 5 [(0, .ref (zA v 0)), (1, .int a1), (2, .int a2), (3, .int a3)] := hl
  unfold x_X7_set at hf
  refine lv_iload_n hx hb dX7_set_0 rfl (lv_at hl 1 rfl) ?_
  refine lv_if_lt (tgt := 30) hx hb dX7_set_1 (by decide) (fun c1 => ?_) (fun c1 => ?_)
  · have hf := ite_t c1 hf
    refine lv_bipush (v := -100) hx hb dX7_set_30 kB_m100 ?_
    exact hret _ _ _ _ _ _ (Or.inl rfl) (Option.some.inj hf) hP hS dX7_set_32
  · have hf := ite_f c1 hf
    refine lv_iload_n hx hb dX7_set_4 rfl (lv_at hl 1 rfl) ?_
    refine va_gets hx hb (xs_z0 hk) hS hown (hts _ fl_X7_87) (fun _ h9 => h9) dX7_set_5 ?_
    refine va_tlen (v := 7) hx hb (xs_t0 hk) hS kN_7 dX7_set_8 ?_
    refine lv_icmp_ge (tgt := 30) hx hb dX7_set_9 (by decide) (fun c2 => ?_) (fun c2 => ?_)
    · have hf := ite_t c2 hf
      refine lv_bipush (v := -100) hx hb dX7_set_30 kB_m100 ?_
      exact hret _ _ _ _ _ _ (Or.inl rfl) (Option.some.inj hf) hP hS dX7_set_32
    · have hf := ite_f c2 hf
      refine lv_iload_n hx hb dX7_set_12 rfl (lv_at hl 3 rfl) ?_
      refine va_gets hx hb (xs_z0 hk) hS hown (hts _ fl_X7_87) (fun _ h9 => h9) dX7_set_13 ?_
      refine lv_iload_n hx hb dX7_set_16 rfl (lv_at hl 1 rfl) ?_
      obtain ⟨c3, hf⟩ := gd_e hf
      refine va_ti hx hb (xs_t0 hk) hS (inb_in c3) rfl dX7_set_17 ?_
      refine lv_icmp_lt (tgt := 30) hx hb dX7_set_18 (by decide) (fun c4 => ?_) (fun c4 => ?_)
      · have hf := ite_t c4 hf
        refine lv_bipush (v := -100) hx hb dX7_set_30 kB_m100 ?_
        exact hret _ _ _ _ _ _ (Or.inl rfl) (Option.some.inj hf) hP hS dX7_set_32
      · have hf := ite_f c4 hf
        refine lv_iload_n hx hb dX7_set_21 rfl (lv_at hl 3 rfl) ?_
        refine va_gets hx hb (xs_z1 hk) hS hown (hts _ fl_X7_90) (fun _ h9 => h9) dX7_set_22 ?_
        refine lv_iload_n hx hb dX7_set_25 rfl (lv_at hl 1 rfl) ?_
        obtain ⟨c5, hf⟩ := gd_e hf
        refine va_ti hx hb (xs_t1 hk) hS (inb_in c5) rfl dX7_set_26 ?_
        refine lv_icmp_le (tgt := 33) hx hb dX7_set_27 (by decide) (fun c6 => ?_) (fun c6 => ?_)
        · have hf := ite_t c6 hf
          refine lv_aload_n hx hb dX7_set_33 rfl (lv_at hl 0 rfl) ?_
          refine lv_iload_n hx hb dX7_set_34 rfl (lv_at hl 2 rfl) ?_
          refine lv_iload_n hx hb dX7_set_35 rfl (lv_at hl 1 rfl) ?_
          obtain ⟨q7, eq7, hf⟩ := bd_e hf
          refine zki hS (zrV (As := [.int a2, .int a1]) (rest := []) okX hx hb hml hown hts hk hP hS (t_X7_told l v N a2 a1 g _ eq7) vk_X7_told ml_X7_93 rfl rfl ⟨(Nat.le_of_ble_eq_true rfl), (Nat.le_of_ble_eq_true rfl)⟩ (va_recv (q := (RX7, TX7, 11)) hk.1 hP (q0 := 0) (ci := 6) rfl rfl) rfl hl.1 rfl (Nat.le_of_ble_eq_true rfl) dX7_set_36) (fun H locs hP hS => ?_)
          refine lv_istore (lv' := [(4, .int q7.1), (0, .ref (zA v 0)), (1, .int a1), (2, .int a2), (3, .int a3)]) hx hb dX7_set_39 hl (by decide) rfl (fun ls hl => ?_)
          refine lv_iload hx hb dX7_set_41 (lv_at hl 0 rfl) ?_
          refine lv_bipush (v := -100) hx hb dX7_set_43 kB_m100 ?_
          refine lv_icmp_ne (tgt := 51) hx hb dX7_set_45 (by decide) (fun c8 => ?_) (fun c8 => ?_)
          · have hf := ite_f c8 hf
            refine lv_iload_n hx hb dX7_set_51 rfl (lv_at hl 2 rfl) ?_
            by_cases c9 : (a1).toInt < 0 ∨ 5 < (a1).toInt
            · have hf := ite_t c9 hf
              refine lv_tableOut (tgt := 164) hx hb dX7_set_52 c9 (by decide) ?_
              refine lv_aload_n hx hb dX7_set_164 rfl (lv_at hl 1 rfl) ?_
              refine va_get (D := zD v) (ci := 6) (v := .ref (zA v 1)) (C := RX7) (T := TX7) (N := 11) hx hb hts iX7 hown hk.1 hP 0 rfl rfl 0 (by decide) (hts _ fl_X7_10) (fun _ h9 => h9) rfl dX7_set_165 ?_
              refine va_get (D := zD v) (ci := 4) (v := .ref (zA v 15)) (C := RX5) (T := TX5) (N := 10) hx hb hts iX5 hown hk.1 hP 1 rfl rfl 9 (by decide) (hts _ fl_X7_116) (fun _ h9 => h9) rfl dX7_set_168 ?_
              refine lv_iload_n hx hb dX7_set_171 rfl (lv_at hl 3 rfl) ?_
              refine lv_iload_n hx hb dX7_set_172 rfl (lv_at hl 4 rfl) ?_
              obtain ⟨c10, hf⟩ := gd_e hf
              refine va_iast hx hb hk.1 hP (zw_D okX hk _) hS 15 0 rfl rfl (inb_in c10) dX7_set_173 (fun H locs hP1 _ hS => ?_)
              have hP : va_P (zD v) vwCl (pX.1 v (up q7.2 15 (upd (q7.2 15) (a2).toNatClampNeg a3))) H := hP1
              obtain ⟨g11, eg11, hf⟩ := lt_e hf
              rw [← eg11] at hP
              refine lv_iload hx hb dX7_set_174 (lv_at hl 0 rfl) ?_
              exact hret _ _ _ _ _ _ (Or.inl rfl) (Option.some.inj hf) hP hS dX7_set_176
            · have hf := ite_f c9 hf
              by_cases c12 : ((a1).toInt - (0)).toNat = 0
              · have hf := ite_t c12 hf
                refine lv_tableIn (tgt := 92) hx hb dX7_set_52 (fun h => c9 (Or.inl h)) (fun h => c9 (Or.inr h)) (by rw [c12]; rfl) (by decide) ?_
                refine lv_aload_n hx hb dX7_set_92 rfl (lv_at hl 1 rfl) ?_
                refine va_get (D := zD v) (ci := 6) (v := .ref (zA v 1)) (C := RX7) (T := TX7) (N := 11) hx hb hts iX7 hown hk.1 hP 0 rfl rfl 0 (by decide) (hts _ fl_X7_10) (fun _ h9 => h9) rfl dX7_set_93 ?_
                refine lv_iload_n hx hb dX7_set_96 rfl (lv_at hl 4 rfl) ?_
                refine va_put (D := zD v) (ci := 4) (v := .int a3) (ty := .int) (C := RX5) (T := TX5) (N := 10) hx hb hts iX5 tyX5 tyX5_ok nmX5 hown hk.1 hP (zw_D okX hk _) hS 1 rfl rfl 0 (by decide) (hts _ fl_X7_97) (fun _ h9 => h9) rfl pd_I rfl rfl (Nat.le_of_ble_eq_true rfl) dX7_set_97 (fun H locs hP1 _ hS => ?_)
                have hP : va_P (zD v) vwCl (pX.1 v (up q7.2 1 (upd (q7.2 1) 0 a3))) H := hP1
                obtain ⟨g13, eg13, hf⟩ := lt_e hf
                rw [← eg13] at hP
                refine lv_goto (tgt := 174) hx hb dX7_set_100 (by decide) ?_
                refine lv_iload hx hb dX7_set_174 (lv_at hl 0 rfl) ?_
                exact hret _ _ _ _ _ _ (Or.inl rfl) (Option.some.inj hf) hP hS dX7_set_176
              · have hf := ite_f c12 hf
                by_cases c14 : ((a1).toInt - (0)).toNat = 1
                · have hf := ite_t c14 hf
                  refine lv_tableIn (tgt := 103) hx hb dX7_set_52 (fun h => c9 (Or.inl h)) (fun h => c9 (Or.inr h)) (by rw [c14]; rfl) (by decide) ?_
                  refine lv_aload_n hx hb dX7_set_103 rfl (lv_at hl 1 rfl) ?_
                  refine va_get (D := zD v) (ci := 6) (v := .ref (zA v 1)) (C := RX7) (T := TX7) (N := 11) hx hb hts iX7 hown hk.1 hP 0 rfl rfl 0 (by decide) (hts _ fl_X7_10) (fun _ h9 => h9) rfl dX7_set_104 ?_
                  refine lv_iload_n hx hb dX7_set_107 rfl (lv_at hl 4 rfl) ?_
                  refine va_put (D := zD v) (ci := 4) (v := .int a3) (ty := .int) (C := RX5) (T := TX5) (N := 10) hx hb hts iX5 tyX5 tyX5_ok nmX5 hown hk.1 hP (zw_D okX hk _) hS 1 rfl rfl 1 (by decide) (hts _ fl_X7_101) (fun _ h9 => h9) rfl pd_I rfl rfl (Nat.le_of_ble_eq_true rfl) dX7_set_108 (fun H locs hP1 _ hS => ?_)
                  have hP : va_P (zD v) vwCl (pX.1 v (up q7.2 1 (upd (q7.2 1) 1 a3))) H := hP1
                  obtain ⟨g15, eg15, hf⟩ := lt_e hf
                  rw [← eg15] at hP
                  refine lv_goto (tgt := 174) hx hb dX7_set_111 (by decide) ?_
                  refine lv_iload hx hb dX7_set_174 (lv_at hl 0 rfl) ?_
                  exact hret _ _ _ _ _ _ (Or.inl rfl) (Option.some.inj hf) hP hS dX7_set_176
                · have hf := ite_f c14 hf
                  by_cases c16 : ((a1).toInt - (0)).toNat = 2
                  · have hf := ite_t c16 hf
                    refine lv_tableIn (tgt := 114) hx hb dX7_set_52 (fun h => c9 (Or.inl h)) (fun h => c9 (Or.inr h)) (by rw [c16]; rfl) (by decide) ?_
                    refine lv_aload_n hx hb dX7_set_114 rfl (lv_at hl 1 rfl) ?_
                    refine va_get (D := zD v) (ci := 6) (v := .ref (zA v 1)) (C := RX7) (T := TX7) (N := 11) hx hb hts iX7 hown hk.1 hP 0 rfl rfl 0 (by decide) (hts _ fl_X7_10) (fun _ h9 => h9) rfl dX7_set_115 ?_
                    refine lv_iload_n hx hb dX7_set_118 rfl (lv_at hl 4 rfl) ?_
                    refine va_put (D := zD v) (ci := 4) (v := .int a3) (ty := .int) (C := RX5) (T := TX5) (N := 10) hx hb hts iX5 tyX5 tyX5_ok nmX5 hown hk.1 hP (zw_D okX hk _) hS 1 rfl rfl 2 (by decide) (hts _ fl_X7_104) (fun _ h9 => h9) rfl pd_I rfl rfl (Nat.le_of_ble_eq_true rfl) dX7_set_119 (fun H locs hP1 _ hS => ?_)
                    have hP : va_P (zD v) vwCl (pX.1 v (up q7.2 1 (upd (q7.2 1) 2 a3))) H := hP1
                    obtain ⟨g17, eg17, hf⟩ := lt_e hf
                    rw [← eg17] at hP
                    refine lv_goto (tgt := 174) hx hb dX7_set_122 (by decide) ?_
                    refine lv_iload hx hb dX7_set_174 (lv_at hl 0 rfl) ?_
                    exact hret _ _ _ _ _ _ (Or.inl rfl) (Option.some.inj hf) hP hS dX7_set_176
                  · have hf := ite_f c16 hf
                    by_cases c18 : ((a1).toInt - (0)).toNat = 3
                    · have hf := ite_t c18 hf
                      refine lv_tableIn (tgt := 125) hx hb dX7_set_52 (fun h => c9 (Or.inl h)) (fun h => c9 (Or.inr h)) (by rw [c18]; rfl) (by decide) ?_
                      refine lv_aload_n hx hb dX7_set_125 rfl (lv_at hl 1 rfl) ?_
                      refine va_get (D := zD v) (ci := 6) (v := .ref (zA v 1)) (C := RX7) (T := TX7) (N := 11) hx hb hts iX7 hown hk.1 hP 0 rfl rfl 0 (by decide) (hts _ fl_X7_10) (fun _ h9 => h9) rfl dX7_set_126 ?_
                      refine va_get (D := zD v) (ci := 4) (v := .ref (zA v 11)) (C := RX5) (T := TX5) (N := 10) hx hb hts iX5 hown hk.1 hP 1 rfl rfl 5 (by decide) (hts _ fl_X7_107) (fun _ h9 => h9) rfl dX7_set_129 ?_
                      refine lv_iload_n hx hb dX7_set_132 rfl (lv_at hl 3 rfl) ?_
                      refine lv_iload_n hx hb dX7_set_133 rfl (lv_at hl 4 rfl) ?_
                      obtain ⟨c19, hf⟩ := gd_e hf
                      refine va_iast hx hb hk.1 hP (zw_D okX hk _) hS 11 0 rfl rfl (inb_in c19) dX7_set_134 (fun H locs hP1 _ hS => ?_)
                      have hP : va_P (zD v) vwCl (pX.1 v (up q7.2 11 (upd (q7.2 11) (a2).toNatClampNeg a3))) H := hP1
                      obtain ⟨g20, eg20, hf⟩ := lt_e hf
                      rw [← eg20] at hP
                      refine lv_goto (tgt := 174) hx hb dX7_set_135 (by decide) ?_
                      refine lv_iload hx hb dX7_set_174 (lv_at hl 0 rfl) ?_
                      exact hret _ _ _ _ _ _ (Or.inl rfl) (Option.some.inj hf) hP hS dX7_set_176
                    · have hf := ite_f c18 hf
                      by_cases c21 : ((a1).toInt - (0)).toNat = 4
                      · have hf := ite_t c21 hf
                        refine lv_tableIn (tgt := 138) hx hb dX7_set_52 (fun h => c9 (Or.inl h)) (fun h => c9 (Or.inr h)) (by rw [c21]; rfl) (by decide) ?_
                        refine lv_aload_n hx hb dX7_set_138 rfl (lv_at hl 1 rfl) ?_
                        refine va_get (D := zD v) (ci := 6) (v := .ref (zA v 1)) (C := RX7) (T := TX7) (N := 11) hx hb hts iX7 hown hk.1 hP 0 rfl rfl 0 (by decide) (hts _ fl_X7_10) (fun _ h9 => h9) rfl dX7_set_139 ?_
                        refine va_get (D := zD v) (ci := 4) (v := .ref (zA v 13)) (C := RX5) (T := TX5) (N := 10) hx hb hts iX5 hown hk.1 hP 1 rfl rfl 7 (by decide) (hts _ fl_X7_110) (fun _ h9 => h9) rfl dX7_set_142 ?_
                        refine lv_iload_n hx hb dX7_set_145 rfl (lv_at hl 3 rfl) ?_
                        refine lv_iload_n hx hb dX7_set_146 rfl (lv_at hl 4 rfl) ?_
                        obtain ⟨c22, hf⟩ := gd_e hf
                        refine va_iast hx hb hk.1 hP (zw_D okX hk _) hS 13 0 rfl rfl (inb_in c22) dX7_set_147 (fun H locs hP1 _ hS => ?_)
                        have hP : va_P (zD v) vwCl (pX.1 v (up q7.2 13 (upd (q7.2 13) (a2).toNatClampNeg a3))) H := hP1
                        obtain ⟨g23, eg23, hf⟩ := lt_e hf
                        rw [← eg23] at hP
                        refine lv_goto (tgt := 174) hx hb dX7_set_148 (by decide) ?_
                        refine lv_iload hx hb dX7_set_174 (lv_at hl 0 rfl) ?_
                        exact hret _ _ _ _ _ _ (Or.inl rfl) (Option.some.inj hf) hP hS dX7_set_176
                      · have hf := ite_f c21 hf
                        by_cases c24 : ((a1).toInt - (0)).toNat = 5
                        · have hf := ite_t c24 hf
                          refine lv_tableIn (tgt := 151) hx hb dX7_set_52 (fun h => c9 (Or.inl h)) (fun h => c9 (Or.inr h)) (by rw [c24]; rfl) (by decide) ?_
                          refine lv_aload_n hx hb dX7_set_151 rfl (lv_at hl 1 rfl) ?_
                          refine va_get (D := zD v) (ci := 6) (v := .ref (zA v 1)) (C := RX7) (T := TX7) (N := 11) hx hb hts iX7 hown hk.1 hP 0 rfl rfl 0 (by decide) (hts _ fl_X7_10) (fun _ h9 => h9) rfl dX7_set_152 ?_
                          refine va_get (D := zD v) (ci := 4) (v := .ref (zA v 14)) (C := RX5) (T := TX5) (N := 10) hx hb hts iX5 hown hk.1 hP 1 rfl rfl 8 (by decide) (hts _ fl_X7_113) (fun _ h9 => h9) rfl dX7_set_155 ?_
                          refine lv_iload_n hx hb dX7_set_158 rfl (lv_at hl 3 rfl) ?_
                          refine lv_iload_n hx hb dX7_set_159 rfl (lv_at hl 4 rfl) ?_
                          obtain ⟨c25, hf⟩ := gd_e hf
                          refine va_iast hx hb hk.1 hP (zw_D okX hk _) hS 14 0 rfl rfl (inb_in c25) dX7_set_160 (fun H locs hP1 _ hS => ?_)
                          have hP : va_P (zD v) vwCl (pX.1 v (up q7.2 14 (upd (q7.2 14) (a2).toNatClampNeg a3))) H := hP1
                          obtain ⟨g26, eg26, hf⟩ := lt_e hf
                          rw [← eg26] at hP
                          refine lv_goto (tgt := 174) hx hb dX7_set_161 (by decide) ?_
                          refine lv_iload hx hb dX7_set_174 (lv_at hl 0 rfl) ?_
                          exact hret _ _ _ _ _ _ (Or.inl rfl) (Option.some.inj hf) hP hS dX7_set_176
                        · have hf := ite_f c24 hf
                          exact nn_e hf
          · have hf := ite_t c8 hf
            refine lv_bipush (v := -100) hx hb dX7_set_48 kB_m100 ?_
            exact hret _ _ _ _ _ _ (Or.inl rfl) (Option.some.inj hf) hP hS dX7_set_50
        · have hf := ite_f c6 hf
          refine lv_bipush (v := -100) hx hb dX7_set_30 kB_m100 ?_
          exact hret _ _ _ _ _ _ (Or.inl rfl) (Option.some.inj hf) hP hS dX7_set_32
abbrev rm_X7_make : Room := { frames := 1, cells := 0, slots := 0, locals := 60 }
set_option maxRecDepth 100000 in
theorem t_X7_make (l : Launch) (v : Ev) (N : Nat) (a1 : Int32) (a2 : Int32) (a3 : Int32) (g : Sg) (res : Int32 × Sg) (hf : x_X7_make N a1 a2 a3 g = some res) : Ci l yX7_make cX7_make 5 .int rm_X7_make pX v [.ref (zA v 0), .int a1, .int a2, .int a3] g res := by
  refine ze_i (by decide +kernel) (Nat.le_of_ble_eq_true rfl) ?_
  intro p e s m args below meth c Q ls hcx hret hP hl
  obtain ⟨hx, hb, hml, hown, hts, hk⟩ := hcx
  have hown : s.vm.findClass RX7 = some m.cls := hown
  have hS : va_S (An nX v) s.heap s.heap [] := va_S.rf
  have hl : lv_has ls 5 [(0, .ref (zA v 0)), (1, .int a1), (2, .int a2), (3, .int a3)] := hl
  unfold x_X7_make at hf
  refine lv_iload_n hx hb dX7_make_0 rfl (lv_at hl 1 rfl) ?_
  refine lv_if_lt (tgt := 20) hx hb dX7_make_1 (by decide) (fun c1 => ?_) (fun c1 => ?_)
  · have hf := ite_t c1 hf
    refine lv_bipush (v := -2) hx hb dX7_make_20 kB_m2 ?_
    exact hret _ _ _ _ _ _ (Or.inl rfl) (Option.some.inj hf) hP hS dX7_make_22
  · have hf := ite_f c1 hf
    refine lv_iload_n hx hb dX7_make_4 rfl (lv_at hl 1 rfl) ?_
    refine lv_bipush (v := 6) hx hb dX7_make_5 kB_6 ?_
    refine lv_icmp_ge (tgt := 20) hx hb dX7_make_7 (by decide) (fun c2 => ?_) (fun c2 => ?_)
    · have hf := ite_t c2 hf
      refine lv_bipush (v := -2) hx hb dX7_make_20 kB_m2 ?_
      exact hret _ _ _ _ _ _ (Or.inl rfl) (Option.some.inj hf) hP hS dX7_make_22
    · have hf := ite_f c2 hf
      refine lv_iload_n hx hb dX7_make_10 rfl (lv_at hl 3 rfl) ?_
      refine lv_if_lt (tgt := 20) hx hb dX7_make_11 (by decide) (fun c3 => ?_) (fun c3 => ?_)
      · have hf := ite_t c3 hf
        refine lv_bipush (v := -2) hx hb dX7_make_20 kB_m2 ?_
        exact hret _ _ _ _ _ _ (Or.inl rfl) (Option.some.inj hf) hP hS dX7_make_22
      · have hf := ite_f c3 hf
        refine lv_iload_n hx hb dX7_make_14 rfl (lv_at hl 3 rfl) ?_
        refine lv_ldc (v := 1048575) hx hb hown (hts _ kc_X7_119) dX7_make_15 ?_
        refine lv_icmp_le (tgt := 23) hx hb dX7_make_17 (by decide) (fun c4 => ?_) (fun c4 => ?_)
        · have hf := ite_t c4 hf
          refine lv_iload_n hx hb dX7_make_23 rfl (lv_at hl 2 rfl) ?_
          refine lv_if_lt (tgt := 45) hx hb dX7_make_24 (by decide) (fun c5 => ?_) (fun c5 => ?_)
          · have hf := ite_t c5 hf
            refine lv_bipush (v := -2) hx hb dX7_make_45 kB_m2 ?_
            exact hret _ _ _ _ _ _ (Or.inl rfl) (Option.some.inj hf) hP hS dX7_make_47
          · have hf := ite_f c5 hf
            refine lv_iload_n hx hb dX7_make_27 rfl (lv_at hl 2 rfl) ?_
            refine lv_bipush (v := 100) hx hb dX7_make_28 kB_100 ?_
            refine lv_idiv hx hb dX7_make_30 kz_100 ?_
            refine lv_bipush (v := 9) hx hb dX7_make_31 kB_9 ?_
            refine lv_icmp_gt (tgt := 45) hx hb dX7_make_33 (by decide) (fun c6 => ?_) (fun c6 => ?_)
            · have hf := ite_t c6 hf
              refine lv_bipush (v := -2) hx hb dX7_make_45 kB_m2 ?_
              exact hret _ _ _ _ _ _ (Or.inl rfl) (Option.some.inj hf) hP hS dX7_make_47
            · have hf := ite_f c6 hf
              refine lv_iload_n hx hb dX7_make_36 rfl (lv_at hl 2 rfl) ?_
              refine lv_bipush (v := 100) hx hb dX7_make_37 kB_100 ?_
              refine lv_irem hx hb dX7_make_39 kz_100 ?_
              refine lv_nm (z := (rmI a2 (100 : Int32))) rfl ?_
              refine lv_bipush (v := 19) hx hb dX7_make_40 kB_19 ?_
              refine lv_icmp_lt (tgt := 48) hx hb dX7_make_42 (by decide) (fun c7 => ?_) (fun c7 => ?_)
              · have hf := ite_t c7 hf
                refine lv_aload_n hx hb dX7_make_48 rfl (lv_at hl 0 rfl) ?_
                refine va_get (D := zD v) (ci := 6) (v := .ref (zA v 1)) (C := RX7) (T := TX7) (N := 11) hx hb hts iX7 hown hk.1 hP 0 rfl rfl 0 (by decide) (hts _ fl_X7_10) (fun _ h9 => h9) rfl dX7_make_49 ?_
                refine va_get (D := zD v) (ci := 4) (v := .int (g 1 4)) (C := RX5) (T := TX5) (N := 10) hx hb hts iX5 hown hk.1 hP 1 rfl rfl 4 (by decide) (hts _ fl_X7_120) (fun _ h9 => h9) rfl dX7_make_52 ?_
                refine lv_iconst (v := 5) hx hb dX7_make_55 kI_5 ?_
                refine lv_icmp_lt (tgt := 62) hx hb dX7_make_56 (by decide) (fun c8 => ?_) (fun c8 => ?_)
                · have hf := ite_t c8 hf
                  refine lv_aload_n hx hb dX7_make_62 rfl (lv_at hl 0 rfl) ?_
                  refine va_get (D := zD v) (ci := 6) (v := .ref (zA v 1)) (C := RX7) (T := TX7) (N := 11) hx hb hts iX7 hown hk.1 hP 0 rfl rfl 0 (by decide) (hts _ fl_X7_10) (fun _ h9 => h9) rfl dX7_make_63 ?_
                  refine va_get (D := zD v) (ci := 4) (v := .int (g 1 4)) (C := RX5) (T := TX5) (N := 10) hx hb hts iX5 hown hk.1 hP 1 rfl rfl 4 (by decide) (hts _ fl_X7_120) (fun _ h9 => h9) rfl dX7_make_66 ?_
                  obtain ⟨x9, ex9, hf⟩ := lt_e hf
                  refine lv_nm ex9 ?_
                  refine lv_istore (lv' := [(4, .int x9), (0, .ref (zA v 0)), (1, .int a1), (2, .int a2), (3, .int a3)]) hx hb dX7_make_69 hl (by decide) rfl (fun ls hl => ?_)
                  refine lv_aload_n hx hb dX7_make_71 rfl (lv_at hl 1 rfl) ?_
                  refine va_get (D := zD v) (ci := 6) (v := .ref (zA v 1)) (C := RX7) (T := TX7) (N := 11) hx hb hts iX7 hown hk.1 hP 0 rfl rfl 0 (by decide) (hts _ fl_X7_10) (fun _ h9 => h9) rfl dX7_make_72 ?_
                  refine va_get (D := zD v) (ci := 4) (v := .ref (zA v 12)) (C := RX5) (T := TX5) (N := 10) hx hb hts iX5 hown hk.1 hP 1 rfl rfl 6 (by decide) (hts _ fl_X7_123) (fun _ h9 => h9) rfl dX7_make_75 ?_
                  refine lv_iload hx hb dX7_make_78 (lv_at hl 0 rfl) ?_
                  refine lv_iload_n hx hb dX7_make_80 rfl (lv_at hl 2 rfl) ?_
                  obtain ⟨c10, hf⟩ := gd_e hf
                  refine va_iast hx hb hk.1 hP (zw_D okX hk _) hS 12 0 rfl rfl (inb_in c10) dX7_make_81 (fun H locs hP1 _ hS => ?_)
                  have hP : va_P (zD v) vwCl (pX.1 v (up g 12 (upd (g 12) (x9).toNatClampNeg a1))) H := hP1
                  obtain ⟨g11, eg11, hf⟩ := lt_e hf
                  rw [← eg11] at hP
                  refine lv_aload_n hx hb dX7_make_82 rfl (lv_at hl 1 rfl) ?_
                  refine va_get (D := zD v) (ci := 6) (v := .ref (zA v 1)) (C := RX7) (T := TX7) (N := 11) hx hb hts iX7 hown hk.1 hP 0 rfl rfl 0 (by decide) (hts _ fl_X7_10) (fun _ h9 => h9) rfl dX7_make_83 ?_
                  refine va_get (D := zD v) (ci := 4) (v := .ref (zA v 13)) (C := RX5) (T := TX5) (N := 10) hx hb hts iX5 hown hk.1 hP 1 rfl rfl 7 (by decide) (hts _ fl_X7_110) (fun _ h9 => h9) rfl dX7_make_86 ?_
                  refine lv_iload hx hb dX7_make_89 (lv_at hl 0 rfl) ?_
                  refine lv_iload_n hx hb dX7_make_91 rfl (lv_at hl 3 rfl) ?_
                  refine lv_bipush (v := 100) hx hb dX7_make_92 kB_100 ?_
                  refine lv_idiv hx hb dX7_make_94 kz_100 ?_
                  obtain ⟨c12, hf⟩ := gd_e hf
                  refine va_iast hx hb hk.1 hP (zw_D okX hk _) hS 13 0 rfl rfl (inb_in c12) dX7_make_95 (fun H locs hP1 _ hS => ?_)
                  have hP : va_P (zD v) vwCl (pX.1 v (up g11 13 (upd (g11 13) (x9).toNatClampNeg (a2 / (100 : Int32))))) H := hP1
                  obtain ⟨g13, eg13, hf⟩ := lt_e hf
                  rw [← eg13] at hP
                  refine lv_aload_n hx hb dX7_make_96 rfl (lv_at hl 1 rfl) ?_
                  refine va_get (D := zD v) (ci := 6) (v := .ref (zA v 1)) (C := RX7) (T := TX7) (N := 11) hx hb hts iX7 hown hk.1 hP 0 rfl rfl 0 (by decide) (hts _ fl_X7_10) (fun _ h9 => h9) rfl dX7_make_97 ?_
                  refine va_get (D := zD v) (ci := 4) (v := .ref (zA v 14)) (C := RX5) (T := TX5) (N := 10) hx hb hts iX5 hown hk.1 hP 1 rfl rfl 8 (by decide) (hts _ fl_X7_113) (fun _ h9 => h9) rfl dX7_make_100 ?_
                  refine lv_iload hx hb dX7_make_103 (lv_at hl 0 rfl) ?_
                  refine lv_iload_n hx hb dX7_make_105 rfl (lv_at hl 3 rfl) ?_
                  refine lv_bipush (v := 100) hx hb dX7_make_106 kB_100 ?_
                  refine lv_irem hx hb dX7_make_108 kz_100 ?_
                  refine lv_nm (z := (rmI a2 (100 : Int32))) rfl ?_
                  refine lv_bipush (v := 9) hx hb dX7_make_109 kB_9 ?_
                  refine lv_isub hx hb dX7_make_111 ?_
                  obtain ⟨c14, hf⟩ := gd_e hf
                  refine va_iast hx hb hk.1 hP (zw_D okX hk _) hS 14 0 rfl rfl (inb_in c14) dX7_make_112 (fun H locs hP1 _ hS => ?_)
                  have hP : va_P (zD v) vwCl (pX.1 v (up g13 14 (upd (g13 14) (x9).toNatClampNeg ((rmI a2 (100 : Int32)) - (9 : Int32))))) H := hP1
                  obtain ⟨g15, eg15, hf⟩ := lt_e hf
                  rw [← eg15] at hP
                  refine lv_aload_n hx hb dX7_make_113 rfl (lv_at hl 1 rfl) ?_
                  refine va_get (D := zD v) (ci := 6) (v := .ref (zA v 1)) (C := RX7) (T := TX7) (N := 11) hx hb hts iX7 hown hk.1 hP 0 rfl rfl 0 (by decide) (hts _ fl_X7_10) (fun _ h9 => h9) rfl dX7_make_114 ?_
                  refine va_get (D := zD v) (ci := 4) (v := .ref (zA v 15)) (C := RX5) (T := TX5) (N := 10) hx hb hts iX5 hown hk.1 hP 1 rfl rfl 9 (by decide) (hts _ fl_X7_116) (fun _ h9 => h9) rfl dX7_make_117 ?_
                  refine lv_iload hx hb dX7_make_120 (lv_at hl 0 rfl) ?_
                  refine lv_iload_n hx hb dX7_make_122 rfl (lv_at hl 4 rfl) ?_
                  obtain ⟨c16, hf⟩ := gd_e hf
                  refine va_iast hx hb hk.1 hP (zw_D okX hk _) hS 15 0 rfl rfl (inb_in c16) dX7_make_123 (fun H locs hP1 _ hS => ?_)
                  have hP : va_P (zD v) vwCl (pX.1 v (up g15 15 (upd (g15 15) (x9).toNatClampNeg a3))) H := hP1
                  obtain ⟨g17, eg17, hf⟩ := lt_e hf
                  rw [← eg17] at hP
                  refine lv_aload_n hx hb dX7_make_124 rfl (lv_at hl 1 rfl) ?_
                  refine va_get (D := zD v) (ci := 6) (v := .ref (zA v 1)) (C := RX7) (T := TX7) (N := 11) hx hb hts iX7 hown hk.1 hP 0 rfl rfl 0 (by decide) (hts _ fl_X7_10) (fun _ h9 => h9) rfl dX7_make_125 ?_
                  refine lv_iload hx hb dX7_make_128 (lv_at hl 0 rfl) ?_
                  refine lv_iconst (v := 1) hx hb dX7_make_130 kI_1 ?_
                  refine lv_iadd hx hb dX7_make_131 ?_
                  refine va_put (D := zD v) (ci := 4) (v := .int (x9 + (1 : Int32))) (ty := .int) (C := RX5) (T := TX5) (N := 10) hx hb hts iX5 tyX5 tyX5_ok nmX5 hown hk.1 hP (zw_D okX hk _) hS 1 rfl rfl 4 (by decide) (hts _ fl_X7_120) (fun _ h9 => h9) rfl pd_I rfl rfl (Nat.le_of_ble_eq_true rfl) dX7_make_132 (fun H locs hP1 _ hS => ?_)
                  have hP : va_P (zD v) vwCl (pX.1 v (up g17 1 (upd (g17 1) 4 (x9 + (1 : Int32))))) H := hP1
                  obtain ⟨g18, eg18, hf⟩ := lt_e hf
                  rw [← eg18] at hP
                  refine lv_iload hx hb dX7_make_135 (lv_at hl 0 rfl) ?_
                  exact hret _ _ _ _ _ _ (Or.inl rfl) (Option.some.inj hf) hP hS dX7_make_137
                · have hf := ite_f c8 hf
                  refine lv_bipush (v := -4) hx hb dX7_make_59 kB_m4 ?_
                  exact hret _ _ _ _ _ _ (Or.inl rfl) (Option.some.inj hf) hP hS dX7_make_61
              · have hf := ite_f c7 hf
                refine lv_bipush (v := -2) hx hb dX7_make_45 kB_m2 ?_
                exact hret _ _ _ _ _ _ (Or.inl rfl) (Option.some.inj hf) hP hS dX7_make_47
        · have hf := ite_f c4 hf
          refine lv_bipush (v := -2) hx hb dX7_make_20 kB_m2 ?_
          exact hret _ _ _ _ _ _ (Or.inl rfl) (Option.some.inj hf) hP hS dX7_make_22
abbrev rm_X7_fit : Room := { frames := 4, cells := 0, slots := 0, locals := 128 }
set_option maxRecDepth 100000 in
theorem t_X7_fit (l : Launch) (v : Ev) (N : Nat) (a1 : Int32) (a2 : Int32) (g : Sg) (res : Int32 × Sg) (hf : x_X7_fit N a1 a2 g = some res) : Ci l yX7_fit cX7_fit 3 .int rm_X7_fit pX v [.ref (zA v 0), .int a1, .int a2] g res := by
  refine ze_i (by decide +kernel) (Nat.le_of_ble_eq_true rfl) ?_
  intro p e s m args below meth c Q ls hcx hret hP hl
  obtain ⟨hx, hb, hml, hown, hts, hk⟩ := hcx
  have hown : s.vm.findClass RX7 = some m.cls := hown
  have hS : va_S (An nX v) s.heap s.heap [] := va_S.rf
  have hl : lv_has ls 3 [(0, .ref (zA v 0)), (1, .int a1), (2, .int a2)] := hl
  have wb27 : ∀ (y1 : Int32) (y2 : Int32) (g : Sg) (hf : x_X7_fit_b27 N y1 y2 g = some res) (H : Heap) (locs : List Loc) (ls : Array Slot) (hP : va_P (zD v) vwCl (pX.1 v g) H) (hS : va_S (An nX v) s.heap H locs) (hl : lv_has ls 3 [(0, .ref (zA v 0)), (1, .int y1), (2, .int y2)]), W p l e rm_X7_fit s m args below meth c H locs 0 0 Q (F0 m 27 ls []) := by
    intro y1 y2 g hf H locs ls hP hS hl
    unfold x_X7_fit_b27 at hf
    refine lv_iload_n hx hb dX7_fit_27 rfl (lv_at hl 2 rfl) ?_
    refine lv_iconst (v := -1) hx hb dX7_fit_28 kI_m1 ?_
    refine lv_icmp_ne (tgt := 43) hx hb dX7_fit_29 (by decide) (fun c4 => ?_) (fun c4 => ?_)
    · have hf := ite_f c4 hf
      refine lv_aload_n hx hb dX7_fit_43 rfl (lv_at hl 0 rfl) ?_
      refine va_get (D := zD v) (ci := 6) (v := .ref (zA v 1)) (C := RX7) (T := TX7) (N := 11) hx hb hts iX7 hown hk.1 hP 0 rfl rfl 0 (by decide) (hts _ fl_X7_10) (fun _ h9 => h9) rfl dX7_fit_44 ?_
      refine lv_iload_n hx hb dX7_fit_47 rfl (lv_at hl 1 rfl) ?_
      refine lv_iload_n hx hb dX7_fit_48 rfl (lv_at hl 2 rfl) ?_
      obtain ⟨q5, eq5, hf⟩ := bd_e hf
      refine zki hS (zrV (As := [.int y1, .int y2]) (rest := []) okX hx hb hml hown hts hk hP hS (t_X5_saysOf l v N y1 y2 g _ eq5) vk_X5_saysOf ml_X7_142 rfl rfl ⟨(Nat.le_of_ble_eq_true rfl), (Nat.le_of_ble_eq_true rfl)⟩ (va_recv (q := (RX5, TX5, 10)) hk.1 hP (q0 := 1) (ci := 4) rfl rfl) rfl hl.1 rfl (Nat.le_of_ble_eq_true rfl) dX7_fit_49) (fun H locs hP hS => ?_)
      exact hret _ _ _ _ _ _ (Or.inl rfl) (Option.some.inj hf) hP hS dX7_fit_52
    · have hf := ite_t c4 hf
      refine lv_aload_n hx hb dX7_fit_32 rfl (lv_at hl 0 rfl) ?_
      refine va_get (D := zD v) (ci := 6) (v := .ref (zA v 1)) (C := RX7) (T := TX7) (N := 11) hx hb hts iX7 hown hk.1 hP 0 rfl rfl 0 (by decide) (hts _ fl_X7_10) (fun _ h9 => h9) rfl dX7_fit_33 ?_
      refine lv_iload_n hx hb dX7_fit_36 rfl (lv_at hl 1 rfl) ?_
      obtain ⟨q6, eq6, hf⟩ := bd_e hf
      refine zki hS (zrV (As := [.int y1]) (rest := []) okX hx hb hml hown hts hk hP hS (t_X5_lengthOf l v N y1 g _ eq6) vk_X5_lengthOf ml_X7_139 rfl rfl ⟨(Nat.le_of_ble_eq_true rfl), (Nat.le_of_ble_eq_true rfl)⟩ (va_recv (q := (RX5, TX5, 10)) hk.1 hP (q0 := 1) (ci := 4) rfl rfl) rfl hl.1 rfl (Nat.le_of_ble_eq_true rfl) dX7_fit_37) (fun H locs hP hS => ?_)
      refine lv_goto (tgt := 52) hx hb dX7_fit_40 (by decide) ?_
      exact hret _ _ _ _ _ _ (Or.inl rfl) (Option.some.inj hf) hP hS dX7_fit_52
  unfold x_X7_fit at hf
  refine lv_aload_n hx hb dX7_fit_0 rfl (lv_at hl 0 rfl) ?_
  refine va_get (D := zD v) (ci := 6) (v := .ref (zA v 1)) (C := RX7) (T := TX7) (N := 11) hx hb hts iX7 hown hk.1 hP 0 rfl rfl 0 (by decide) (hts _ fl_X7_10) (fun _ h9 => h9) rfl dX7_fit_1 ?_
  refine lv_iload_n hx hb dX7_fit_4 rfl (lv_at hl 1 rfl) ?_
  obtain ⟨q1, eq1, hf⟩ := bd_e hf
  refine zki hS (zrV (As := [.int a1]) (rest := []) okX hx hb hml hown hts hk hP hS (t_X5_hasShoe l v N a1 g _ eq1) vk_X5_hasShoe ml_X7_136 rfl rfl ⟨(Nat.le_of_ble_eq_true rfl), (Nat.le_of_ble_eq_true rfl)⟩ (va_recv (q := (RX5, TX5, 10)) hk.1 hP (q0 := 1) (ci := 4) rfl rfl) rfl hl.1 rfl (Nat.le_of_ble_eq_true rfl) dX7_fit_5) (fun H locs hP hS => ?_)
  refine lv_if_eq (tgt := 23) hx hb dX7_fit_8 (by decide) (fun c2 => ?_) (fun c2 => ?_)
  · have hf := ite_t c2 hf
    refine lv_sipush (v := -1000) hx hb dX7_fit_23 kS_m1000 ?_
    exact hret _ _ _ _ _ _ (Or.inl rfl) (Option.some.inj hf) hP hS dX7_fit_26
  · have hf := ite_f c2 hf
    refine lv_iload_n hx hb dX7_fit_11 rfl (lv_at hl 2 rfl) ?_
    refine lv_iconst (v := -1) hx hb dX7_fit_12 kI_m1 ?_
    refine lv_icmp_eq (tgt := 27) hx hb dX7_fit_13 (by decide) (fun c3 => ?_) (fun c3 => ?_)
    · have hf := ite_t c3 hf
      exact wb27 a1 a2 q1.2 hf _ _ _ hP hS (lv_sub hl [0, 1, 2] rfl)
    · have hf := ite_f c3 hf
      refine lv_iload_n hx hb dX7_fit_16 rfl (lv_at hl 2 rfl) ?_
      obtain ⟨q7, eq7, hf⟩ := bd_e hf
      refine zki hS (zrS (As := [.int a2]) (rest := []) okX hx hb hml hown hts hk hP hS (t_X7_isFoot l v N a2 q1.2 _ eq7) sk_X7_isFoot ml_X7_126 rfl rfl ⟨(Nat.le_of_ble_eq_true rfl), (Nat.le_of_ble_eq_true rfl)⟩ rfl hl.1 rfl (Nat.le_of_ble_eq_true rfl) dX7_fit_17) (fun H locs hP hS => ?_)
      refine lv_if_ne (tgt := 27) hx hb dX7_fit_20 (by decide) (fun c8 => ?_) (fun c8 => ?_)
      · have hf := ite_f c8 hf
        exact wb27 a1 a2 q7.2 hf _ _ _ hP hS (lv_sub hl [0, 1, 2] rfl)
      · have hf := ite_t c8 hf
        refine lv_sipush (v := -1000) hx hb dX7_fit_23 kS_m1000 ?_
        exact hret _ _ _ _ _ _ (Or.inl rfl) (Option.some.inj hf) hP hS dX7_fit_26
abbrev rm_X7_feed : Room := { frames := 3, cells := 0, slots := 0, locals := 101 }
set_option maxRecDepth 100000 in
theorem t_X7_feed (l : Launch) (v : Ev) (N : Nat) (a1 : Int32) (g : Sg) (res : Int32 × Sg) (hf : x_X7_feed N a1 g = some res) : Ci l yX7_feed cX7_feed 2 .int rm_X7_feed pX v [.ref (zA v 0), .int a1] g res := by
  refine ze_i (by decide +kernel) (Nat.le_of_ble_eq_true rfl) ?_
  intro p e s m args below meth c Q ls hcx hret hP hl
  obtain ⟨hx, hb, hml, hown, hts, hk⟩ := hcx
  have hown : s.vm.findClass RX7 = some m.cls := hown
  have hS : va_S (An nX v) s.heap s.heap [] := va_S.rf
  have hl : lv_has ls 2 [(0, .ref (zA v 0)), (1, .int a1)] := hl
  unfold x_X7_feed at hf
  refine lv_iload_n hx hb dX7_feed_0 rfl (lv_at hl 1 rfl) ?_
  refine lv_if_lt (tgt := 11) hx hb dX7_feed_1 (by decide) (fun c1 => ?_) (fun c1 => ?_)
  · have hf := ite_t c1 hf
    refine lv_bipush (v := -2) hx hb dX7_feed_11 kB_m2 ?_
    exact hret _ _ _ _ _ _ (Or.inl rfl) (Option.some.inj hf) hP hS dX7_feed_13
  · have hf := ite_f c1 hf
    refine lv_iload_n hx hb dX7_feed_4 rfl (lv_at hl 1 rfl) ?_
    refine lv_sipush (v := 255) hx hb dX7_feed_5 kS_255 ?_
    refine lv_icmp_le (tgt := 14) hx hb dX7_feed_8 (by decide) (fun c2 => ?_) (fun c2 => ?_)
    · have hf := ite_t c2 hf
      refine lv_aload_n hx hb dX7_feed_14 rfl (lv_at hl 0 rfl) ?_
      refine va_get (D := zD v) (ci := 6) (v := .ref (zA v 3)) (C := RX7) (T := TX7) (N := 11) hx hb hts iX7 hown hk.1 hP 0 rfl rfl 3 (by decide) (hts _ fl_X7_22) (fun _ h9 => h9) rfl dX7_feed_15 ?_
      obtain ⟨q3, eq3, hf⟩ := bd_e hf
      refine zki hS (zrV (As := []) (rest := []) okX hx hb hml hown hts hk hP hS (t_X2_isFull l v N g _ eq3) vk_X2_isFull ml_X7_145 rfl rfl ⟨(Nat.le_of_ble_eq_true rfl), (Nat.le_of_ble_eq_true rfl)⟩ (va_recv (q := (RX2, TX2, 8)) hk.1 hP (q0 := 3) (ci := 1) rfl rfl) rfl hl.1 rfl (Nat.le_of_ble_eq_true rfl) dX7_feed_18) (fun H locs hP hS => ?_)
      refine lv_if_eq (tgt := 27) hx hb dX7_feed_21 (by decide) (fun c4 => ?_) (fun c4 => ?_)
      · have hf := ite_t c4 hf
        refine lv_aload_n hx hb dX7_feed_27 rfl (lv_at hl 0 rfl) ?_
        refine va_get (D := zD v) (ci := 6) (v := .ref (zA v 3)) (C := RX7) (T := TX7) (N := 11) hx hb hts iX7 hown hk.1 hP 0 rfl rfl 3 (by decide) (hts _ fl_X7_22) (fun _ h9 => h9) rfl dX7_feed_28 ?_
        refine lv_iload_n hx hb dX7_feed_31 rfl (lv_at hl 1 rfl) ?_
        obtain ⟨q5, eq5, hf⟩ := bd_e hf
        refine zki hS (zrV (As := [.int a1]) (rest := []) okX hx hb hml hown hts hk hP hS (t_X2_append l v N a1 q3.2 _ eq5) vk_X2_append ml_X7_76 rfl rfl ⟨(Nat.le_of_ble_eq_true rfl), (Nat.le_of_ble_eq_true rfl)⟩ (va_recv (q := (RX2, TX2, 8)) hk.1 hP (q0 := 3) (ci := 1) rfl rfl) rfl hl.1 rfl (Nat.le_of_ble_eq_true rfl) dX7_feed_32) (fun H locs hP hS => ?_)
        exact hret _ _ _ _ _ _ (Or.inl rfl) (Option.some.inj hf) hP hS dX7_feed_35
      · have hf := ite_f c4 hf
        refine lv_bipush (v := -4) hx hb dX7_feed_24 kB_m4 ?_
        exact hret _ _ _ _ _ _ (Or.inl rfl) (Option.some.inj hf) hP hS dX7_feed_26
    · have hf := ite_f c2 hf
      refine lv_bipush (v := -2) hx hb dX7_feed_11 kB_m2 ?_
      exact hret _ _ _ _ _ _ (Or.inl rfl) (Option.some.inj hf) hP hS dX7_feed_13
abbrev rm_X7_text : Room := { frames := 110, cells := 0, slots := 0, locals := 6847 }
set_option maxRecDepth 100000 in
theorem t_X7_text (l : Launch) (v : Ev) (N : Nat) (g : Sg) (res : Int32 × Sg) (hf : x_X7_text N g = some res) : Ci l yX7_text cX7_text 2 .int rm_X7_text pX v [.ref (zA v 0)] g res := by
  refine ze_i (by decide +kernel) (Nat.le_of_ble_eq_true rfl) ?_
  intro p e s m args below meth c Q ls hcx hret hP hl
  obtain ⟨hx, hb, hml, hown, hts, hk⟩ := hcx
  have hown : s.vm.findClass RX7 = some m.cls := hown
  have hS : va_S (An nX v) s.heap s.heap [] := va_S.rf
  have hl : lv_has ls 2 [(0, .ref (zA v 0))] := hl
  unfold x_X7_text at hf
  refine lv_aload_n hx hb dX7_text_0 rfl (lv_at hl 0 rfl) ?_
  refine va_get (D := zD v) (ci := 6) (v := .ref (zA v 4)) (C := RX7) (T := TX7) (N := 11) hx hb hts iX7 hown hk.1 hP 0 rfl rfl 4 (by decide) (hts _ fl_X7_29) (fun _ h9 => h9) rfl dX7_text_1 ?_
  refine va_get (D := zD v) (ci := 5) (v := .int (g 4 0)) (C := RX6) (T := TX6) (N := 5) hx hb hts iX6 hown hk.1 hP 4 rfl rfl 0 (by decide) (hts _ fl_X7_149) (fun _ h9 => h9) rfl dX7_text_4 ?_
  refine lv_bipush (v := 6) hx hb dX7_text_7 kB_6 ?_
  refine lv_icmp_lt (tgt := 15) hx hb dX7_text_9 (by decide) (fun c1 => ?_) (fun c1 => ?_)
  · have hf := ite_t c1 hf
    refine lv_aload_n hx hb dX7_text_15 rfl (lv_at hl 0 rfl) ?_
    refine va_get (D := zD v) (ci := 6) (v := .ref (zA v 3)) (C := RX7) (T := TX7) (N := 11) hx hb hts iX7 hown hk.1 hP 0 rfl rfl 3 (by decide) (hts _ fl_X7_22) (fun _ h9 => h9) rfl dX7_text_16 ?_
    obtain ⟨q2, eq2, hf⟩ := bd_e hf
    refine zki hS (zrV (As := []) (rest := []) okX hx hb hml hown hts hk hP hS (t_X2_read l v N g _ eq2) vk_X2_read ml_X7_80 rfl rfl ⟨(Nat.le_of_ble_eq_true rfl), (Nat.le_of_ble_eq_true rfl)⟩ (va_recv (q := (RX2, TX2, 8)) hk.1 hP (q0 := 3) (ci := 1) rfl rfl) rfl hl.1 rfl (Nat.le_of_ble_eq_true rfl) dX7_text_19) (fun H locs hP hS => ?_)
    refine lv_istore_n (lv' := [(1, .int q2.1), (0, .ref (zA v 0))]) hx hb dX7_text_22 rfl hl (by decide) rfl (fun ls hl => ?_)
    refine lv_iload_n hx hb dX7_text_23 rfl (lv_at hl 0 rfl) ?_
    refine lv_iconst (v := -1) hx hb dX7_text_24 kI_m1 ?_
    refine lv_icmp_ne (tgt := 42) hx hb dX7_text_25 (by decide) (fun c3 => ?_) (fun c3 => ?_)
    · have hf := ite_f c3 hf
      refine lv_bipush (v := -100) hx hb dX7_text_42 kB_m100 ?_
      refine lv_iload_n hx hb dX7_text_44 rfl (lv_at hl 0 rfl) ?_
      refine lv_isub hx hb dX7_text_45 ?_
      exact hret _ _ _ _ _ _ (Or.inl rfl) (Option.some.inj hf) hP hS dX7_text_46
    · have hf := ite_t c3 hf
      refine lv_aload_n hx hb dX7_text_28 rfl (lv_at hl 1 rfl) ?_
      refine va_get (D := zD v) (ci := 6) (v := .ref (zA v 4)) (C := RX7) (T := TX7) (N := 11) hx hb hts iX7 hown hk.1 hP 0 rfl rfl 4 (by decide) (hts _ fl_X7_29) (fun _ h9 => h9) rfl dX7_text_29 ?_
      refine lv_aload_n hx hb dX7_text_32 rfl (lv_at hl 1 rfl) ?_
      refine va_get (D := zD v) (ci := 6) (v := .ref (zA v 3)) (C := RX7) (T := TX7) (N := 11) hx hb hts iX7 hown hk.1 hP 0 rfl rfl 3 (by decide) (hts _ fl_X7_22) (fun _ h9 => h9) rfl dX7_text_33 ?_
      obtain ⟨q4, eq4, hf⟩ := bd_e hf
      refine zki hS (zrV (As := [.ref (zA v 3)]) (rest := []) okX hx hb hml hown hts hk hP hS (t_X6_keep l v N q2.2 _ eq4) vk_X6_keep ml_X7_83 rfl rfl ⟨(Nat.le_of_ble_eq_true rfl), (Nat.le_of_ble_eq_true rfl)⟩ (va_recv (q := (RX6, TX6, 5)) hk.1 hP (q0 := 4) (ci := 5) rfl rfl) rfl hl.1 rfl (Nat.le_of_ble_eq_true rfl) dX7_text_36) (fun H locs hP hS => ?_)
      refine lv_goto (tgt := 46) hx hb dX7_text_39 (by decide) ?_
      exact hret _ _ _ _ _ _ (Or.inl rfl) (Option.some.inj hf) hP hS dX7_text_46
  · have hf := ite_f c1 hf
    refine lv_bipush (v := -4) hx hb dX7_text_12 kB_m4 ?_
    exact hret _ _ _ _ _ _ (Or.inl rfl) (Option.some.inj hf) hP hS dX7_text_14
abbrev rm_X7_force : Room := { frames := 1, cells := 0, slots := 0, locals := 60 }
set_option maxRecDepth 100000 in
theorem t_X7_force (l : Launch) (v : Ev) (N : Nat) (a1 : Int32) (g : Sg) (res : Int32 × Sg) (hf : x_X7_force N a1 g = some res) : Ci l yX7_force cX7_force 3 .int rm_X7_force pX v [.ref (zA v 0), .int a1] g res := by
  refine ze_i (by decide +kernel) (Nat.le_of_ble_eq_true rfl) ?_
  intro p e s m args below meth c Q ls hcx hret hP hl
  obtain ⟨hx, hb, hml, hown, hts, hk⟩ := hcx
  have hown : s.vm.findClass RX7 = some m.cls := hown
  have hS : va_S (An nX v) s.heap s.heap [] := va_S.rf
  have hl : lv_has ls 3 [(0, .ref (zA v 0)), (1, .int a1)] := hl
  unfold x_X7_force at hf
  refine lv_iload_n hx hb dX7_force_0 rfl (lv_at hl 1 rfl) ?_
  refine lv_if_lt (tgt := 15) hx hb dX7_force_1 (by decide) (fun c1 => ?_) (fun c1 => ?_)
  · have hf := ite_t c1 hf
    refine lv_bipush (v := -2) hx hb dX7_force_15 kB_m2 ?_
    exact hret _ _ _ _ _ _ (Or.inl rfl) (Option.some.inj hf) hP hS dX7_force_17
  · have hf := ite_f c1 hf
    refine lv_iload_n hx hb dX7_force_4 rfl (lv_at hl 1 rfl) ?_
    refine lv_aload_n hx hb dX7_force_5 rfl (lv_at hl 0 rfl) ?_
    refine va_get (D := zD v) (ci := 6) (v := .ref (zA v 4)) (C := RX7) (T := TX7) (N := 11) hx hb hts iX7 hown hk.1 hP 0 rfl rfl 4 (by decide) (hts _ fl_X7_29) (fun _ h9 => h9) rfl dX7_force_6 ?_
    refine va_get (D := zD v) (ci := 5) (v := .int (g 4 0)) (C := RX6) (T := TX6) (N := 5) hx hb hts iX6 hown hk.1 hP 4 rfl rfl 0 (by decide) (hts _ fl_X7_149) (fun _ h9 => h9) rfl dX7_force_9 ?_
    refine lv_icmp_lt (tgt := 18) hx hb dX7_force_12 (by decide) (fun c2 => ?_) (fun c2 => ?_)
    · have hf := ite_t c2 hf
      refine lv_aload_n hx hb dX7_force_18 rfl (lv_at hl 0 rfl) ?_
      refine va_get (D := zD v) (ci := 6) (v := .ref (zA v 1)) (C := RX7) (T := TX7) (N := 11) hx hb hts iX7 hown hk.1 hP 0 rfl rfl 0 (by decide) (hts _ fl_X7_10) (fun _ h9 => h9) rfl dX7_force_19 ?_
      refine va_get (D := zD v) (ci := 4) (v := .int (g 1 3)) (C := RX5) (T := TX5) (N := 10) hx hb hts iX5 hown hk.1 hP 1 rfl rfl 3 (by decide) (hts _ fl_X7_152) (fun _ h9 => h9) rfl dX7_force_22 ?_
      obtain ⟨x3, ex3, hf⟩ := lt_e hf
      refine lv_nm ex3 ?_
      refine lv_istore_n (lv' := [(2, .int x3), (0, .ref (zA v 0)), (1, .int a1)]) hx hb dX7_force_25 rfl hl (by decide) rfl (fun ls hl => ?_)
      refine lv_aload_n hx hb dX7_force_26 rfl (lv_at hl 1 rfl) ?_
      refine va_get (D := zD v) (ci := 6) (v := .ref (zA v 1)) (C := RX7) (T := TX7) (N := 11) hx hb hts iX7 hown hk.1 hP 0 rfl rfl 0 (by decide) (hts _ fl_X7_10) (fun _ h9 => h9) rfl dX7_force_27 ?_
      refine lv_iload_n hx hb dX7_force_30 rfl (lv_at hl 2 rfl) ?_
      refine va_put (D := zD v) (ci := 4) (v := .int a1) (ty := .int) (C := RX5) (T := TX5) (N := 10) hx hb hts iX5 tyX5 tyX5_ok nmX5 hown hk.1 hP (zw_D okX hk _) hS 1 rfl rfl 3 (by decide) (hts _ fl_X7_152) (fun _ h9 => h9) rfl pd_I rfl rfl (Nat.le_of_ble_eq_true rfl) dX7_force_31 (fun H locs hP1 _ hS => ?_)
      have hP : va_P (zD v) vwCl (pX.1 v (up g 1 (upd (g 1) 3 a1))) H := hP1
      obtain ⟨g4, eg4, hf⟩ := lt_e hf
      rw [← eg4] at hP
      refine lv_iload_n hx hb dX7_force_34 rfl (lv_at hl 0 rfl) ?_
      exact hret _ _ _ _ _ _ (Or.inl rfl) (Option.some.inj hf) hP hS dX7_force_35
    · have hf := ite_f c2 hf
      refine lv_bipush (v := -2) hx hb dX7_force_15 kB_m2 ?_
      exact hret _ _ _ _ _ _ (Or.inl rfl) (Option.some.inj hf) hP hS dX7_force_17
abbrev rm_X7_rubbing : Room := { frames := 4, cells := 0, slots := 0, locals := 129 }
set_option maxRecDepth 100000 in
theorem t_X7_rubbing (l : Launch) (v : Ev) (N : Nat) (a1 : Int32) (a2 : Int32) (a3 : Int32) (g : Sg) (res : Int32 × Sg) (hf : x_X7_rubbing N a1 a2 a3 g = some res) : Ci l yX7_rubbing cX7_rubbing 6 .int rm_X7_rubbing pX v [.ref (zA v 0), .int a1, .int a2, .int a3] g res := by
  refine ze_i (by decide +kernel) (Nat.le_of_ble_eq_true rfl) ?_
  intro p e s m args below meth c Q ls hcx hret hP hl
  obtain ⟨hx, hb, hml, hown, hts, hk⟩ := hcx
  have hown : s.vm.findClass RX7 = some m.cls := hown
  have hS : va_S (An nX v) s.heap s.heap [] := va_S.rf
  have hl : lv_has ls 6 [(0, .ref (zA v 0)), (1, .int a1), (2, .int a2), (3, .int a3)] := hl
  unfold x_X7_rubbing at hf
  refine lv_iload_n hx hb dX7_rubbing_0 rfl (lv_at hl 1 rfl) ?_
  refine lv_bipush (v := 20) hx hb dX7_rubbing_1 kB_20 ?_
  refine lv_idiv hx hb dX7_rubbing_3 kz_20 ?_
  obtain ⟨x1, ex1, hf⟩ := lt_e hf
  refine lv_nm ex1 ?_
  refine lv_istore (lv' := [(4, .int x1), (0, .ref (zA v 0)), (1, .int a1), (2, .int a2), (3, .int a3)]) hx hb dX7_rubbing_4 hl (by decide) rfl (fun ls hl => ?_)
  refine lv_aload_n hx hb dX7_rubbing_6 rfl (lv_at hl 1 rfl) ?_
  refine va_get (D := zD v) (ci := 6) (v := .ref (zA v 1)) (C := RX7) (T := TX7) (N := 11) hx hb hts iX7 hown hk.1 hP 0 rfl rfl 0 (by decide) (hts _ fl_X7_10) (fun _ h9 => h9) rfl dX7_rubbing_7 ?_
  refine lv_iload_n hx hb dX7_rubbing_10 rfl (lv_at hl 2 rfl) ?_
  obtain ⟨q2, eq2, hf⟩ := bd_e hf
  refine zki hS (zrV (As := [.int a1]) (rest := []) okX hx hb hml hown hts hk hP hS (t_X5_lengthOf l v N a1 g _ eq2) vk_X5_lengthOf ml_X7_139 rfl rfl ⟨(Nat.le_of_ble_eq_true rfl), (Nat.le_of_ble_eq_true rfl)⟩ (va_recv (q := (RX5, TX5, 10)) hk.1 hP (q0 := 1) (ci := 4) rfl rfl) rfl hl.1 rfl (Nat.le_of_ble_eq_true rfl) dX7_rubbing_11) (fun H locs hP hS => ?_)
  refine lv_iload_n hx hb dX7_rubbing_14 rfl (lv_at hl 4 rfl) ?_
  refine lv_isub hx hb dX7_rubbing_15 ?_
  refine va_mabs hx hb (hml.trans hl.1.symm) hown (hts _ ml_X7_170) (hts _ mS_abs) (hts _ mI_math) (hts _ mC_abs) (Nat.le_of_ble_eq_true rfl) (Nat.le_of_ble_eq_true rfl) (Nat.zero_le _) (Nat.zero_le _) dX7_rubbing_16 ?_
  obtain ⟨x3, ex3, hf⟩ := lt_e hf
  refine lv_nm ex3 ?_
  refine lv_istore (lv' := [(5, .int x3), (4, .int x1), (0, .ref (zA v 0)), (1, .int a1), (2, .int a2), (3, .int a3)]) hx hb dX7_rubbing_19 hl (by decide) rfl (fun ls hl => ?_)
  refine lv_aload_n hx hb dX7_rubbing_21 rfl (lv_at hl 2 rfl) ?_
  refine va_get (D := zD v) (ci := 6) (v := .ref (zA v 4)) (C := RX7) (T := TX7) (N := 11) hx hb hts iX7 hown hk.1 hP 0 rfl rfl 4 (by decide) (hts _ fl_X7_29) (fun _ h9 => h9) rfl dX7_rubbing_22 ?_
  refine lv_iload_n hx hb dX7_rubbing_25 rfl (lv_at hl 3 rfl) ?_
  refine lv_bipush (v := 20) hx hb dX7_rubbing_26 kB_20 ?_
  refine lv_irem hx hb dX7_rubbing_28 kz_20 ?_
  refine lv_nm (z := (rmI a1 (20 : Int32))) rfl ?_
  refine lv_iload hx hb dX7_rubbing_29 (lv_at hl 1 rfl) ?_
  refine lv_iload hx hb dX7_rubbing_31 (lv_at hl 0 rfl) ?_
  refine lv_aload_n hx hb dX7_rubbing_33 rfl (lv_at hl 2 rfl) ?_
  refine va_get (D := zD v) (ci := 6) (v := .ref (zA v 1)) (C := RX7) (T := TX7) (N := 11) hx hb hts iX7 hown hk.1 hP 0 rfl rfl 0 (by decide) (hts _ fl_X7_10) (fun _ h9 => h9) rfl dX7_rubbing_34 ?_
  refine va_get (D := zD v) (ci := 4) (v := .ref (zA v 13)) (C := RX5) (T := TX5) (N := 10) hx hb hts iX5 hown hk.1 hP 1 rfl rfl 7 (by decide) (hts _ fl_X7_110) (fun _ h9 => h9) rfl dX7_rubbing_37 ?_
  refine lv_iload hx hb dX7_rubbing_40 (lv_at hl 1 rfl) ?_
  obtain ⟨c4, hf⟩ := gd_e hf
  refine va_iald hx hb hk.1 hP 13 0 rfl rfl (inb_in c4) dX7_rubbing_42 ?_
  refine lv_iload_n hx hb dX7_rubbing_43 rfl (lv_at hl 4 rfl) ?_
  refine lv_aload_n hx hb dX7_rubbing_44 rfl (lv_at hl 2 rfl) ?_
  refine va_get (D := zD v) (ci := 6) (v := .ref (zA v 1)) (C := RX7) (T := TX7) (N := 11) hx hb hts iX7 hown hk.1 hP 0 rfl rfl 0 (by decide) (hts _ fl_X7_10) (fun _ h9 => h9) rfl dX7_rubbing_45 ?_
  refine va_get (D := zD v) (ci := 4) (v := .int (q2.2 1 2)) (C := RX5) (T := TX5) (N := 10) hx hb hts iX5 hown hk.1 hP 1 rfl rfl 2 (by decide) (hts _ fl_X7_104) (fun _ h9 => h9) rfl dX7_rubbing_48 ?_
  obtain ⟨q5, eq5, hf⟩ := bd_e hf
  refine zkv hS (zrV (As := [.int (rmI a1 (20 : Int32)), .int x1, .int x3, .int (q2.2 13 (x1).toNatClampNeg), .int a2, .int (q2.2 1 2)]) (rest := []) okX hx hb hml hown hts hk hP hS (t_X6_name l v N (rmI a1 (20 : Int32)) x1 x3 (q2.2 13 (x1).toNatClampNeg) a2 (q2.2 1 2) q2.2 _ eq5) vk_X6_name ml_X7_155 rfl rfl ⟨(Nat.le_of_ble_eq_true rfl), (Nat.le_of_ble_eq_true rfl)⟩ (va_recv (q := (RX6, TX6, 5)) hk.1 hP (q0 := 4) (ci := 5) rfl rfl) rfl hl.1 rfl (Nat.le_of_ble_eq_true rfl) dX7_rubbing_51) (fun H locs hP hS => ?_)
  refine lv_aload_n hx hb dX7_rubbing_54 rfl (lv_at hl 2 rfl) ?_
  refine va_get (D := zD v) (ci := 6) (v := .ref (zA v 4)) (C := RX7) (T := TX7) (N := 11) hx hb hts iX7 hown hk.1 hP 0 rfl rfl 4 (by decide) (hts _ fl_X7_29) (fun _ h9 => h9) rfl dX7_rubbing_55 ?_
  refine lv_aload_n hx hb dX7_rubbing_58 rfl (lv_at hl 2 rfl) ?_
  refine va_get (D := zD v) (ci := 6) (v := .ref (zA v 1)) (C := RX7) (T := TX7) (N := 11) hx hb hts iX7 hown hk.1 hP 0 rfl rfl 0 (by decide) (hts _ fl_X7_10) (fun _ h9 => h9) rfl dX7_rubbing_59 ?_
  refine va_get (D := zD v) (ci := 4) (v := .int (q5 1 3)) (C := RX5) (T := TX5) (N := 10) hx hb hts iX5 hown hk.1 hP 1 rfl rfl 3 (by decide) (hts _ fl_X7_152) (fun _ h9 => h9) rfl dX7_rubbing_62 ?_
  refine lv_iconst (v := 1) hx hb dX7_rubbing_65 kI_1 ?_
  obtain ⟨q6, eq6, hf⟩ := bd_e hf
  refine zki hS (zrV (As := [.int (q5 1 3), .int (1 : Int32)]) (rest := []) okX hx hb hml hown hts hk hP hS (t_X6_value l v N (q5 1 3) (1 : Int32) q5 _ eq6) vk_X6_value ml_X7_159 rfl rfl ⟨(Nat.le_of_ble_eq_true rfl), (Nat.le_of_ble_eq_true rfl)⟩ (va_recv (q := (RX6, TX6, 5)) hk.1 hP (q0 := 4) (ci := 5) rfl rfl) rfl hl.1 rfl (Nat.le_of_ble_eq_true rfl) dX7_rubbing_66) (fun H locs hP hS => ?_)
  refine lv_bipush (v := 99) hx hb dX7_rubbing_69 kB_99 ?_
  obtain ⟨q7, eq7, hf⟩ := bd_e hf
  refine zki hS (zrS (As := [.int q6.1, .int (99 : Int32)]) (rest := []) okX hx hb hml hown hts hk hP hS (t_X7_within l v N q6.1 (99 : Int32) q6.2 _ eq7) sk_X7_within ml_X7_162 rfl rfl ⟨(Nat.le_of_ble_eq_true rfl), (Nat.le_of_ble_eq_true rfl)⟩ rfl hl.1 rfl (Nat.le_of_ble_eq_true rfl) dX7_rubbing_71) (fun H locs hP hS => ?_)
  exact hret _ _ _ _ _ _ (Or.inl rfl) (Option.some.inj hf) hP hS dX7_rubbing_74
abbrev rm_X7_priceOf : Room := { frames := 4, cells := 0, slots := 0, locals := 129 }
set_option maxRecDepth 100000 in
theorem t_X7_priceOf (l : Launch) (v : Ev) (N : Nat) (a1 : Int32) (g : Sg) (res : Int32 × Sg) (hf : x_X7_priceOf N a1 g = some res) : Ci l yX7_priceOf cX7_priceOf 3 .int rm_X7_priceOf pX v [.ref (zA v 0), .int a1] g res := by
  refine ze_i (by decide +kernel) (Nat.le_of_ble_eq_true rfl) ?_
  intro p e s m args below meth c Q ls hcx hret hP hl
  obtain ⟨hx, hb, hml, hown, hts, hk⟩ := hcx
  have hown : s.vm.findClass RX7 = some m.cls := hown
  have hS : va_S (An nX v) s.heap s.heap [] := va_S.rf
  have hl : lv_has ls 3 [(0, .ref (zA v 0)), (1, .int a1)] := hl
  unfold x_X7_priceOf at hf
  refine lv_iload_n hx hb dX7_priceOf_0 rfl (lv_at hl 1 rfl) ?_
  refine lv_bipush (v := 20) hx hb dX7_priceOf_1 kB_20 ?_
  refine lv_idiv hx hb dX7_priceOf_3 kz_20 ?_
  obtain ⟨x1, ex1, hf⟩ := lt_e hf
  refine lv_nm ex1 ?_
  refine lv_istore_n (lv' := [(2, .int x1), (0, .ref (zA v 0)), (1, .int a1)]) hx hb dX7_priceOf_4 rfl hl (by decide) rfl (fun ls hl => ?_)
  refine lv_aload_n hx hb dX7_priceOf_5 rfl (lv_at hl 1 rfl) ?_
  refine va_get (D := zD v) (ci := 6) (v := .ref (zA v 4)) (C := RX7) (T := TX7) (N := 11) hx hb hts iX7 hown hk.1 hP 0 rfl rfl 4 (by decide) (hts _ fl_X7_29) (fun _ h9 => h9) rfl dX7_priceOf_6 ?_
  refine lv_iload_n hx hb dX7_priceOf_9 rfl (lv_at hl 2 rfl) ?_
  refine lv_bipush (v := 20) hx hb dX7_priceOf_10 kB_20 ?_
  refine lv_irem hx hb dX7_priceOf_12 kz_20 ?_
  refine lv_nm (z := (rmI a1 (20 : Int32))) rfl ?_
  refine lv_iload_n hx hb dX7_priceOf_13 rfl (lv_at hl 0 rfl) ?_
  refine lv_iconst (v := 0) hx hb dX7_priceOf_14 kI_0 ?_
  refine lv_aload_n hx hb dX7_priceOf_15 rfl (lv_at hl 1 rfl) ?_
  refine va_get (D := zD v) (ci := 6) (v := .ref (zA v 1)) (C := RX7) (T := TX7) (N := 11) hx hb hts iX7 hown hk.1 hP 0 rfl rfl 0 (by decide) (hts _ fl_X7_10) (fun _ h9 => h9) rfl dX7_priceOf_16 ?_
  refine va_get (D := zD v) (ci := 4) (v := .ref (zA v 13)) (C := RX5) (T := TX5) (N := 10) hx hb hts iX5 hown hk.1 hP 1 rfl rfl 7 (by decide) (hts _ fl_X7_110) (fun _ h9 => h9) rfl dX7_priceOf_19 ?_
  refine lv_iload_n hx hb dX7_priceOf_22 rfl (lv_at hl 0 rfl) ?_
  obtain ⟨c2, hf⟩ := gd_e hf
  refine va_iald hx hb hk.1 hP 13 0 rfl rfl (inb_in c2) dX7_priceOf_23 ?_
  refine lv_iconst (v := 0) hx hb dX7_priceOf_24 kI_0 ?_
  refine lv_aload_n hx hb dX7_priceOf_25 rfl (lv_at hl 1 rfl) ?_
  refine va_get (D := zD v) (ci := 6) (v := .ref (zA v 1)) (C := RX7) (T := TX7) (N := 11) hx hb hts iX7 hown hk.1 hP 0 rfl rfl 0 (by decide) (hts _ fl_X7_10) (fun _ h9 => h9) rfl dX7_priceOf_26 ?_
  refine va_get (D := zD v) (ci := 4) (v := .int (g 1 2)) (C := RX5) (T := TX5) (N := 10) hx hb hts iX5 hown hk.1 hP 1 rfl rfl 2 (by decide) (hts _ fl_X7_104) (fun _ h9 => h9) rfl dX7_priceOf_29 ?_
  obtain ⟨q3, eq3, hf⟩ := bd_e hf
  refine zkv hS (zrV (As := [.int (rmI a1 (20 : Int32)), .int x1, .int (0 : Int32), .int (g 13 (x1).toNatClampNeg), .int (0 : Int32), .int (g 1 2)]) (rest := []) okX hx hb hml hown hts hk hP hS (t_X6_name l v N (rmI a1 (20 : Int32)) x1 (0 : Int32) (g 13 (x1).toNatClampNeg) (0 : Int32) (g 1 2) g _ eq3) vk_X6_name ml_X7_155 rfl rfl ⟨(Nat.le_of_ble_eq_true rfl), (Nat.le_of_ble_eq_true rfl)⟩ (va_recv (q := (RX6, TX6, 5)) hk.1 hP (q0 := 4) (ci := 5) rfl rfl) rfl hl.1 rfl (Nat.le_of_ble_eq_true rfl) dX7_priceOf_32) (fun H locs hP hS => ?_)
  refine lv_aload_n hx hb dX7_priceOf_35 rfl (lv_at hl 1 rfl) ?_
  refine va_get (D := zD v) (ci := 6) (v := .ref (zA v 4)) (C := RX7) (T := TX7) (N := 11) hx hb hts iX7 hown hk.1 hP 0 rfl rfl 4 (by decide) (hts _ fl_X7_29) (fun _ h9 => h9) rfl dX7_priceOf_36 ?_
  refine lv_aload_n hx hb dX7_priceOf_39 rfl (lv_at hl 1 rfl) ?_
  refine va_get (D := zD v) (ci := 6) (v := .ref (zA v 1)) (C := RX7) (T := TX7) (N := 11) hx hb hts iX7 hown hk.1 hP 0 rfl rfl 0 (by decide) (hts _ fl_X7_10) (fun _ h9 => h9) rfl dX7_priceOf_40 ?_
  refine va_get (D := zD v) (ci := 4) (v := .int (q3 1 3)) (C := RX5) (T := TX5) (N := 10) hx hb hts iX5 hown hk.1 hP 1 rfl rfl 3 (by decide) (hts _ fl_X7_152) (fun _ h9 => h9) rfl dX7_priceOf_43 ?_
  refine lv_iconst (v := 2) hx hb dX7_priceOf_46 kI_2 ?_
  obtain ⟨q4, eq4, hf⟩ := bd_e hf
  refine zki hS (zrV (As := [.int (q3 1 3), .int (2 : Int32)]) (rest := []) okX hx hb hml hown hts hk hP hS (t_X6_value l v N (q3 1 3) (2 : Int32) q3 _ eq4) vk_X6_value ml_X7_159 rfl rfl ⟨(Nat.le_of_ble_eq_true rfl), (Nat.le_of_ble_eq_true rfl)⟩ (va_recv (q := (RX6, TX6, 5)) hk.1 hP (q0 := 4) (ci := 5) rfl rfl) rfl hl.1 rfl (Nat.le_of_ble_eq_true rfl) dX7_priceOf_47) (fun H locs hP hS => ?_)
  refine lv_bipush (v := 99) hx hb dX7_priceOf_50 kB_99 ?_
  obtain ⟨q5, eq5, hf⟩ := bd_e hf
  refine zki hS (zrS (As := [.int q4.1, .int (99 : Int32)]) (rest := []) okX hx hb hml hown hts hk hP hS (t_X7_within l v N q4.1 (99 : Int32) q4.2 _ eq5) sk_X7_within ml_X7_162 rfl rfl ⟨(Nat.le_of_ble_eq_true rfl), (Nat.le_of_ble_eq_true rfl)⟩ rfl hl.1 rfl (Nat.le_of_ble_eq_true rfl) dX7_priceOf_52) (fun H locs hP hS => ?_)
  exact hret _ _ _ _ _ _ (Or.inl rfl) (Option.some.inj hf) hP hS dX7_priceOf_55
abbrev rm_X7_rowsRefusal : Room := { frames := 3, cells := 0, slots := 0, locals := 101 }
set_option maxRecDepth 100000 in
theorem t_X7_rowsRefusal (l : Launch) (v : Ev) (N : Nat) (a1 : Int32) (g : Sg) (res : Int32 × Sg) (hf : x_X7_rowsRefusal N a1 g = some res) : Ci l yX7_rowsRefusal cX7_rowsRefusal 5 .int rm_X7_rowsRefusal pX v [.ref (zA v 0), .int a1] g res := by
  refine ze_i (by decide +kernel) (Nat.le_of_ble_eq_true rfl) ?_
  intro p e s m args below meth c Q ls hcx hret hP hl
  obtain ⟨hx, hb, hml, hown, hts, hk⟩ := hcx
  have hown : s.vm.findClass RX7 = some m.cls := hown
  have hS : va_S (An nX v) s.heap s.heap [] := va_S.rf
  have hl : lv_has ls 5 [(0, .ref (zA v 0)), (1, .int a1)] := hl
  have wL35 : ∀ (n : Nat) (x : Int32 × Int32 × Int32 × Sg), lp (x_X7_rowsRefusal_B35 N) n x = some res → ∀ (H : Heap) (locs : List Loc) (ls : Array Slot), va_P (zD v) vwCl (pX.1 v x.2.2.2) H → va_S (An nX v) s.heap H locs → lv_has ls 5 [(0, .ref (zA v 0)), (1, .int x.1), (2, .int x.2.1), (3, .int x.2.2.1)] → W p l e rm_X7_rowsRefusal s m args below meth c H locs 0 0 Q (F0 m 35 ls []) := by
    refine lp_w (P := fun x : Int32 × Int32 × Int32 × Sg => ∀ (H : Heap) (locs : List Loc) (ls : Array Slot), va_P (zD v) vwCl (pX.1 v x.2.2.2) H → va_S (An nX v) s.heap H locs → lv_has ls 5 [(0, .ref (zA v 0)), (1, .int x.1), (2, .int x.2.1), (3, .int x.2.2.1)] → W p l e rm_X7_rowsRefusal s m args below meth c H locs 0 0 Q (F0 m 35 ls [])) ?_
    intro h35 hh35 x hf H locs ls hP hS hl
    unfold x_X7_rowsRefusal_B35 at hf
    refine lv_iload_n hx hb dX7_rowsRefusal_35 rfl (lv_at hl 3 rfl) ?_
    refine lv_iconst (v := 1) hx hb dX7_rowsRefusal_36 kI_1 ?_
    refine lv_iadd hx hb dX7_rowsRefusal_37 ?_
    refine lv_iload_n hx hb dX7_rowsRefusal_38 rfl (lv_at hl 2 rfl) ?_
    refine lv_icmp_ge (tgt := 100) hx hb dX7_rowsRefusal_39 (by decide) (fun c6 => ?_) (fun c6 => ?_)
    · have hf := ite_t c6 hf
      refine lv_iconst (v := 0) hx hb dX7_rowsRefusal_100 kI_0 ?_
      exact hret _ _ _ _ _ _ (Or.inl rfl) (Option.some.inj hf) hP hS dX7_rowsRefusal_101
    · have hf := ite_f c6 hf
      refine lv_aload_n hx hb dX7_rowsRefusal_42 rfl (lv_at hl 0 rfl) ?_
      refine va_get (D := zD v) (ci := 6) (v := .ref (zA v 5)) (C := RX7) (T := TX7) (N := 11) hx hb hts iX7 hown hk.1 hP 0 rfl rfl 5 (by decide) (hts _ fl_X7_36) (fun _ h9 => h9) rfl dX7_rowsRefusal_43 ?_
      refine va_get (D := zD v) (ci := 2) (v := .ref (zA v 32)) (C := RX3) (T := TX3) (N := 3) hx hb hts iX3 hown hk.1 hP 5 rfl rfl 2 (by decide) (hts _ fl_X7_212) (fun _ h9 => h9) rfl dX7_rowsRefusal_46 ?_
      refine lv_iload_n hx hb dX7_rowsRefusal_49 rfl (lv_at hl 1 rfl) ?_
      obtain ⟨c7, hf⟩ := gd_e hf
      refine za_ld hx hb hk.1 hP 32 2 rfl rfl (inb_in c7) dX7_rowsRefusal_50 ?_
      refine lv_iload_n hx hb dX7_rowsRefusal_51 rfl (lv_at hl 3 rfl) ?_
      refine lv_iconst (v := 1) hx hb dX7_rowsRefusal_52 kI_1 ?_
      refine lv_iadd hx hb dX7_rowsRefusal_53 ?_
      obtain ⟨c8, hf⟩ := gd_e hf
      refine va_iald hx hb hk.1 hP (33 + (x.1).toNatClampNeg) 0 (zr_at v x.2.2.2 (inb_lt c7)) rfl (inb_in c8) dX7_rowsRefusal_54 ?_
      obtain ⟨x9, ex9, hf⟩ := lt_e hf
      refine lv_nm ex9 ?_
      refine lv_istore (lv' := [(4, .int x9), (0, .ref (zA v 0)), (1, .int x.1), (2, .int x.2.1), (3, .int x.2.2.1)]) hx hb dX7_rowsRefusal_55 hl (by decide) rfl (fun ls hl => ?_)
      refine lv_aload_n hx hb dX7_rowsRefusal_57 rfl (lv_at hl 1 rfl) ?_
      refine va_get (D := zD v) (ci := 6) (v := .ref (zA v 1)) (C := RX7) (T := TX7) (N := 11) hx hb hts iX7 hown hk.1 hP 0 rfl rfl 0 (by decide) (hts _ fl_X7_10) (fun _ h9 => h9) rfl dX7_rowsRefusal_58 ?_
      refine lv_aload_n hx hb dX7_rowsRefusal_61 rfl (lv_at hl 1 rfl) ?_
      refine va_get (D := zD v) (ci := 6) (v := .ref (zA v 5)) (C := RX7) (T := TX7) (N := 11) hx hb hts iX7 hown hk.1 hP 0 rfl rfl 5 (by decide) (hts _ fl_X7_36) (fun _ h9 => h9) rfl dX7_rowsRefusal_62 ?_
      refine va_get (D := zD v) (ci := 2) (v := .ref (zA v 32)) (C := RX3) (T := TX3) (N := 3) hx hb hts iX3 hown hk.1 hP 5 rfl rfl 2 (by decide) (hts _ fl_X7_212) (fun _ h9 => h9) rfl dX7_rowsRefusal_65 ?_
      refine lv_iload_n hx hb dX7_rowsRefusal_68 rfl (lv_at hl 2 rfl) ?_
      obtain ⟨c10, hf⟩ := gd_e hf
      refine za_ld hx hb hk.1 hP 32 2 rfl rfl (inb_in c10) dX7_rowsRefusal_69 ?_
      refine lv_iload_n hx hb dX7_rowsRefusal_70 rfl (lv_at hl 4 rfl) ?_
      obtain ⟨c11, hf⟩ := gd_e hf
      refine va_iald hx hb hk.1 hP (33 + (x.1).toNatClampNeg) 0 (zr_at v x.2.2.2 (inb_lt c10)) rfl (inb_in c11) dX7_rowsRefusal_71 ?_
      obtain ⟨q12, eq12, hf⟩ := bd_e hf
      refine zki hS (zrV (As := [.int (x.2.2.2 (33 + (x.1).toNatClampNeg) (x.2.2.1).toNatClampNeg)]) (rest := []) okX hx hb hml hown hts hk hP hS (t_X5_hasShoe l v N (x.2.2.2 (33 + (x.1).toNatClampNeg) (x.2.2.1).toNatClampNeg) x.2.2.2 _ eq12) vk_X5_hasShoe ml_X7_136 rfl rfl ⟨(Nat.le_of_ble_eq_true rfl), (Nat.le_of_ble_eq_true rfl)⟩ (va_recv (q := (RX5, TX5, 10)) hk.1 hP (q0 := 1) (ci := 4) rfl rfl) rfl hl.1 rfl (Nat.le_of_ble_eq_true rfl) dX7_rowsRefusal_72) (fun H locs hP hS => ?_)
      refine lv_if_eq (tgt := 91) hx hb dX7_rowsRefusal_75 (by decide) (fun c13 => ?_) (fun c13 => ?_)
      · have hf := ite_t c13 hf
        refine lv_bipush (v := -2) hx hb dX7_rowsRefusal_91 kB_m2 ?_
        exact hret _ _ _ _ _ _ (Or.inl rfl) (Option.some.inj hf) hP hS dX7_rowsRefusal_93
      · have hf := ite_f c13 hf
        refine lv_iload hx hb dX7_rowsRefusal_78 (lv_at hl 0 rfl) ?_
        refine lv_bipush (v := -2) hx hb dX7_rowsRefusal_80 kB_m2 ?_
        refine lv_icmp_lt (tgt := 91) hx hb dX7_rowsRefusal_82 (by decide) (fun c14 => ?_) (fun c14 => ?_)
        · have hf := ite_t c14 hf
          refine lv_bipush (v := -2) hx hb dX7_rowsRefusal_91 kB_m2 ?_
          exact hret _ _ _ _ _ _ (Or.inl rfl) (Option.some.inj hf) hP hS dX7_rowsRefusal_93
        · have hf := ite_f c14 hf
          refine lv_iload hx hb dX7_rowsRefusal_85 (lv_at hl 0 rfl) ?_
          refine lv_iconst (v := 2) hx hb dX7_rowsRefusal_87 kI_2 ?_
          refine lv_icmp_le (tgt := 94) hx hb dX7_rowsRefusal_88 (by decide) (fun c15 => ?_) (fun c15 => ?_)
          · have hf := ite_t c15 hf
            obtain ⟨x16, ex16, hf⟩ := lt_e hf
            refine lv_iinc (v := x16) (lv' := [(3, .int x16), (4, .int x9), (0, .ref (zA v 0)), (1, .int x.1), (2, .int x.2.1)]) hx hb dX7_rowsRefusal_94 hl (k := 4) rfl ((congrArg (fun z => x.2.2.1 + z) kI_2).trans ex16.symm) (by decide) rfl (fun ls hl => ?_)
            refine lv_goto (tgt := 35) hx hb dX7_rowsRefusal_97 (by decide) ?_
            exact hh35 (x.1, x.2.1, x16, q12.2) hf _ _ _ hP hS (lv_sub hl [2, 3, 4, 0] rfl)
          · have hf := ite_f c15 hf
            refine lv_bipush (v := -2) hx hb dX7_rowsRefusal_91 kB_m2 ?_
            exact hret _ _ _ _ _ _ (Or.inl rfl) (Option.some.inj hf) hP hS dX7_rowsRefusal_93
  unfold x_X7_rowsRefusal at hf
  refine lv_aload_n hx hb dX7_rowsRefusal_0 rfl (lv_at hl 0 rfl) ?_
  refine va_get (D := zD v) (ci := 6) (v := .ref (zA v 5)) (C := RX7) (T := TX7) (N := 11) hx hb hts iX7 hown hk.1 hP 0 rfl rfl 5 (by decide) (hts _ fl_X7_36) (fun _ h9 => h9) rfl dX7_rowsRefusal_1 ?_
  refine lv_iload_n hx hb dX7_rowsRefusal_4 rfl (lv_at hl 1 rfl) ?_
  obtain ⟨q1, eq1, hf⟩ := bd_e hf
  refine zki hS (zrV (As := [.int a1]) (rest := []) okX hx hb hml hown hts hk hP hS (t_X3_isMissing l v N a1 g _ eq1) vk_X3_isMissing ml_X7_207 rfl rfl ⟨(Nat.le_of_ble_eq_true rfl), (Nat.le_of_ble_eq_true rfl)⟩ (va_recv (q := (RX3, TX3, 3)) hk.1 hP (q0 := 5) (ci := 2) rfl rfl) rfl hl.1 rfl (Nat.le_of_ble_eq_true rfl) dX7_rowsRefusal_5) (fun H locs hP hS => ?_)
  refine lv_if_eq (tgt := 14) hx hb dX7_rowsRefusal_8 (by decide) (fun c2 => ?_) (fun c2 => ?_)
  · have hf := ite_t c2 hf
    refine lv_aload_n hx hb dX7_rowsRefusal_14 rfl (lv_at hl 0 rfl) ?_
    refine va_get (D := zD v) (ci := 6) (v := .ref (zA v 5)) (C := RX7) (T := TX7) (N := 11) hx hb hts iX7 hown hk.1 hP 0 rfl rfl 5 (by decide) (hts _ fl_X7_36) (fun _ h9 => h9) rfl dX7_rowsRefusal_15 ?_
    refine va_get (D := zD v) (ci := 2) (v := .ref (zA v 31)) (C := RX3) (T := TX3) (N := 3) hx hb hts iX3 hown hk.1 hP 5 rfl rfl 1 (by decide) (hts _ fl_X7_210) (fun _ h9 => h9) rfl dX7_rowsRefusal_18 ?_
    refine lv_iload_n hx hb dX7_rowsRefusal_21 rfl (lv_at hl 1 rfl) ?_
    obtain ⟨c3, hf⟩ := gd_e hf
    refine va_iald hx hb hk.1 hP 31 0 rfl rfl (inb_in c3) dX7_rowsRefusal_22 ?_
    obtain ⟨x4, ex4, hf⟩ := lt_e hf
    refine lv_nm ex4 ?_
    refine lv_istore_n (lv' := [(2, .int x4), (0, .ref (zA v 0)), (1, .int a1)]) hx hb dX7_rowsRefusal_23 rfl hl (by decide) rfl (fun ls hl => ?_)
    refine lv_iload_n hx hb dX7_rowsRefusal_24 rfl (lv_at hl 0 rfl) ?_
    refine lv_iconst (v := 2) hx hb dX7_rowsRefusal_25 kI_2 ?_
    refine lv_irem hx hb dX7_rowsRefusal_26 kz_2 ?_
    refine lv_nm (z := (rmI x4 (2 : Int32))) rfl ?_
    refine lv_if_eq (tgt := 33) hx hb dX7_rowsRefusal_27 (by decide) (fun c5 => ?_) (fun c5 => ?_)
    · have hf := ite_t c5 hf
      refine lv_iconst (v := 0) hx hb dX7_rowsRefusal_33 kI_0 ?_
      refine lv_istore_n (lv' := [(3, .int (0 : Int32)), (2, .int x4), (0, .ref (zA v 0)), (1, .int a1)]) hx hb dX7_rowsRefusal_34 rfl hl (by decide) rfl (fun ls hl => ?_)
      exact wL35 N (a1, x4, (0 : Int32), q1.2) hf _ _ _ hP hS (lv_sub hl [2, 3, 1, 0] rfl)
    · have hf := ite_f c5 hf
      refine lv_bipush (v := -2) hx hb dX7_rowsRefusal_30 kB_m2 ?_
      exact hret _ _ _ _ _ _ (Or.inl rfl) (Option.some.inj hf) hP hS dX7_rowsRefusal_32
  · have hf := ite_f c2 hf
    refine lv_bipush (v := -11) hx hb dX7_rowsRefusal_11 kB_m11 ?_
    exact hret _ _ _ _ _ _ (Or.inl rfl) (Option.some.inj hf) hP hS dX7_rowsRefusal_13
abbrev rm_X7_narrowByRows : Room := { frames := 6, cells := 0, slots := 0, locals := 172 }
set_option maxRecDepth 100000 in
theorem t_X7_narrowByRows (l : Launch) (v : Ev) (N : Nat) (a1 : Int32) (g : Sg) (res : Sg) (hf : x_X7_narrowByRows N a1 g = some res) : Cv l yX7_narrowByRows cX7_narrowByRows 3 rm_X7_narrowByRows pX v [.ref (zA v 0), .int a1] g res := by
  refine ze_v (by decide +kernel) (Nat.le_of_ble_eq_true rfl) ?_
  intro p e s m args below meth c Q ls hcx hret hP hl
  obtain ⟨hx, hb, hml, hown, hts, hk⟩ := hcx
  have hown : s.vm.findClass RX7 = some m.cls := hown
  have hS : va_S (An nX v) s.heap s.heap [] := va_S.rf
  have hl : lv_has ls 3 [(0, .ref (zA v 0)), (1, .int a1)] := hl
  have wL9 : ∀ (n : Nat) (x : Int32 × Int32 × Sg), lp (x_X7_narrowByRows_B9 N) n x = some res → ∀ (H : Heap) (locs : List Loc) (ls : Array Slot), va_P (zD v) vwCl (pX.1 v x.2.2) H → va_S (An nX v) s.heap H locs → lv_has ls 3 [(0, .ref (zA v 0)), (1, .int x.1), (2, .int x.2.1)] → W p l e rm_X7_narrowByRows s m args below meth c H locs 0 0 Q (F0 m 9 ls []) := by
    refine lp_w (P := fun x : Int32 × Int32 × Sg => ∀ (H : Heap) (locs : List Loc) (ls : Array Slot), va_P (zD v) vwCl (pX.1 v x.2.2) H → va_S (An nX v) s.heap H locs → lv_has ls 3 [(0, .ref (zA v 0)), (1, .int x.1), (2, .int x.2.1)] → W p l e rm_X7_narrowByRows s m args below meth c H locs 0 0 Q (F0 m 9 ls [])) ?_
    intro h9 hh9 x hf H locs ls hP hS hl
    unfold x_X7_narrowByRows_B9 at hf
    refine lv_iload_n hx hb dX7_narrowByRows_9 rfl (lv_at hl 2 rfl) ?_
    refine lv_iconst (v := 1) hx hb dX7_narrowByRows_10 kI_1 ?_
    refine lv_iadd hx hb dX7_narrowByRows_11 ?_
    refine lv_aload_n hx hb dX7_narrowByRows_12 rfl (lv_at hl 0 rfl) ?_
    refine va_get (D := zD v) (ci := 6) (v := .ref (zA v 5)) (C := RX7) (T := TX7) (N := 11) hx hb hts iX7 hown hk.1 hP 0 rfl rfl 5 (by decide) (hts _ fl_X7_36) (fun _ h9 => h9) rfl dX7_narrowByRows_13 ?_
    refine va_get (D := zD v) (ci := 2) (v := .ref (zA v 31)) (C := RX3) (T := TX3) (N := 3) hx hb hts iX3 hown hk.1 hP 5 rfl rfl 1 (by decide) (hts _ fl_X7_210) (fun _ h9 => h9) rfl dX7_narrowByRows_16 ?_
    refine lv_iload_n hx hb dX7_narrowByRows_19 rfl (lv_at hl 1 rfl) ?_
    obtain ⟨c2, hf⟩ := gd_e hf
    refine va_iald hx hb hk.1 hP 31 0 rfl rfl (inb_in c2) dX7_narrowByRows_20 ?_
    refine lv_icmp_ge (tgt := 65) hx hb dX7_narrowByRows_21 (by decide) (fun c3 => ?_) (fun c3 => ?_)
    · have hf := ite_t c3 hf
      exact hret _ _ _ _ _ (Option.some.inj hf) hP hS dX7_narrowByRows_65
    · have hf := ite_f c3 hf
      refine lv_aload_n hx hb dX7_narrowByRows_24 rfl (lv_at hl 0 rfl) ?_
      refine va_get (D := zD v) (ci := 6) (v := .ref (zA v 6)) (C := RX7) (T := TX7) (N := 11) hx hb hts iX7 hown hk.1 hP 0 rfl rfl 6 (by decide) (hts _ fl_X7_43) (fun _ h9 => h9) rfl dX7_narrowByRows_25 ?_
      refine lv_aload_n hx hb dX7_narrowByRows_28 rfl (lv_at hl 0 rfl) ?_
      refine va_get (D := zD v) (ci := 6) (v := .ref (zA v 1)) (C := RX7) (T := TX7) (N := 11) hx hb hts iX7 hown hk.1 hP 0 rfl rfl 0 (by decide) (hts _ fl_X7_10) (fun _ h9 => h9) rfl dX7_narrowByRows_29 ?_
      refine lv_aload_n hx hb dX7_narrowByRows_32 rfl (lv_at hl 0 rfl) ?_
      refine va_get (D := zD v) (ci := 6) (v := .ref (zA v 5)) (C := RX7) (T := TX7) (N := 11) hx hb hts iX7 hown hk.1 hP 0 rfl rfl 5 (by decide) (hts _ fl_X7_36) (fun _ h9 => h9) rfl dX7_narrowByRows_33 ?_
      refine va_get (D := zD v) (ci := 2) (v := .ref (zA v 32)) (C := RX3) (T := TX3) (N := 3) hx hb hts iX3 hown hk.1 hP 5 rfl rfl 2 (by decide) (hts _ fl_X7_212) (fun _ h9 => h9) rfl dX7_narrowByRows_36 ?_
      refine lv_iload_n hx hb dX7_narrowByRows_39 rfl (lv_at hl 1 rfl) ?_
      obtain ⟨c4, hf⟩ := gd_e hf
      refine za_ld hx hb hk.1 hP 32 2 rfl rfl (inb_in c4) dX7_narrowByRows_40 ?_
      refine lv_iload_n hx hb dX7_narrowByRows_41 rfl (lv_at hl 2 rfl) ?_
      obtain ⟨c5, hf⟩ := gd_e hf
      refine va_iald hx hb hk.1 hP (33 + (x.1).toNatClampNeg) 0 (zr_at v x.2.2 (inb_lt c4)) rfl (inb_in c5) dX7_narrowByRows_42 ?_
      refine lv_aload_n hx hb dX7_narrowByRows_43 rfl (lv_at hl 0 rfl) ?_
      refine va_get (D := zD v) (ci := 6) (v := .ref (zA v 5)) (C := RX7) (T := TX7) (N := 11) hx hb hts iX7 hown hk.1 hP 0 rfl rfl 5 (by decide) (hts _ fl_X7_36) (fun _ h9 => h9) rfl dX7_narrowByRows_44 ?_
      refine va_get (D := zD v) (ci := 2) (v := .ref (zA v 32)) (C := RX3) (T := TX3) (N := 3) hx hb hts iX3 hown hk.1 hP 5 rfl rfl 2 (by decide) (hts _ fl_X7_212) (fun _ h9 => h9) rfl dX7_narrowByRows_47 ?_
      refine lv_iload_n hx hb dX7_narrowByRows_50 rfl (lv_at hl 1 rfl) ?_
      obtain ⟨c6, hf⟩ := gd_e hf
      refine za_ld hx hb hk.1 hP 32 2 rfl rfl (inb_in c6) dX7_narrowByRows_51 ?_
      refine lv_iload_n hx hb dX7_narrowByRows_52 rfl (lv_at hl 2 rfl) ?_
      refine lv_iconst (v := 1) hx hb dX7_narrowByRows_53 kI_1 ?_
      refine lv_iadd hx hb dX7_narrowByRows_54 ?_
      obtain ⟨c7, hf⟩ := gd_e hf
      refine va_iald hx hb hk.1 hP (33 + (x.1).toNatClampNeg) 0 (zr_at v x.2.2 (inb_lt c6)) rfl (inb_in c7) dX7_narrowByRows_55 ?_
      obtain ⟨q8, eq8, hf⟩ := bd_e hf
      refine zkv hS (zrV (As := [.ref (zA v 1), .int (x.2.2 (33 + (x.1).toNatClampNeg) (x.2.1).toNatClampNeg), .int (x.2.2 (33 + (x.1).toNatClampNeg) ((x.2.1 + (1 : Int32))).toNatClampNeg)]) (rest := []) okX hx hb hml hown hts hk hP hS (t_X4_narrow l v N (x.2.2 (33 + (x.1).toNatClampNeg) (x.2.1).toNatClampNeg) (x.2.2 (33 + (x.1).toNatClampNeg) ((x.2.1 + (1 : Int32))).toNatClampNeg) x.2.2 _ eq8) vk_X4_narrow ml_X7_219 rfl rfl ⟨(Nat.le_of_ble_eq_true rfl), (Nat.le_of_ble_eq_true rfl)⟩ (va_recv (q := (RX4, TX4, 2)) hk.1 hP (q0 := 6) (ci := 3) rfl rfl) rfl hl.1 rfl (Nat.le_of_ble_eq_true rfl) dX7_narrowByRows_56) (fun H locs hP hS => ?_)
      obtain ⟨x9, ex9, hf⟩ := lt_e hf
      refine lv_iinc (v := x9) (lv' := [(2, .int x9), (0, .ref (zA v 0)), (1, .int x.1)]) hx hb dX7_narrowByRows_59 hl (k := 2) rfl ((congrArg (fun z => x.2.1 + z) kI_2).trans ex9.symm) (by decide) rfl (fun ls hl => ?_)
      refine lv_goto (tgt := 9) hx hb dX7_narrowByRows_62 (by decide) ?_
      exact hh9 (x.1, x9, q8) hf _ _ _ hP hS (lv_sub hl [1, 2, 0] rfl)
  unfold x_X7_narrowByRows at hf
  refine lv_aload_n hx hb dX7_narrowByRows_0 rfl (lv_at hl 0 rfl) ?_
  refine va_get (D := zD v) (ci := 6) (v := .ref (zA v 6)) (C := RX7) (T := TX7) (N := 11) hx hb hts iX7 hown hk.1 hP 0 rfl rfl 6 (by decide) (hts _ fl_X7_43) (fun _ h9 => h9) rfl dX7_narrowByRows_1 ?_
  obtain ⟨q1, eq1, hf⟩ := bd_e hf
  refine zkv hS (zrV (As := []) (rest := []) okX hx hb hml hown hts hk hP hS (t_X4_widen l v N g _ eq1) vk_X4_widen ml_X7_216 rfl rfl ⟨(Nat.le_of_ble_eq_true rfl), (Nat.le_of_ble_eq_true rfl)⟩ (va_recv (q := (RX4, TX4, 2)) hk.1 hP (q0 := 6) (ci := 3) rfl rfl) rfl hl.1 rfl (Nat.le_of_ble_eq_true rfl) dX7_narrowByRows_4) (fun H locs hP hS => ?_)
  refine lv_iconst (v := 0) hx hb dX7_narrowByRows_7 kI_0 ?_
  refine lv_istore_n (lv' := [(2, .int (0 : Int32)), (0, .ref (zA v 0)), (1, .int a1)]) hx hb dX7_narrowByRows_8 rfl hl (by decide) rfl (fun ls hl => ?_)
  exact wL9 N (a1, (0 : Int32), q1) hf _ _ _ hP hS (lv_sub hl [1, 2, 0] rfl)
abbrev rm_X7_canBe : Room := { frames := 7, cells := 0, slots := 0, locals := 194 }
set_option maxRecDepth 100000 in
theorem t_X7_canBe (l : Launch) (v : Ev) (N : Nat) (a1 : Int32) (a2 : Int32) (g : Sg) (res : Int32 × Sg) (hf : x_X7_canBe N a1 a2 g = some res) : Ci l yX7_canBe cX7_canBe 4 .int rm_X7_canBe pX v [.ref (zA v 0), .int a1, .int a2] g res := by
  refine ze_i (by decide +kernel) (Nat.le_of_ble_eq_true rfl) ?_
  intro p e s m args below meth c Q ls hcx hret hP hl
  obtain ⟨hx, hb, hml, hown, hts, hk⟩ := hcx
  have hown : s.vm.findClass RX7 = some m.cls := hown
  have hS : va_S (An nX v) s.heap s.heap [] := va_S.rf
  have hl : lv_has ls 4 [(0, .ref (zA v 0)), (1, .int a1), (2, .int a2)] := hl
  unfold x_X7_canBe at hf
  refine lv_iload_n hx hb dX7_canBe_0 rfl (lv_at hl 1 rfl) ?_
  obtain ⟨q1, eq1, hf⟩ := bd_e hf
  refine zki hS (zrS (As := [.int a1]) (rest := []) okX hx hb hml hown hts hk hP hS (t_X3_isOne l v N a1 g _ eq1) sk_X3_isOne ml_X7_173 rfl rfl ⟨(Nat.le_of_ble_eq_true rfl), (Nat.le_of_ble_eq_true rfl)⟩ rfl hl.1 rfl (Nat.le_of_ble_eq_true rfl) dX7_canBe_1) (fun H locs hP hS => ?_)
  refine lv_if_eq (tgt := 16) hx hb dX7_canBe_4 (by decide) (fun c2 => ?_) (fun c2 => ?_)
  · have hf := ite_t c2 hf
    refine lv_bipush (v := -2) hx hb dX7_canBe_16 kB_m2 ?_
    exact hret _ _ _ _ _ _ (Or.inl rfl) (Option.some.inj hf) hP hS dX7_canBe_18
  · have hf := ite_f c2 hf
    refine lv_iload_n hx hb dX7_canBe_7 rfl (lv_at hl 2 rfl) ?_
    refine lv_if_lt (tgt := 16) hx hb dX7_canBe_8 (by decide) (fun c3 => ?_) (fun c3 => ?_)
    · have hf := ite_t c3 hf
      refine lv_bipush (v := -2) hx hb dX7_canBe_16 kB_m2 ?_
      exact hret _ _ _ _ _ _ (Or.inl rfl) (Option.some.inj hf) hP hS dX7_canBe_18
    · have hf := ite_f c3 hf
      refine lv_iload_n hx hb dX7_canBe_11 rfl (lv_at hl 2 rfl) ?_
      refine lv_iconst (v := 2) hx hb dX7_canBe_12 kI_2 ?_
      refine lv_icmp_le (tgt := 19) hx hb dX7_canBe_13 (by decide) (fun c4 => ?_) (fun c4 => ?_)
      · have hf := ite_t c4 hf
        refine lv_aload_n hx hb dX7_canBe_19 rfl (lv_at hl 0 rfl) ?_
        refine lv_iload_n hx hb dX7_canBe_20 rfl (lv_at hl 1 rfl) ?_
        obtain ⟨q5, eq5, hf⟩ := bd_e hf
        refine zki hS (zrV (As := [.int a1]) (rest := []) okX hx hb hml hown hts hk hP hS (t_X7_rowsRefusal l v N a1 q1.2 _ eq5) vk_X7_rowsRefusal ml_X7_176 rfl rfl ⟨(Nat.le_of_ble_eq_true rfl), (Nat.le_of_ble_eq_true rfl)⟩ (va_recv (q := (RX7, TX7, 11)) hk.1 hP (q0 := 0) (ci := 6) rfl rfl) rfl hl.1 rfl (Nat.le_of_ble_eq_true rfl) dX7_canBe_21) (fun H locs hP hS => ?_)
        refine lv_istore_n (lv' := [(3, .int q5.1), (0, .ref (zA v 0)), (1, .int a1), (2, .int a2)]) hx hb dX7_canBe_24 rfl hl (by decide) rfl (fun ls hl => ?_)
        refine lv_iload_n hx hb dX7_canBe_25 rfl (lv_at hl 0 rfl) ?_
        refine lv_if_eq (tgt := 31) hx hb dX7_canBe_26 (by decide) (fun c6 => ?_) (fun c6 => ?_)
        · have hf := ite_t c6 hf
          refine lv_aload_n hx hb dX7_canBe_31 rfl (lv_at hl 1 rfl) ?_
          refine lv_iload_n hx hb dX7_canBe_32 rfl (lv_at hl 2 rfl) ?_
          obtain ⟨q7, eq7, hf⟩ := bd_e hf
          refine zkv hS (zrV (As := [.int a1]) (rest := []) okX hx hb hml hown hts hk hP hS (t_X7_narrowByRows l v N a1 q5.2 _ eq7) vk_X7_narrowByRows ml_X7_179 rfl rfl ⟨(Nat.le_of_ble_eq_true rfl), (Nat.le_of_ble_eq_true rfl)⟩ (va_recv (q := (RX7, TX7, 11)) hk.1 hP (q0 := 0) (ci := 6) rfl rfl) rfl hl.1 rfl (Nat.le_of_ble_eq_true rfl) dX7_canBe_33) (fun H locs hP hS => ?_)
          refine lv_iload_n hx hb dX7_canBe_36 rfl (lv_at hl 3 rfl) ?_
          refine lv_if_ne (tgt := 48) hx hb dX7_canBe_37 (by decide) (fun c8 => ?_) (fun c8 => ?_)
          · have hf := ite_f c8 hf
            refine lv_aload_n hx hb dX7_canBe_48 rfl (lv_at hl 1 rfl) ?_
            refine va_get (D := zD v) (ci := 6) (v := .ref (zA v 6)) (C := RX7) (T := TX7) (N := 11) hx hb hts iX7 hown hk.1 hP 0 rfl rfl 6 (by decide) (hts _ fl_X7_43) (fun _ h9 => h9) rfl dX7_canBe_49 ?_
            obtain ⟨q9, eq9, hf⟩ := bd_e hf
            refine zki hS (zrV (As := []) (rest := []) okX hx hb hml hown hts hk hP hS (t_X4_size l v N q7 _ eq9) vk_X4_size ml_X7_183 rfl rfl ⟨(Nat.le_of_ble_eq_true rfl), (Nat.le_of_ble_eq_true rfl)⟩ (va_recv (q := (RX4, TX4, 2)) hk.1 hP (q0 := 6) (ci := 3) rfl rfl) rfl hl.1 rfl (Nat.le_of_ble_eq_true rfl) dX7_canBe_52) (fun H locs hP hS => ?_)
            refine lv_if_ne (tgt := 60) hx hb dX7_canBe_55 (by decide) (fun c10 => ?_) (fun c10 => ?_)
            · have hf := ite_f c10 hf
              refine lv_iload_n hx hb dX7_canBe_60 rfl (lv_at hl 3 rfl) ?_
              refine lv_iconst (v := 1) hx hb dX7_canBe_61 kI_1 ?_
              refine lv_icmp_ne (tgt := 75) hx hb dX7_canBe_62 (by decide) (fun c11 => ?_) (fun c11 => ?_)
              · have hf := ite_f c11 hf
                refine lv_aload_n hx hb dX7_canBe_75 rfl (lv_at hl 1 rfl) ?_
                refine va_get (D := zD v) (ci := 6) (v := .ref (zA v 6)) (C := RX7) (T := TX7) (N := 11) hx hb hts iX7 hown hk.1 hP 0 rfl rfl 6 (by decide) (hts _ fl_X7_43) (fun _ h9 => h9) rfl dX7_canBe_76 ?_
                refine va_get (D := zD v) (ci := 3) (v := .int (q9.2 6 1)) (C := RX4) (T := TX4) (N := 2) hx hb hts iX4 hown hk.1 hP 6 rfl rfl 1 (by decide) (hts _ fl_X7_189) (fun _ h9 => h9) rfl dX7_canBe_79 ?_
                exact hret _ _ _ _ _ _ (Or.inl rfl) (Option.some.inj hf) hP hS dX7_canBe_82
              · have hf := ite_t c11 hf
                refine lv_aload_n hx hb dX7_canBe_65 rfl (lv_at hl 1 rfl) ?_
                refine va_get (D := zD v) (ci := 6) (v := .ref (zA v 6)) (C := RX7) (T := TX7) (N := 11) hx hb hts iX7 hown hk.1 hP 0 rfl rfl 6 (by decide) (hts _ fl_X7_43) (fun _ h9 => h9) rfl dX7_canBe_66 ?_
                refine va_get (D := zD v) (ci := 3) (v := .int (q9.2 6 0)) (C := RX4) (T := TX4) (N := 2) hx hb hts iX4 hown hk.1 hP 6 rfl rfl 0 (by decide) (hts _ fl_X7_186) (fun _ h9 => h9) rfl dX7_canBe_69 ?_
                refine lv_goto (tgt := 82) hx hb dX7_canBe_72 (by decide) ?_
                exact hret _ _ _ _ _ _ (Or.inl rfl) (Option.some.inj hf) hP hS dX7_canBe_82
            · have hf := ite_t c10 hf
              refine lv_iconst (v := -1) hx hb dX7_canBe_58 kI_m1 ?_
              exact hret _ _ _ _ _ _ (Or.inl rfl) (Option.some.inj hf) hP hS dX7_canBe_59
          · have hf := ite_t c8 hf
            refine lv_aload_n hx hb dX7_canBe_40 rfl (lv_at hl 1 rfl) ?_
            refine va_get (D := zD v) (ci := 6) (v := .ref (zA v 6)) (C := RX7) (T := TX7) (N := 11) hx hb hts iX7 hown hk.1 hP 0 rfl rfl 6 (by decide) (hts _ fl_X7_43) (fun _ h9 => h9) rfl dX7_canBe_41 ?_
            obtain ⟨q12, eq12, hf⟩ := bd_e hf
            refine zki hS (zrV (As := []) (rest := []) okX hx hb hml hown hts hk hP hS (t_X4_size l v N q7 _ eq12) vk_X4_size ml_X7_183 rfl rfl ⟨(Nat.le_of_ble_eq_true rfl), (Nat.le_of_ble_eq_true rfl)⟩ (va_recv (q := (RX4, TX4, 2)) hk.1 hP (q0 := 6) (ci := 3) rfl rfl) rfl hl.1 rfl (Nat.le_of_ble_eq_true rfl) dX7_canBe_44) (fun H locs hP hS => ?_)
            exact hret _ _ _ _ _ _ (Or.inl rfl) (Option.some.inj hf) hP hS dX7_canBe_47
        · have hf := ite_f c6 hf
          refine lv_iload_n hx hb dX7_canBe_29 rfl (lv_at hl 0 rfl) ?_
          exact hret _ _ _ _ _ _ (Or.inl rfl) (Option.some.inj hf) hP hS dX7_canBe_30
      · have hf := ite_f c4 hf
        refine lv_bipush (v := -2) hx hb dX7_canBe_16 kB_m2 ?_
        exact hret _ _ _ _ _ _ (Or.inl rfl) (Option.some.inj hf) hP hS dX7_canBe_18
abbrev rm_X7_chooseNext : Room := { frames := 5, cells := 0, slots := 0, locals := 155 }
set_option maxRecDepth 100000 in
theorem t_X7_chooseNext (l : Launch) (v : Ev) (N : Nat) (g : Sg) (res : Sg) (hf : x_X7_chooseNext N g = some res) : Cv l yX7_chooseNext cX7_chooseNext 2 rm_X7_chooseNext pX v [.ref (zA v 0)] g res := by
  refine ze_v (by decide +kernel) (Nat.le_of_ble_eq_true rfl) ?_
  intro p e s m args below meth c Q ls hcx hret hP hl
  obtain ⟨hx, hb, hml, hown, hts, hk⟩ := hcx
  have hown : s.vm.findClass RX7 = some m.cls := hown
  have hS : va_S (An nX v) s.heap s.heap [] := va_S.rf
  have hl : lv_has ls 2 [(0, .ref (zA v 0))] := hl
  have wb51 : ∀ (h9 : Int32 × Sg → Option (Sg)) (hh9 : ∀ x : Int32 × Sg, h9 x = some res → ∀ (H : Heap) (locs : List Loc) (ls : Array Slot), va_P (zD v) vwCl (pX.1 v x.2) H → va_S (An nX v) s.heap H locs → lv_has ls 2 [(0, .ref (zA v 0)), (1, .int x.1)] → W p l e rm_X7_chooseNext s m args below meth c H locs 0 0 Q (F0 m 9 ls [])) (y1 : Int32) (g : Sg) (hf : x_X7_chooseNext_b51 N h9 y1 g = some res) (H : Heap) (locs : List Loc) (ls : Array Slot) (hP : va_P (zD v) vwCl (pX.1 v g) H) (hS : va_S (An nX v) s.heap H locs) (hl : lv_has ls 2 [(0, .ref (zA v 0)), (1, .int y1)]), W p l e rm_X7_chooseNext s m args below meth c H locs 0 0 Q (F0 m 51 ls []) := by
    intro h9 hh9 y1 g hf H locs ls hP hS hl
    unfold x_X7_chooseNext_b51 at hf
    obtain ⟨x6, ex6, hf⟩ := lt_e hf
    refine lv_iinc (v := x6) (lv' := [(1, .int x6), (0, .ref (zA v 0))]) hx hb dX7_chooseNext_51 hl (k := 1) rfl ((congrArg (fun z => y1 + z) kI_1).trans ex6.symm) (by decide) rfl (fun ls hl => ?_)
    refine lv_goto (tgt := 9) hx hb dX7_chooseNext_54 (by decide) ?_
    exact hh9 (x6, g) hf _ _ _ hP hS (lv_sub hl [1, 0] rfl)
  have wL9 : ∀ (n : Nat) (x : Int32 × Sg), lp (x_X7_chooseNext_B9 N) n x = some res → ∀ (H : Heap) (locs : List Loc) (ls : Array Slot), va_P (zD v) vwCl (pX.1 v x.2) H → va_S (An nX v) s.heap H locs → lv_has ls 2 [(0, .ref (zA v 0)), (1, .int x.1)] → W p l e rm_X7_chooseNext s m args below meth c H locs 0 0 Q (F0 m 9 ls []) := by
    refine lp_w (P := fun x : Int32 × Sg => ∀ (H : Heap) (locs : List Loc) (ls : Array Slot), va_P (zD v) vwCl (pX.1 v x.2) H → va_S (An nX v) s.heap H locs → lv_has ls 2 [(0, .ref (zA v 0)), (1, .int x.1)] → W p l e rm_X7_chooseNext s m args below meth c H locs 0 0 Q (F0 m 9 ls [])) ?_
    intro h9 hh9 x hf H locs ls hP hS hl
    unfold x_X7_chooseNext_B9 at hf
    refine lv_iload_n hx hb dX7_chooseNext_9 rfl (lv_at hl 1 rfl) ?_
    refine lv_aload_n hx hb dX7_chooseNext_10 rfl (lv_at hl 0 rfl) ?_
    refine va_get (D := zD v) (ci := 6) (v := .ref (zA v 1)) (C := RX7) (T := TX7) (N := 11) hx hb hts iX7 hown hk.1 hP 0 rfl rfl 0 (by decide) (hts _ fl_X7_10) (fun _ h9 => h9) rfl dX7_chooseNext_11 ?_
    obtain ⟨q2, eq2, hf⟩ := bd_e hf
    refine zki hS (zrV (As := []) (rest := [.int x.1]) okX hx hb hml hown hts hk hP hS (t_X5_shoes l v N x.2 _ eq2) vk_X5_shoes ml_X7_226 rfl rfl ⟨(Nat.le_of_ble_eq_true rfl), (Nat.le_of_ble_eq_true rfl)⟩ (va_recv (q := (RX5, TX5, 10)) hk.1 hP (q0 := 1) (ci := 4) rfl rfl) rfl hl.1 rfl (Nat.le_of_ble_eq_true rfl) dX7_chooseNext_14) (fun H locs hP hS => ?_)
    refine lv_icmp_ge (tgt := 57) hx hb dX7_chooseNext_17 (by decide) (fun c3 => ?_) (fun c3 => ?_)
    · have hf := ite_t c3 hf
      exact hret _ _ _ _ _ (Option.some.inj hf) hP hS dX7_chooseNext_57
    · have hf := ite_f c3 hf
      refine lv_aload_n hx hb dX7_chooseNext_20 rfl (lv_at hl 0 rfl) ?_
      refine va_get (D := zD v) (ci := 6) (v := .ref (zA v 1)) (C := RX7) (T := TX7) (N := 11) hx hb hts iX7 hown hk.1 hP 0 rfl rfl 0 (by decide) (hts _ fl_X7_10) (fun _ h9 => h9) rfl dX7_chooseNext_21 ?_
      refine lv_iload_n hx hb dX7_chooseNext_24 rfl (lv_at hl 1 rfl) ?_
      obtain ⟨q4, eq4, hf⟩ := bd_e hf
      refine zki hS (zrV (As := [.int x.1]) (rest := []) okX hx hb hml hown hts hk hP hS (t_X5_stocks l v N x.1 q2.2 _ eq4) vk_X5_stocks ml_X7_229 rfl rfl ⟨(Nat.le_of_ble_eq_true rfl), (Nat.le_of_ble_eq_true rfl)⟩ (va_recv (q := (RX5, TX5, 10)) hk.1 hP (q0 := 1) (ci := 4) rfl rfl) rfl hl.1 rfl (Nat.le_of_ble_eq_true rfl) dX7_chooseNext_25) (fun H locs hP hS => ?_)
      refine lv_if_eq (tgt := 51) hx hb dX7_chooseNext_28 (by decide) (fun c5 => ?_) (fun c5 => ?_)
      · have hf := ite_t c5 hf
        exact wb51 h9 hh9 x.1 q4.2 hf _ _ _ hP hS (lv_sub hl [0, 1] rfl)
      · have hf := ite_f c5 hf
        refine lv_aload_n hx hb dX7_chooseNext_31 rfl (lv_at hl 0 rfl) ?_
        refine va_get (D := zD v) (ci := 6) (v := .ref (zA v 7)) (C := RX7) (T := TX7) (N := 11) hx hb hts iX7 hown hk.1 hP 0 rfl rfl 8 (by decide) (hts _ fl_X7_54) (fun _ h9 => h9) rfl dX7_chooseNext_32 ?_
        refine lv_iload_n hx hb dX7_chooseNext_35 rfl (lv_at hl 1 rfl) ?_
        refine lv_aload_n hx hb dX7_chooseNext_36 rfl (lv_at hl 0 rfl) ?_
        refine va_get (D := zD v) (ci := 6) (v := .ref (zA v 6)) (C := RX7) (T := TX7) (N := 11) hx hb hts iX7 hown hk.1 hP 0 rfl rfl 6 (by decide) (hts _ fl_X7_43) (fun _ h9 => h9) rfl dX7_chooseNext_37 ?_
        refine lv_aload_n hx hb dX7_chooseNext_40 rfl (lv_at hl 0 rfl) ?_
        refine va_get (D := zD v) (ci := 6) (v := .ref (zA v 1)) (C := RX7) (T := TX7) (N := 11) hx hb hts iX7 hown hk.1 hP 0 rfl rfl 0 (by decide) (hts _ fl_X7_10) (fun _ h9 => h9) rfl dX7_chooseNext_41 ?_
        refine lv_iload_n hx hb dX7_chooseNext_44 rfl (lv_at hl 1 rfl) ?_
        obtain ⟨q7, eq7, hf⟩ := bd_e hf
        refine zki hS (zrV (As := [.ref (zA v 1), .int x.1]) (rest := [.int x.1, .ref (zA v 7)]) okX hx hb hml hown hts hk hP hS (t_X4_mostAlike l v N x.1 q4.2 _ eq7) vk_X4_mostAlike ml_X7_232 rfl rfl ⟨(Nat.le_of_ble_eq_true rfl), (Nat.le_of_ble_eq_true rfl)⟩ (va_recv (q := (RX4, TX4, 2)) hk.1 hP (q0 := 6) (ci := 3) rfl rfl) rfl hl.1 rfl (Nat.le_of_ble_eq_true rfl) dX7_chooseNext_45) (fun H locs hP hS => ?_)
        obtain ⟨q8, eq8, hf⟩ := bd_e hf
        refine zkv hS (zrV (As := [.int x.1, .int q7.1]) (rest := []) okX hx hb hml hown hts hk hP hS (t_X1_offer_7 l v N x.1 q7.1 q7.2 _ eq8) vk_X1_offer ml_X7_236 rfl rfl ⟨(Nat.le_of_ble_eq_true rfl), (Nat.le_of_ble_eq_true rfl)⟩ (va_recv (q := (RX1, TX1, 2)) hk.1 hP (q0 := 7) (ci := 0) rfl rfl) rfl hl.1 rfl (Nat.le_of_ble_eq_true rfl) dX7_chooseNext_48) (fun H locs hP hS => ?_)
        exact wb51 h9 hh9 x.1 q8 hf _ _ _ hP hS (lv_sub hl [0, 1] rfl)
  unfold x_X7_chooseNext at hf
  refine lv_aload_n hx hb dX7_chooseNext_0 rfl (lv_at hl 0 rfl) ?_
  refine va_get (D := zD v) (ci := 6) (v := .ref (zA v 7)) (C := RX7) (T := TX7) (N := 11) hx hb hts iX7 hown hk.1 hP 0 rfl rfl 8 (by decide) (hts _ fl_X7_54) (fun _ h9 => h9) rfl dX7_chooseNext_1 ?_
  obtain ⟨q1, eq1, hf⟩ := bd_e hf
  refine zkv hS (zrV (As := []) (rest := []) okX hx hb hml hown hts hk hP hS (t_X1_clear_7 l v N g _ eq1) vk_X1_clear ml_X7_223 rfl rfl ⟨(Nat.le_of_ble_eq_true rfl), (Nat.le_of_ble_eq_true rfl)⟩ (va_recv (q := (RX1, TX1, 2)) hk.1 hP (q0 := 7) (ci := 0) rfl rfl) rfl hl.1 rfl (Nat.le_of_ble_eq_true rfl) dX7_chooseNext_4) (fun H locs hP hS => ?_)
  refine lv_iconst (v := 0) hx hb dX7_chooseNext_7 kI_0 ?_
  refine lv_istore_n (lv' := [(1, .int (0 : Int32)), (0, .ref (zA v 0))]) hx hb dX7_chooseNext_8 rfl hl (by decide) rfl (fun ls hl => ?_)
  exact wL9 N ((0 : Int32), q1) hf _ _ _ hP hS (lv_sub hl [1, 0] rfl)
abbrev rm_X7_fetch : Room := { frames := 7, cells := 0, slots := 0, locals := 194 }
set_option maxRecDepth 100000 in
theorem t_X7_fetch (l : Launch) (v : Ev) (N : Nat) (a1 : Int32) (a2 : Int32) (g : Sg) (res : Int32 × Sg) (hf : x_X7_fetch N a1 a2 g = some res) : Ci l yX7_fetch cX7_fetch 4 .int rm_X7_fetch pX v [.ref (zA v 0), .int a1, .int a2] g res := by
  refine ze_i (by decide +kernel) (Nat.le_of_ble_eq_true rfl) ?_
  intro p e s m args below meth c Q ls hcx hret hP hl
  obtain ⟨hx, hb, hml, hown, hts, hk⟩ := hcx
  have hown : s.vm.findClass RX7 = some m.cls := hown
  have hS : va_S (An nX v) s.heap s.heap [] := va_S.rf
  have hl : lv_has ls 4 [(0, .ref (zA v 0)), (1, .int a1), (2, .int a2)] := hl
  have wb67 : ∀ (g : Sg) (hf : x_X7_fetch_b67 N g = some res) (H : Heap) (locs : List Loc) (ls : Array Slot) (hP : va_P (zD v) vwCl (pX.1 v g) H) (hS : va_S (An nX v) s.heap H locs) (hl : lv_has ls 4 [(0, .ref (zA v 0))]), W p l e rm_X7_fetch s m args below meth c H locs 0 0 Q (F0 m 67 ls []) := by
    intro g hf H locs ls hP hS hl
    unfold x_X7_fetch_b67 at hf
    refine lv_aload_n hx hb dX7_fetch_67 rfl (lv_at hl 0 rfl) ?_
    refine va_get (D := zD v) (ci := 6) (v := .ref (zA v 7)) (C := RX7) (T := TX7) (N := 11) hx hb hts iX7 hown hk.1 hP 0 rfl rfl 8 (by decide) (hts _ fl_X7_54) (fun _ h9 => h9) rfl dX7_fetch_68 ?_
    refine va_get (D := zD v) (ci := 0) (v := .int (g 7 0)) (C := RX1) (T := TX1) (N := 2) hx hb hts iX1 hown hk.1 hP 7 rfl rfl 0 (by decide) (hts _ fl_X7_195) (fun _ h9 => h9) rfl dX7_fetch_71 ?_
    refine lv_goto (tgt := 84) hx hb dX7_fetch_74 (by decide) ?_
    exact hret _ _ _ _ _ _ (Or.inl rfl) (Option.some.inj hf) hP hS dX7_fetch_84
  unfold x_X7_fetch at hf
  refine lv_iload_n hx hb dX7_fetch_0 rfl (lv_at hl 1 rfl) ?_
  obtain ⟨q1, eq1, hf⟩ := bd_e hf
  refine zki hS (zrS (As := [.int a1]) (rest := []) okX hx hb hml hown hts hk hP hS (t_X3_isOne l v N a1 g _ eq1) sk_X3_isOne ml_X7_173 rfl rfl ⟨(Nat.le_of_ble_eq_true rfl), (Nat.le_of_ble_eq_true rfl)⟩ rfl hl.1 rfl (Nat.le_of_ble_eq_true rfl) dX7_fetch_1) (fun H locs hP hS => ?_)
  refine lv_if_eq (tgt := 16) hx hb dX7_fetch_4 (by decide) (fun c2 => ?_) (fun c2 => ?_)
  · have hf := ite_t c2 hf
    refine lv_bipush (v := -2) hx hb dX7_fetch_16 kB_m2 ?_
    exact hret _ _ _ _ _ _ (Or.inl rfl) (Option.some.inj hf) hP hS dX7_fetch_18
  · have hf := ite_f c2 hf
    refine lv_iload_n hx hb dX7_fetch_7 rfl (lv_at hl 2 rfl) ?_
    refine lv_if_lt (tgt := 16) hx hb dX7_fetch_8 (by decide) (fun c3 => ?_) (fun c3 => ?_)
    · have hf := ite_t c3 hf
      refine lv_bipush (v := -2) hx hb dX7_fetch_16 kB_m2 ?_
      exact hret _ _ _ _ _ _ (Or.inl rfl) (Option.some.inj hf) hP hS dX7_fetch_18
    · have hf := ite_f c3 hf
      refine lv_iload_n hx hb dX7_fetch_11 rfl (lv_at hl 2 rfl) ?_
      refine lv_iconst (v := 1) hx hb dX7_fetch_12 kI_1 ?_
      refine lv_icmp_le (tgt := 19) hx hb dX7_fetch_13 (by decide) (fun c4 => ?_) (fun c4 => ?_)
      · have hf := ite_t c4 hf
        refine lv_aload_n hx hb dX7_fetch_19 rfl (lv_at hl 0 rfl) ?_
        refine lv_iload_n hx hb dX7_fetch_20 rfl (lv_at hl 1 rfl) ?_
        obtain ⟨q5, eq5, hf⟩ := bd_e hf
        refine zki hS (zrV (As := [.int a1]) (rest := []) okX hx hb hml hown hts hk hP hS (t_X7_rowsRefusal l v N a1 q1.2 _ eq5) vk_X7_rowsRefusal ml_X7_176 rfl rfl ⟨(Nat.le_of_ble_eq_true rfl), (Nat.le_of_ble_eq_true rfl)⟩ (va_recv (q := (RX7, TX7, 11)) hk.1 hP (q0 := 0) (ci := 6) rfl rfl) rfl hl.1 rfl (Nat.le_of_ble_eq_true rfl) dX7_fetch_21) (fun H locs hP hS => ?_)
        refine lv_istore_n (lv' := [(3, .int q5.1), (0, .ref (zA v 0)), (1, .int a1), (2, .int a2)]) hx hb dX7_fetch_24 rfl hl (by decide) rfl (fun ls hl => ?_)
        refine lv_iload_n hx hb dX7_fetch_25 rfl (lv_at hl 0 rfl) ?_
        refine lv_if_eq (tgt := 31) hx hb dX7_fetch_26 (by decide) (fun c6 => ?_) (fun c6 => ?_)
        · have hf := ite_t c6 hf
          refine lv_aload_n hx hb dX7_fetch_31 rfl (lv_at hl 1 rfl) ?_
          refine lv_iload_n hx hb dX7_fetch_32 rfl (lv_at hl 2 rfl) ?_
          obtain ⟨q7, eq7, hf⟩ := bd_e hf
          refine zkv hS (zrV (As := [.int a1]) (rest := []) okX hx hb hml hown hts hk hP hS (t_X7_narrowByRows l v N a1 q5.2 _ eq7) vk_X7_narrowByRows ml_X7_179 rfl rfl ⟨(Nat.le_of_ble_eq_true rfl), (Nat.le_of_ble_eq_true rfl)⟩ (va_recv (q := (RX7, TX7, 11)) hk.1 hP (q0 := 0) (ci := 6) rfl rfl) rfl hl.1 rfl (Nat.le_of_ble_eq_true rfl) dX7_fetch_33) (fun H locs hP hS => ?_)
          refine lv_aload_n hx hb dX7_fetch_36 rfl (lv_at hl 1 rfl) ?_
          refine va_get (D := zD v) (ci := 6) (v := .ref (zA v 6)) (C := RX7) (T := TX7) (N := 11) hx hb hts iX7 hown hk.1 hP 0 rfl rfl 6 (by decide) (hts _ fl_X7_43) (fun _ h9 => h9) rfl dX7_fetch_37 ?_
          obtain ⟨q8, eq8, hf⟩ := bd_e hf
          refine zki hS (zrV (As := []) (rest := []) okX hx hb hml hown hts hk hP hS (t_X4_size l v N q7 _ eq8) vk_X4_size ml_X7_183 rfl rfl ⟨(Nat.le_of_ble_eq_true rfl), (Nat.le_of_ble_eq_true rfl)⟩ (va_recv (q := (RX4, TX4, 2)) hk.1 hP (q0 := 6) (ci := 3) rfl rfl) rfl hl.1 rfl (Nat.le_of_ble_eq_true rfl) dX7_fetch_40) (fun H locs hP hS => ?_)
          refine lv_if_ne (tgt := 48) hx hb dX7_fetch_43 (by decide) (fun c9 => ?_) (fun c9 => ?_)
          · have hf := ite_f c9 hf
            refine lv_aload_n hx hb dX7_fetch_48 rfl (lv_at hl 1 rfl) ?_
            obtain ⟨q10, eq10, hf⟩ := bd_e hf
            refine zkv hS (zrV (As := []) (rest := []) okX hx hb hml hown hts hk hP hS (t_X7_chooseNext l v N q8.2 _ eq10) vk_X7_chooseNext ml_X7_192 rfl rfl ⟨(Nat.le_of_ble_eq_true rfl), (Nat.le_of_ble_eq_true rfl)⟩ (va_recv (q := (RX7, TX7, 11)) hk.1 hP (q0 := 0) (ci := 6) rfl rfl) rfl hl.1 rfl (Nat.le_of_ble_eq_true rfl) dX7_fetch_49) (fun H locs hP hS => ?_)
            refine lv_iload_n hx hb dX7_fetch_52 rfl (lv_at hl 3 rfl) ?_
            refine lv_if_eq (tgt := 67) hx hb dX7_fetch_53 (by decide) (fun c11 => ?_) (fun c11 => ?_)
            · have hf := ite_t c11 hf
              exact wb67 q10 hf _ _ _ hP hS (lv_sub hl [1] rfl)
            · have hf := ite_f c11 hf
              refine lv_aload_n hx hb dX7_fetch_56 rfl (lv_at hl 1 rfl) ?_
              refine va_get (D := zD v) (ci := 6) (v := .ref (zA v 7)) (C := RX7) (T := TX7) (N := 11) hx hb hts iX7 hown hk.1 hP 0 rfl rfl 8 (by decide) (hts _ fl_X7_54) (fun _ h9 => h9) rfl dX7_fetch_57 ?_
              refine va_get (D := zD v) (ci := 0) (v := .int (q10 7 0)) (C := RX1) (T := TX1) (N := 2) hx hb hts iX1 hown hk.1 hP 7 rfl rfl 0 (by decide) (hts _ fl_X7_195) (fun _ h9 => h9) rfl dX7_fetch_60 ?_
              refine lv_iconst (v := -1) hx hb dX7_fetch_63 kI_m1 ?_
              refine lv_icmp_ne (tgt := 77) hx hb dX7_fetch_64 (by decide) (fun c12 => ?_) (fun c12 => ?_)
              · have hf := ite_f c12 hf
                refine lv_aload_n hx hb dX7_fetch_77 rfl (lv_at hl 1 rfl) ?_
                refine va_get (D := zD v) (ci := 6) (v := .ref (zA v 7)) (C := RX7) (T := TX7) (N := 11) hx hb hts iX7 hown hk.1 hP 0 rfl rfl 8 (by decide) (hts _ fl_X7_54) (fun _ h9 => h9) rfl dX7_fetch_78 ?_
                refine va_get (D := zD v) (ci := 0) (v := .int (q10 7 1)) (C := RX1) (T := TX1) (N := 2) hx hb hts iX1 hown hk.1 hP 7 rfl rfl 1 (by decide) (hts _ fl_X7_198) (fun _ h9 => h9) rfl dX7_fetch_81 ?_
                exact hret _ _ _ _ _ _ (Or.inl rfl) (Option.some.inj hf) hP hS dX7_fetch_84
              · have hf := ite_t c12 hf
                exact wb67 q10 hf _ _ _ hP hS (lv_sub hl [1] rfl)
          · have hf := ite_t c9 hf
            refine lv_iconst (v := -1) hx hb dX7_fetch_46 kI_m1 ?_
            exact hret _ _ _ _ _ _ (Or.inl rfl) (Option.some.inj hf) hP hS dX7_fetch_47
        · have hf := ite_f c6 hf
          refine lv_iload_n hx hb dX7_fetch_29 rfl (lv_at hl 0 rfl) ?_
          exact hret _ _ _ _ _ _ (Or.inl rfl) (Option.some.inj hf) hP hS dX7_fetch_30
      · have hf := ite_f c4 hf
        refine lv_bipush (v := -2) hx hb dX7_fetch_16 kB_m2 ?_
        exact hret _ _ _ _ _ _ (Or.inl rfl) (Option.some.inj hf) hP hS dX7_fetch_18
abbrev rm_X7_anyFits : Room := { frames := 6, cells := 0, slots := 0, locals := 170 }
set_option maxRecDepth 100000 in
theorem t_X7_anyFits (l : Launch) (v : Ev) (N : Nat) (g : Sg) (res : Int32 × Sg) (hf : x_X7_anyFits N g = some res) : Ci l yX7_anyFits cX7_anyFits 2 .boolean rm_X7_anyFits pX v [.ref (zA v 0)] g res := by
  refine ze_i (by decide +kernel) (Nat.le_of_ble_eq_true rfl) ?_
  intro p e s m args below meth c Q ls hcx hret hP hl
  obtain ⟨hx, hb, hml, hown, hts, hk⟩ := hcx
  have hown : s.vm.findClass RX7 = some m.cls := hown
  have hS : va_S (An nX v) s.heap s.heap [] := va_S.rf
  have hl : lv_has ls 2 [(0, .ref (zA v 0))] := hl
  have wb52 : ∀ (h2 : Int32 × Sg → Option (Int32 × Sg)) (hh2 : ∀ x : Int32 × Sg, h2 x = some res → ∀ (H : Heap) (locs : List Loc) (ls : Array Slot), va_P (zD v) vwCl (pX.1 v x.2) H → va_S (An nX v) s.heap H locs → lv_has ls 2 [(0, .ref (zA v 0)), (1, .int x.1)] → W p l e rm_X7_anyFits s m args below meth c H locs 0 0 Q (F0 m 2 ls [])) (y1 : Int32) (g : Sg) (hf : x_X7_anyFits_b52 N h2 y1 g = some res) (H : Heap) (locs : List Loc) (ls : Array Slot) (hP : va_P (zD v) vwCl (pX.1 v g) H) (hS : va_S (An nX v) s.heap H locs) (hl : lv_has ls 2 [(0, .ref (zA v 0)), (1, .int y1)]), W p l e rm_X7_anyFits s m args below meth c H locs 0 0 Q (F0 m 52 ls []) := by
    intro h2 hh2 y1 g hf H locs ls hP hS hl
    unfold x_X7_anyFits_b52 at hf
    obtain ⟨x5, ex5, hf⟩ := lt_e hf
    refine lv_iinc (v := x5) (lv' := [(1, .int x5), (0, .ref (zA v 0))]) hx hb dX7_anyFits_52 hl (k := 1) rfl ((congrArg (fun z => y1 + z) kI_1).trans ex5.symm) (by decide) rfl (fun ls hl => ?_)
    refine lv_goto (tgt := 2) hx hb dX7_anyFits_55 (by decide) ?_
    exact hh2 (x5, g) hf _ _ _ hP hS (lv_sub hl [1, 0] rfl)
  have wL2 : ∀ (n : Nat) (x : Int32 × Sg), lp (x_X7_anyFits_B2 N) n x = some res → ∀ (H : Heap) (locs : List Loc) (ls : Array Slot), va_P (zD v) vwCl (pX.1 v x.2) H → va_S (An nX v) s.heap H locs → lv_has ls 2 [(0, .ref (zA v 0)), (1, .int x.1)] → W p l e rm_X7_anyFits s m args below meth c H locs 0 0 Q (F0 m 2 ls []) := by
    refine lp_w (P := fun x : Int32 × Sg => ∀ (H : Heap) (locs : List Loc) (ls : Array Slot), va_P (zD v) vwCl (pX.1 v x.2) H → va_S (An nX v) s.heap H locs → lv_has ls 2 [(0, .ref (zA v 0)), (1, .int x.1)] → W p l e rm_X7_anyFits s m args below meth c H locs 0 0 Q (F0 m 2 ls [])) ?_
    intro h2 hh2 x hf H locs ls hP hS hl
    unfold x_X7_anyFits_B2 at hf
    refine lv_iload_n hx hb dX7_anyFits_2 rfl (lv_at hl 1 rfl) ?_
    refine lv_aload_n hx hb dX7_anyFits_3 rfl (lv_at hl 0 rfl) ?_
    refine va_get (D := zD v) (ci := 6) (v := .ref (zA v 1)) (C := RX7) (T := TX7) (N := 11) hx hb hts iX7 hown hk.1 hP 0 rfl rfl 0 (by decide) (hts _ fl_X7_10) (fun _ h9 => h9) rfl dX7_anyFits_4 ?_
    obtain ⟨q1, eq1, hf⟩ := bd_e hf
    refine zki hS (zrV (As := []) (rest := [.int x.1]) okX hx hb hml hown hts hk hP hS (t_X5_shoes l v N x.2 _ eq1) vk_X5_shoes ml_X7_226 rfl rfl ⟨(Nat.le_of_ble_eq_true rfl), (Nat.le_of_ble_eq_true rfl)⟩ (va_recv (q := (RX5, TX5, 10)) hk.1 hP (q0 := 1) (ci := 4) rfl rfl) rfl hl.1 rfl (Nat.le_of_ble_eq_true rfl) dX7_anyFits_7) (fun H locs hP hS => ?_)
    refine lv_icmp_ge (tgt := 58) hx hb dX7_anyFits_10 (by decide) (fun c2 => ?_) (fun c2 => ?_)
    · have hf := ite_t c2 hf
      refine lv_iconst (v := 0) hx hb dX7_anyFits_58 kI_0 ?_
      exact hret _ _ _ _ _ _ (Or.inr rfl) (Option.some.inj hf) hP hS dX7_anyFits_59
    · have hf := ite_f c2 hf
      refine lv_aload_n hx hb dX7_anyFits_13 rfl (lv_at hl 0 rfl) ?_
      refine va_get (D := zD v) (ci := 6) (v := .ref (zA v 1)) (C := RX7) (T := TX7) (N := 11) hx hb hts iX7 hown hk.1 hP 0 rfl rfl 0 (by decide) (hts _ fl_X7_10) (fun _ h9 => h9) rfl dX7_anyFits_14 ?_
      refine lv_iload_n hx hb dX7_anyFits_17 rfl (lv_at hl 1 rfl) ?_
      obtain ⟨q3, eq3, hf⟩ := bd_e hf
      refine zki hS (zrV (As := [.int x.1]) (rest := []) okX hx hb hml hown hts hk hP hS (t_X5_stocks l v N x.1 q1.2 _ eq3) vk_X5_stocks ml_X7_229 rfl rfl ⟨(Nat.le_of_ble_eq_true rfl), (Nat.le_of_ble_eq_true rfl)⟩ (va_recv (q := (RX5, TX5, 10)) hk.1 hP (q0 := 1) (ci := 4) rfl rfl) rfl hl.1 rfl (Nat.le_of_ble_eq_true rfl) dX7_anyFits_18) (fun H locs hP hS => ?_)
      refine lv_if_eq (tgt := 52) hx hb dX7_anyFits_21 (by decide) (fun c4 => ?_) (fun c4 => ?_)
      · have hf := ite_t c4 hf
        exact wb52 h2 hh2 x.1 q3.2 hf _ _ _ hP hS (lv_sub hl [0, 1] rfl)
      · have hf := ite_f c4 hf
        refine lv_aload_n hx hb dX7_anyFits_24 rfl (lv_at hl 0 rfl) ?_
        refine va_get (D := zD v) (ci := 6) (v := .ref (zA v 6)) (C := RX7) (T := TX7) (N := 11) hx hb hts iX7 hown hk.1 hP 0 rfl rfl 6 (by decide) (hts _ fl_X7_43) (fun _ h9 => h9) rfl dX7_anyFits_25 ?_
        refine lv_aload_n hx hb dX7_anyFits_28 rfl (lv_at hl 0 rfl) ?_
        refine va_get (D := zD v) (ci := 6) (v := .ref (zA v 1)) (C := RX7) (T := TX7) (N := 11) hx hb hts iX7 hown hk.1 hP 0 rfl rfl 0 (by decide) (hts _ fl_X7_10) (fun _ h9 => h9) rfl dX7_anyFits_29 ?_
        refine lv_iload_n hx hb dX7_anyFits_32 rfl (lv_at hl 1 rfl) ?_
        obtain ⟨q6, eq6, hf⟩ := bd_e hf
        refine zki hS (zrV (As := [.int x.1]) (rest := [.ref (zA v 6)]) okX hx hb hml hown hts hk hP hS (t_X5_leastFitted l v N x.1 q3.2 _ eq6) vk_X5_leastFitted ml_X7_243 rfl rfl ⟨(Nat.le_of_ble_eq_true rfl), (Nat.le_of_ble_eq_true rfl)⟩ (va_recv (q := (RX5, TX5, 10)) hk.1 hP (q0 := 1) (ci := 4) rfl rfl) rfl hl.1 rfl (Nat.le_of_ble_eq_true rfl) dX7_anyFits_33) (fun H locs hP hS => ?_)
        refine lv_aload_n hx hb dX7_anyFits_36 rfl (lv_at hl 0 rfl) ?_
        refine va_get (D := zD v) (ci := 6) (v := .ref (zA v 1)) (C := RX7) (T := TX7) (N := 11) hx hb hts iX7 hown hk.1 hP 0 rfl rfl 0 (by decide) (hts _ fl_X7_10) (fun _ h9 => h9) rfl dX7_anyFits_37 ?_
        refine lv_iload_n hx hb dX7_anyFits_40 rfl (lv_at hl 1 rfl) ?_
        obtain ⟨q7, eq7, hf⟩ := bd_e hf
        refine zki hS (zrV (As := [.int x.1]) (rest := [.int q6.1, .ref (zA v 6)]) okX hx hb hml hown hts hk hP hS (t_X5_greatestFitted l v N x.1 q6.2 _ eq7) vk_X5_greatestFitted ml_X7_246 rfl rfl ⟨(Nat.le_of_ble_eq_true rfl), (Nat.le_of_ble_eq_true rfl)⟩ (va_recv (q := (RX5, TX5, 10)) hk.1 hP (q0 := 1) (ci := 4) rfl rfl) rfl hl.1 rfl (Nat.le_of_ble_eq_true rfl) dX7_anyFits_41) (fun H locs hP hS => ?_)
        obtain ⟨q8, eq8, hf⟩ := bd_e hf
        refine zki hS (zrV (As := [.int q6.1, .int q7.1]) (rest := []) okX hx hb hml hown hts hk hP hS (t_X4_meets l v N q6.1 q7.1 q7.2 _ eq8) vk_X4_meets ml_X7_249 rfl rfl ⟨(Nat.le_of_ble_eq_true rfl), (Nat.le_of_ble_eq_true rfl)⟩ (va_recv (q := (RX4, TX4, 2)) hk.1 hP (q0 := 6) (ci := 3) rfl rfl) rfl hl.1 rfl (Nat.le_of_ble_eq_true rfl) dX7_anyFits_44) (fun H locs hP hS => ?_)
        refine lv_if_eq (tgt := 52) hx hb dX7_anyFits_47 (by decide) (fun c9 => ?_) (fun c9 => ?_)
        · have hf := ite_t c9 hf
          exact wb52 h2 hh2 x.1 q8.2 hf _ _ _ hP hS (lv_sub hl [0, 1] rfl)
        · have hf := ite_f c9 hf
          refine lv_iconst (v := 1) hx hb dX7_anyFits_50 kI_1 ?_
          exact hret _ _ _ _ _ _ (Or.inr rfl) (Option.some.inj hf) hP hS dX7_anyFits_51
  unfold x_X7_anyFits at hf
  refine lv_iconst (v := 0) hx hb dX7_anyFits_0 kI_0 ?_
  refine lv_istore_n (lv' := [(1, .int (0 : Int32)), (0, .ref (zA v 0))]) hx hb dX7_anyFits_1 rfl hl (by decide) rfl (fun ls hl => ?_)
  exact wL2 N ((0 : Int32), g) hf _ _ _ hP hS (lv_sub hl [1, 0] rfl)
abbrev rm_X7_findFor : Room := { frames := 7, cells := 0, slots := 0, locals := 191 }
set_option maxRecDepth 100000 in
theorem t_X7_findFor (l : Launch) (v : Ev) (N : Nat) (a1 : Int32) (g : Sg) (res : Int32 × Sg) (hf : x_X7_findFor N a1 g = some res) : Ci l yX7_findFor cX7_findFor 5 .int rm_X7_findFor pX v [.ref (zA v 0), .int a1] g res := by
  refine ze_i (by decide +kernel) (Nat.le_of_ble_eq_true rfl) ?_
  intro p e s m args below meth c Q ls hcx hret hP hl
  obtain ⟨hx, hb, hml, hown, hts, hk⟩ := hcx
  have hown : s.vm.findClass RX7 = some m.cls := hown
  have hS : va_S (An nX v) s.heap s.heap [] := va_S.rf
  have hl : lv_has ls 5 [(0, .ref (zA v 0)), (1, .int a1)] := hl
  have wL9 : ∀ (n : Nat) (x : Int32 × Int32 × Sg), lp (x_X7_findFor_B9 N) n x = some res → ∀ (H : Heap) (locs : List Loc) (ls : Array Slot), va_P (zD v) vwCl (pX.1 v x.2.2) H → va_S (An nX v) s.heap H locs → lv_has ls 5 [(0, .ref (zA v 0)), (1, .int x.1), (2, .int x.2.1)] → W p l e rm_X7_findFor s m args below meth c H locs 0 0 Q (F0 m 9 ls []) := by
    refine lp_w (P := fun x : Int32 × Int32 × Sg => ∀ (H : Heap) (locs : List Loc) (ls : Array Slot), va_P (zD v) vwCl (pX.1 v x.2.2) H → va_S (An nX v) s.heap H locs → lv_has ls 5 [(0, .ref (zA v 0)), (1, .int x.1), (2, .int x.2.1)] → W p l e rm_X7_findFor s m args below meth c H locs 0 0 Q (F0 m 9 ls [])) ?_
    intro h9 hh9 x hf H locs ls hP hS hl
    unfold x_X7_findFor_B9 at hf
    refine lv_iload_n hx hb dX7_findFor_9 rfl (lv_at hl 2 rfl) ?_
    refine lv_bipush (v := 20) hx hb dX7_findFor_10 kB_20 ?_
    refine lv_icmp_gt (tgt := 99) hx hb dX7_findFor_12 (by decide) (fun c2 => ?_) (fun c2 => ?_)
    · have hf := ite_t c2 hf
      refine lv_iconst (v := -1) hx hb dX7_findFor_99 kI_m1 ?_
      exact hret _ _ _ _ _ _ (Or.inl rfl) (Option.some.inj hf) hP hS dX7_findFor_100
    · have hf := ite_f c2 hf
      refine lv_aload_n hx hb dX7_findFor_15 rfl (lv_at hl 0 rfl) ?_
      obtain ⟨q3, eq3, hf⟩ := bd_e hf
      refine zki hS (zrV (As := []) (rest := []) okX hx hb hml hown hts hk hP hS (t_X7_anyFits l v N x.2.2 _ eq3) vk_X7_anyFits ml_X7_240 rfl rfl ⟨(Nat.le_of_ble_eq_true rfl), (Nat.le_of_ble_eq_true rfl)⟩ (va_recv (q := (RX7, TX7, 11)) hk.1 hP (q0 := 0) (ci := 6) rfl rfl) rfl hl.1 rfl (Nat.le_of_ble_eq_true rfl) dX7_findFor_16) (fun H locs hP hS => ?_)
      refine lv_if_ne (tgt := 24) hx hb dX7_findFor_19 (by decide) (fun c4 => ?_) (fun c4 => ?_)
      · have hf := ite_f c4 hf
        refine lv_aload_n hx hb dX7_findFor_24 rfl (lv_at hl 0 rfl) ?_
        obtain ⟨q5, eq5, hf⟩ := bd_e hf
        refine zkv hS (zrV (As := []) (rest := []) okX hx hb hml hown hts hk hP hS (t_X7_chooseNext l v N q3.2 _ eq5) vk_X7_chooseNext ml_X7_192 rfl rfl ⟨(Nat.le_of_ble_eq_true rfl), (Nat.le_of_ble_eq_true rfl)⟩ (va_recv (q := (RX7, TX7, 11)) hk.1 hP (q0 := 0) (ci := 6) rfl rfl) rfl hl.1 rfl (Nat.le_of_ble_eq_true rfl) dX7_findFor_25) (fun H locs hP hS => ?_)
        refine lv_aload_n hx hb dX7_findFor_28 rfl (lv_at hl 0 rfl) ?_
        refine va_get (D := zD v) (ci := 6) (v := .ref (zA v 6)) (C := RX7) (T := TX7) (N := 11) hx hb hts iX7 hown hk.1 hP 0 rfl rfl 6 (by decide) (hts _ fl_X7_43) (fun _ h9 => h9) rfl dX7_findFor_29 ?_
        obtain ⟨q6, eq6, hf⟩ := bd_e hf
        refine zki hS (zrV (As := []) (rest := []) okX hx hb hml hown hts hk hP hS (t_X4_size l v N q5 _ eq6) vk_X4_size ml_X7_183 rfl rfl ⟨(Nat.le_of_ble_eq_true rfl), (Nat.le_of_ble_eq_true rfl)⟩ (va_recv (q := (RX4, TX4, 2)) hk.1 hP (q0 := 6) (ci := 3) rfl rfl) rfl hl.1 rfl (Nat.le_of_ble_eq_true rfl) dX7_findFor_32) (fun H locs hP hS => ?_)
        refine lv_istore_n (lv' := [(3, .int q6.1), (0, .ref (zA v 0)), (1, .int x.1), (2, .int x.2.1)]) hx hb dX7_findFor_35 rfl hl (by decide) rfl (fun ls hl => ?_)
        refine lv_aload_n hx hb dX7_findFor_36 rfl (lv_at hl 1 rfl) ?_
        refine va_get (D := zD v) (ci := 6) (v := .ref (zA v 1)) (C := RX7) (T := TX7) (N := 11) hx hb hts iX7 hown hk.1 hP 0 rfl rfl 0 (by decide) (hts _ fl_X7_10) (fun _ h9 => h9) rfl dX7_findFor_37 ?_
        refine lv_aload_n hx hb dX7_findFor_40 rfl (lv_at hl 1 rfl) ?_
        refine va_get (D := zD v) (ci := 6) (v := .ref (zA v 7)) (C := RX7) (T := TX7) (N := 11) hx hb hts iX7 hown hk.1 hP 0 rfl rfl 8 (by decide) (hts _ fl_X7_54) (fun _ h9 => h9) rfl dX7_findFor_41 ?_
        refine va_get (D := zD v) (ci := 0) (v := .int (q6.2 7 0)) (C := RX1) (T := TX1) (N := 2) hx hb hts iX1 hown hk.1 hP 7 rfl rfl 0 (by decide) (hts _ fl_X7_195) (fun _ h9 => h9) rfl dX7_findFor_44 ?_
        refine lv_iload_n hx hb dX7_findFor_47 rfl (lv_at hl 2 rfl) ?_
        obtain ⟨q7, eq7, hf⟩ := bd_e hf
        refine zki hS (zrV (As := [.int (q6.2 7 0), .int x.1]) (rest := []) okX hx hb hml hown hts hk hP hS (t_X5_saysOf l v N (q6.2 7 0) x.1 q6.2 _ eq7) vk_X5_saysOf ml_X7_142 rfl rfl ⟨(Nat.le_of_ble_eq_true rfl), (Nat.le_of_ble_eq_true rfl)⟩ (va_recv (q := (RX5, TX5, 10)) hk.1 hP (q0 := 1) (ci := 4) rfl rfl) rfl hl.1 rfl (Nat.le_of_ble_eq_true rfl) dX7_findFor_48) (fun H locs hP hS => ?_)
        refine lv_istore (lv' := [(4, .int q7.1), (3, .int q6.1), (0, .ref (zA v 0)), (1, .int x.1), (2, .int x.2.1)]) hx hb dX7_findFor_51 hl (by decide) rfl (fun ls hl => ?_)
        refine lv_aload_n hx hb dX7_findFor_53 rfl (lv_at hl 2 rfl) ?_
        refine va_get (D := zD v) (ci := 6) (v := .ref (zA v 6)) (C := RX7) (T := TX7) (N := 11) hx hb hts iX7 hown hk.1 hP 0 rfl rfl 6 (by decide) (hts _ fl_X7_43) (fun _ h9 => h9) rfl dX7_findFor_54 ?_
        refine lv_aload_n hx hb dX7_findFor_57 rfl (lv_at hl 2 rfl) ?_
        refine va_get (D := zD v) (ci := 6) (v := .ref (zA v 1)) (C := RX7) (T := TX7) (N := 11) hx hb hts iX7 hown hk.1 hP 0 rfl rfl 0 (by decide) (hts _ fl_X7_10) (fun _ h9 => h9) rfl dX7_findFor_58 ?_
        refine lv_aload_n hx hb dX7_findFor_61 rfl (lv_at hl 2 rfl) ?_
        refine va_get (D := zD v) (ci := 6) (v := .ref (zA v 7)) (C := RX7) (T := TX7) (N := 11) hx hb hts iX7 hown hk.1 hP 0 rfl rfl 8 (by decide) (hts _ fl_X7_54) (fun _ h9 => h9) rfl dX7_findFor_62 ?_
        refine va_get (D := zD v) (ci := 0) (v := .int (q7.2 7 0)) (C := RX1) (T := TX1) (N := 2) hx hb hts iX1 hown hk.1 hP 7 rfl rfl 0 (by decide) (hts _ fl_X7_195) (fun _ h9 => h9) rfl dX7_findFor_65 ?_
        refine lv_iload hx hb dX7_findFor_68 (lv_at hl 0 rfl) ?_
        obtain ⟨q8, eq8, hf⟩ := bd_e hf
        refine zkv hS (zrV (As := [.ref (zA v 1), .int (q7.2 7 0), .int q7.1]) (rest := []) okX hx hb hml hown hts hk hP hS (t_X4_narrow l v N (q7.2 7 0) q7.1 q7.2 _ eq8) vk_X4_narrow ml_X7_219 rfl rfl ⟨(Nat.le_of_ble_eq_true rfl), (Nat.le_of_ble_eq_true rfl)⟩ (va_recv (q := (RX4, TX4, 2)) hk.1 hP (q0 := 6) (ci := 3) rfl rfl) rfl hl.1 rfl (Nat.le_of_ble_eq_true rfl) dX7_findFor_70) (fun H locs hP hS => ?_)
        refine lv_iload hx hb dX7_findFor_73 (lv_at hl 0 rfl) ?_
        refine lv_if_ne (tgt := 80) hx hb dX7_findFor_75 (by decide) (fun c9 => ?_) (fun c9 => ?_)
        · have hf := ite_f c9 hf
          refine lv_aload_n hx hb dX7_findFor_80 rfl (lv_at hl 2 rfl) ?_
          refine va_get (D := zD v) (ci := 6) (v := .ref (zA v 6)) (C := RX7) (T := TX7) (N := 11) hx hb hts iX7 hown hk.1 hP 0 rfl rfl 6 (by decide) (hts _ fl_X7_43) (fun _ h9 => h9) rfl dX7_findFor_81 ?_
          obtain ⟨q10, eq10, hf⟩ := bd_e hf
          refine zki hS (zrV (As := []) (rest := []) okX hx hb hml hown hts hk hP hS (t_X4_size l v N q8 _ eq10) vk_X4_size ml_X7_183 rfl rfl ⟨(Nat.le_of_ble_eq_true rfl), (Nat.le_of_ble_eq_true rfl)⟩ (va_recv (q := (RX4, TX4, 2)) hk.1 hP (q0 := 6) (ci := 3) rfl rfl) rfl hl.1 rfl (Nat.le_of_ble_eq_true rfl) dX7_findFor_84) (fun H locs hP hS => ?_)
          refine lv_iload_n hx hb dX7_findFor_87 rfl (lv_at hl 1 rfl) ?_
          refine lv_icmp_ne (tgt := 93) hx hb dX7_findFor_88 (by decide) (fun c11 => ?_) (fun c11 => ?_)
          · have hf := ite_f c11 hf
            obtain ⟨x12, ex12, hf⟩ := lt_e hf
            refine lv_iinc (v := x12) (lv' := [(2, .int x12), (4, .int q7.1), (3, .int q6.1), (0, .ref (zA v 0)), (1, .int x.1)]) hx hb dX7_findFor_93 hl (k := 4) rfl ((congrArg (fun z => x.2.1 + z) kI_1).trans ex12.symm) (by decide) rfl (fun ls hl => ?_)
            refine lv_goto (tgt := 9) hx hb dX7_findFor_96 (by decide) ?_
            exact hh9 (x.1, x12, q10.2) hf _ _ _ hP hS (lv_sub hl [3, 4, 0] rfl)
          · have hf := ite_t c11 hf
            refine lv_iconst (v := -1) hx hb dX7_findFor_91 kI_m1 ?_
            exact hret _ _ _ _ _ _ (Or.inl rfl) (Option.some.inj hf) hP hS dX7_findFor_92
        · have hf := ite_t c9 hf
          refine lv_iload_n hx hb dX7_findFor_78 rfl (lv_at hl 4 rfl) ?_
          exact hret _ _ _ _ _ _ (Or.inl rfl) (Option.some.inj hf) hP hS dX7_findFor_79
      · have hf := ite_t c4 hf
        refine lv_iconst (v := -1) hx hb dX7_findFor_22 kI_m1 ?_
        exact hret _ _ _ _ _ _ (Or.inl rfl) (Option.some.inj hf) hP hS dX7_findFor_23
  unfold x_X7_findFor at hf
  refine lv_aload_n hx hb dX7_findFor_0 rfl (lv_at hl 0 rfl) ?_
  refine va_get (D := zD v) (ci := 6) (v := .ref (zA v 6)) (C := RX7) (T := TX7) (N := 11) hx hb hts iX7 hown hk.1 hP 0 rfl rfl 6 (by decide) (hts _ fl_X7_43) (fun _ h9 => h9) rfl dX7_findFor_1 ?_
  obtain ⟨q1, eq1, hf⟩ := bd_e hf
  refine zkv hS (zrV (As := []) (rest := []) okX hx hb hml hown hts hk hP hS (t_X4_widen l v N g _ eq1) vk_X4_widen ml_X7_216 rfl rfl ⟨(Nat.le_of_ble_eq_true rfl), (Nat.le_of_ble_eq_true rfl)⟩ (va_recv (q := (RX4, TX4, 2)) hk.1 hP (q0 := 6) (ci := 3) rfl rfl) rfl hl.1 rfl (Nat.le_of_ble_eq_true rfl) dX7_findFor_4) (fun H locs hP hS => ?_)
  refine lv_iconst (v := 1) hx hb dX7_findFor_7 kI_1 ?_
  refine lv_istore_n (lv' := [(2, .int (1 : Int32)), (0, .ref (zA v 0)), (1, .int a1)]) hx hb dX7_findFor_8 rfl hl (by decide) rfl (fun ls hl => ?_)
  exact wL9 N (a1, (1 : Int32), q1) hf _ _ _ hP hS (lv_sub hl [1, 2, 0] rfl)
abbrev rm_X7_goes : Room := { frames := 8, cells := 0, slots := 0, locals := 215 }
set_option maxRecDepth 100000 in
theorem t_X7_goes (l : Launch) (v : Ev) (N : Nat) (a1 : Int32) (g : Sg) (res : Int32 × Sg) (hf : x_X7_goes N a1 g = some res) : Ci l yX7_goes cX7_goes 2 .int rm_X7_goes pX v [.ref (zA v 0), .int a1] g res := by
  refine ze_i (by decide +kernel) (Nat.le_of_ble_eq_true rfl) ?_
  intro p e s m args below meth c Q ls hcx hret hP hl
  obtain ⟨hx, hb, hml, hown, hts, hk⟩ := hcx
  have hown : s.vm.findClass RX7 = some m.cls := hown
  have hS : va_S (An nX v) s.heap s.heap [] := va_S.rf
  have hl : lv_has ls 2 [(0, .ref (zA v 0)), (1, .int a1)] := hl
  unfold x_X7_goes at hf
  refine lv_iload_n hx hb dX7_goes_0 rfl (lv_at hl 1 rfl) ?_
  obtain ⟨q1, eq1, hf⟩ := bd_e hf
  refine zki hS (zrS (As := [.int a1]) (rest := []) okX hx hb hml hown hts hk hP hS (t_X7_isFoot l v N a1 g _ eq1) sk_X7_isFoot ml_X7_126 rfl rfl ⟨(Nat.le_of_ble_eq_true rfl), (Nat.le_of_ble_eq_true rfl)⟩ rfl hl.1 rfl (Nat.le_of_ble_eq_true rfl) dX7_goes_1) (fun H locs hP hS => ?_)
  refine lv_if_eq (tgt := 15) hx hb dX7_goes_4 (by decide) (fun c2 => ?_) (fun c2 => ?_)
  · have hf := ite_t c2 hf
    refine lv_bipush (v := -2) hx hb dX7_goes_15 kB_m2 ?_
    exact hret _ _ _ _ _ _ (Or.inl rfl) (Option.some.inj hf) hP hS dX7_goes_17
  · have hf := ite_f c2 hf
    refine lv_aload_n hx hb dX7_goes_7 rfl (lv_at hl 0 rfl) ?_
    refine lv_iload_n hx hb dX7_goes_8 rfl (lv_at hl 1 rfl) ?_
    obtain ⟨q3, eq3, hf⟩ := bd_e hf
    refine zki hS (zrV (As := [.int a1]) (rest := []) okX hx hb hml hown hts hk hP hS (t_X7_findFor l v N a1 q1.2 _ eq3) vk_X7_findFor ml_X7_201 rfl rfl ⟨(Nat.le_of_ble_eq_true rfl), (Nat.le_of_ble_eq_true rfl)⟩ (va_recv (q := (RX7, TX7, 11)) hk.1 hP (q0 := 0) (ci := 6) rfl rfl) rfl hl.1 rfl (Nat.le_of_ble_eq_true rfl) dX7_goes_9) (fun H locs hP hS => ?_)
    refine lv_goto (tgt := 17) hx hb dX7_goes_12 (by decide) ?_
    exact hret _ _ _ _ _ _ (Or.inl rfl) (Option.some.inj hf) hP hS dX7_goes_17
abbrev rm_X7_worst : Room := { frames := 8, cells := 0, slots := 0, locals := 215 }
set_option maxRecDepth 100000 in
theorem t_X7_worst (l : Launch) (v : Ev) (N : Nat) (a1 : Int32) (g : Sg) (res : Int32 × Sg) (hf : x_X7_worst N a1 g = some res) : Ci l yX7_worst cX7_worst 7 .int rm_X7_worst pX v [.ref (zA v 0), .int a1] g res := by
  refine ze_i (by decide +kernel) (Nat.le_of_ble_eq_true rfl) ?_
  intro p e s m args below meth c Q ls hcx hret hP hl
  obtain ⟨hx, hb, hml, hown, hts, hk⟩ := hcx
  have hown : s.vm.findClass RX7 = some m.cls := hown
  have hS : va_S (An nX v) s.heap s.heap [] := va_S.rf
  have hl : lv_has ls 7 [(0, .ref (zA v 0)), (1, .int a1)] := hl
  have wb75 : ∀ (h25 : Int32 × Int32 × Int32 × Int32 × Int32 × Int32 × Sg → Option (Int32 × Sg)) (hh25 : ∀ x : Int32 × Int32 × Int32 × Int32 × Int32 × Int32 × Sg, h25 x = some res → ∀ (H : Heap) (locs : List Loc) (ls : Array Slot), va_P (zD v) vwCl (pX.1 v x.2.2.2.2.2.2) H → va_S (An nX v) s.heap H locs → lv_has ls 7 [(0, .ref (zA v 0)), (1, .int x.1), (2, .int x.2.1), (3, .int x.2.2.1), (4, .int x.2.2.2.1), (5, .int x.2.2.2.2.1), (6, .int x.2.2.2.2.2.1)] → W p l e rm_X7_worst s m args below meth c H locs 0 0 Q (F0 m 25 ls [])) (y1 : Int32) (y2 : Int32) (y4 : Int32) (y5 : Int32) (y6 : Int32) (t0 : Int32) (t1 : Int32) (g : Sg) (hf : x_X7_worst_b75 N h25 y1 y2 y4 y5 y6 t0 t1 g = some res) (H : Heap) (locs : List Loc) (ls : Array Slot) (hP : va_P (zD v) vwCl (pX.1 v g) H) (hS : va_S (An nX v) s.heap H locs) (hl : lv_has ls 7 [(0, .ref (zA v 0)), (1, .int y1), (2, .int y2), (4, .int y4), (5, .int y5), (6, .int y6)]), W p l e rm_X7_worst s m args below meth c H locs 0 0 Q (F0 m 75 ls [.int t0, .int t1]) := by
    intro h25 hh25 y1 y2 y4 y5 y6 t0 t1 g hf H locs ls hP hS hl
    unfold x_X7_worst_b75 at hf
    refine lv_iadd hx hb dX7_worst_75 ?_
    obtain ⟨x8, ex8, hf⟩ := lt_e hf
    refine lv_nm ex8 ?_
    refine lv_istore_n (lv' := [(3, .int x8), (0, .ref (zA v 0)), (1, .int y1), (2, .int y2), (4, .int y4), (5, .int y5), (6, .int y6)]) hx hb dX7_worst_76 rfl hl (by decide) rfl (fun ls hl => ?_)
    obtain ⟨x9, ex9, hf⟩ := lt_e hf
    refine lv_iinc (v := x9) (lv' := [(6, .int x9), (3, .int x8), (0, .ref (zA v 0)), (1, .int y1), (2, .int y2), (4, .int y4), (5, .int y5)]) hx hb dX7_worst_77 hl (k := 6) rfl ((congrArg (fun z => y6 + z) kI_1).trans ex9.symm) (by decide) rfl (fun ls hl => ?_)
    refine lv_goto (tgt := 25) hx hb dX7_worst_80 (by decide) ?_
    exact hh25 (y1, y2, x8, y4, y5, x9, g) hf _ _ _ hP hS (lv_sub hl [2, 3, 4, 1, 5, 6, 0] rfl)
  have wb56 : ∀ (h25 : Int32 × Int32 × Int32 × Int32 × Int32 × Int32 × Sg → Option (Int32 × Sg)) (hh25 : ∀ x : Int32 × Int32 × Int32 × Int32 × Int32 × Int32 × Sg, h25 x = some res → ∀ (H : Heap) (locs : List Loc) (ls : Array Slot), va_P (zD v) vwCl (pX.1 v x.2.2.2.2.2.2) H → va_S (An nX v) s.heap H locs → lv_has ls 7 [(0, .ref (zA v 0)), (1, .int x.1), (2, .int x.2.1), (3, .int x.2.2.1), (4, .int x.2.2.2.1), (5, .int x.2.2.2.2.1), (6, .int x.2.2.2.2.2.1)] → W p l e rm_X7_worst s m args below meth c H locs 0 0 Q (F0 m 25 ls [])) (y1 : Int32) (y2 : Int32) (y3 : Int32) (y4 : Int32) (y5 : Int32) (y6 : Int32) (g : Sg) (hf : x_X7_worst_b56 N h25 y1 y2 y3 y4 y5 y6 g = some res) (H : Heap) (locs : List Loc) (ls : Array Slot) (hP : va_P (zD v) vwCl (pX.1 v g) H) (hS : va_S (An nX v) s.heap H locs) (hl : lv_has ls 7 [(0, .ref (zA v 0)), (1, .int y1), (2, .int y2), (3, .int y3), (4, .int y4), (5, .int y5), (6, .int y6)]), W p l e rm_X7_worst s m args below meth c H locs 0 0 Q (F0 m 56 ls []) := by
    intro h25 hh25 y1 y2 y3 y4 y5 y6 g hf H locs ls hP hS hl
    unfold x_X7_worst_b56 at hf
    refine lv_iload_n hx hb dX7_worst_56 rfl (lv_at hl 2 rfl) ?_
    refine lv_iload hx hb dX7_worst_57 (lv_at hl 4 rfl) ?_
    refine va_mmax hx hb (hml.trans hl.1.symm) hown (hts _ ml_X7_204) (hts _ mS_max) (hts _ mI_math) (hts _ mC_max) (Nat.le_of_ble_eq_true rfl) (Nat.le_of_ble_eq_true rfl) (Nat.zero_le _) (Nat.zero_le _) dX7_worst_59 ?_
    obtain ⟨x6, ex6, hf⟩ := lt_e hf
    refine lv_nm ex6 ?_
    refine lv_istore_n (lv' := [(2, .int x6), (0, .ref (zA v 0)), (1, .int y1), (3, .int y3), (4, .int y4), (5, .int y5), (6, .int y6)]) hx hb dX7_worst_62 rfl hl (by decide) rfl (fun ls hl => ?_)
    refine lv_iload_n hx hb dX7_worst_63 rfl (lv_at hl 3 rfl) ?_
    refine lv_iload hx hb dX7_worst_64 (lv_at hl 4 rfl) ?_
    refine lv_iconst (v := -1) hx hb dX7_worst_66 kI_m1 ?_
    refine lv_icmp_ne (tgt := 74) hx hb dX7_worst_67 (by decide) (fun c7 => ?_) (fun c7 => ?_)
    · have hf := ite_f c7 hf
      refine lv_iconst (v := 0) hx hb dX7_worst_74 kI_0 ?_
      exact wb75 h25 hh25 y1 x6 y4 y5 y6 (0 : Int32) y3 g hf _ _ _ hP hS (lv_sub hl [1, 2, 0, 4, 5, 6] rfl)
    · have hf := ite_t c7 hf
      refine lv_iconst (v := 1) hx hb dX7_worst_70 kI_1 ?_
      refine lv_goto (tgt := 75) hx hb dX7_worst_71 (by decide) ?_
      exact wb75 h25 hh25 y1 x6 y4 y5 y6 (1 : Int32) y3 g hf _ _ _ hP hS (lv_sub hl [1, 2, 0, 4, 5, 6] rfl)
  have wL25 : ∀ (n : Nat) (x : Int32 × Int32 × Int32 × Int32 × Int32 × Int32 × Sg), lp (x_X7_worst_B25 N) n x = some res → ∀ (H : Heap) (locs : List Loc) (ls : Array Slot), va_P (zD v) vwCl (pX.1 v x.2.2.2.2.2.2) H → va_S (An nX v) s.heap H locs → lv_has ls 7 [(0, .ref (zA v 0)), (1, .int x.1), (2, .int x.2.1), (3, .int x.2.2.1), (4, .int x.2.2.2.1), (5, .int x.2.2.2.2.1), (6, .int x.2.2.2.2.2.1)] → W p l e rm_X7_worst s m args below meth c H locs 0 0 Q (F0 m 25 ls []) := by
    refine lp_w (P := fun x : Int32 × Int32 × Int32 × Int32 × Int32 × Int32 × Sg => ∀ (H : Heap) (locs : List Loc) (ls : Array Slot), va_P (zD v) vwCl (pX.1 v x.2.2.2.2.2.2) H → va_S (An nX v) s.heap H locs → lv_has ls 7 [(0, .ref (zA v 0)), (1, .int x.1), (2, .int x.2.1), (3, .int x.2.2.1), (4, .int x.2.2.2.1), (5, .int x.2.2.2.2.1), (6, .int x.2.2.2.2.2.1)] → W p l e rm_X7_worst s m args below meth c H locs 0 0 Q (F0 m 25 ls [])) ?_
    intro h25 hh25 x hf H locs ls hP hS hl
    unfold x_X7_worst_B25 at hf
    refine lv_iload hx hb dX7_worst_25 (lv_at hl 6 rfl) ?_
    refine lv_bipush (v := 100) hx hb dX7_worst_27 kB_100 ?_
    refine lv_icmp_ge (tgt := 83) hx hb dX7_worst_29 (by decide) (fun c3 => ?_) (fun c3 => ?_)
    · have hf := ite_t c3 hf
      refine lv_iload_n hx hb dX7_worst_83 rfl (lv_at hl 1 rfl) ?_
      refine lv_if_ne (tgt := 91) hx hb dX7_worst_84 (by decide) (fun c4 => ?_) (fun c4 => ?_)
      · have hf := ite_f c4 hf
        refine lv_iload_n hx hb dX7_worst_91 rfl (lv_at hl 3 rfl) ?_
        exact hret _ _ _ _ _ _ (Or.inl rfl) (Option.some.inj hf) hP hS dX7_worst_92
      · have hf := ite_t c4 hf
        refine lv_iload_n hx hb dX7_worst_87 rfl (lv_at hl 2 rfl) ?_
        refine lv_goto (tgt := 92) hx hb dX7_worst_88 (by decide) ?_
        exact hret _ _ _ _ _ _ (Or.inl rfl) (Option.some.inj hf) hP hS dX7_worst_92
    · have hf := ite_f c3 hf
      refine lv_iload hx hb dX7_worst_32 (lv_at hl 6 rfl) ?_
      refine lv_iload hx hb dX7_worst_34 (lv_at hl 5 rfl) ?_
      refine lv_icmp_le (tgt := 56) hx hb dX7_worst_36 (by decide) (fun c5 => ?_) (fun c5 => ?_)
      · have hf := ite_t c5 hf
        exact wb56 h25 hh25 x.1 x.2.1 x.2.2.1 x.2.2.2.1 x.2.2.2.2.1 x.2.2.2.2.2.1 x.2.2.2.2.2.2 hf _ _ _ hP hS (lv_sub hl [0, 1, 2, 3, 4, 5, 6] rfl)
      · have hf := ite_f c5 hf
        refine lv_aload_n hx hb dX7_worst_39 rfl (lv_at hl 0 rfl) ?_
        refine lv_iload hx hb dX7_worst_40 (lv_at hl 6 rfl) ?_
        obtain ⟨q10, eq10, hf⟩ := bd_e hf
        refine zki hS (zrV (As := [.int x.2.2.2.2.2.1]) (rest := []) okX hx hb hml hown hts hk hP hS (t_X7_findFor l v N x.2.2.2.2.2.1 x.2.2.2.2.2.2 _ eq10) vk_X7_findFor ml_X7_201 rfl rfl ⟨(Nat.le_of_ble_eq_true rfl), (Nat.le_of_ble_eq_true rfl)⟩ (va_recv (q := (RX7, TX7, 11)) hk.1 hP (q0 := 0) (ci := 6) rfl rfl) rfl hl.1 rfl (Nat.le_of_ble_eq_true rfl) dX7_worst_42) (fun H locs hP hS => ?_)
        refine lv_istore (lv' := [(4, .int q10.1), (0, .ref (zA v 0)), (1, .int x.1), (2, .int x.2.1), (3, .int x.2.2.1), (5, .int x.2.2.2.2.1), (6, .int x.2.2.2.2.2.1)]) hx hb dX7_worst_45 hl (by decide) rfl (fun ls hl => ?_)
        refine lv_aload_n hx hb dX7_worst_47 rfl (lv_at hl 1 rfl) ?_
        refine va_get (D := zD v) (ci := 6) (v := .ref (zA v 6)) (C := RX7) (T := TX7) (N := 11) hx hb hts iX7 hown hk.1 hP 0 rfl rfl 6 (by decide) (hts _ fl_X7_43) (fun _ h9 => h9) rfl dX7_worst_48 ?_
        refine va_get (D := zD v) (ci := 3) (v := .int (q10.2 6 1)) (C := RX4) (T := TX4) (N := 2) hx hb hts iX4 hown hk.1 hP 6 rfl rfl 1 (by decide) (hts _ fl_X7_189) (fun _ h9 => h9) rfl dX7_worst_51 ?_
        obtain ⟨x11, ex11, hf⟩ := lt_e hf
        refine lv_nm ex11 ?_
        refine lv_istore (lv' := [(5, .int x11), (4, .int q10.1), (0, .ref (zA v 0)), (1, .int x.1), (2, .int x.2.1), (3, .int x.2.2.1), (6, .int x.2.2.2.2.2.1)]) hx hb dX7_worst_54 hl (by decide) rfl (fun ls hl => ?_)
        exact wb56 h25 hh25 x.1 x.2.1 x.2.2.1 q10.1 x11 x.2.2.2.2.2.1 q10.2 hf _ _ _ hP hS (lv_sub hl [2, 3, 4, 5, 1, 0, 6] rfl)
  unfold x_X7_worst at hf
  refine lv_iload_n hx hb dX7_worst_0 rfl (lv_at hl 1 rfl) ?_
  refine lv_if_lt (tgt := 9) hx hb dX7_worst_1 (by decide) (fun c1 => ?_) (fun c1 => ?_)
  · have hf := ite_t c1 hf
    refine lv_bipush (v := -2) hx hb dX7_worst_9 kB_m2 ?_
    exact hret _ _ _ _ _ _ (Or.inl rfl) (Option.some.inj hf) hP hS dX7_worst_11
  · have hf := ite_f c1 hf
    refine lv_iload_n hx hb dX7_worst_4 rfl (lv_at hl 1 rfl) ?_
    refine lv_iconst (v := 1) hx hb dX7_worst_5 kI_1 ?_
    refine lv_icmp_le (tgt := 12) hx hb dX7_worst_6 (by decide) (fun c2 => ?_) (fun c2 => ?_)
    · have hf := ite_t c2 hf
      refine lv_iconst (v := -1) hx hb dX7_worst_12 kI_m1 ?_
      refine lv_istore_n (lv' := [(2, .int (-1 : Int32)), (0, .ref (zA v 0)), (1, .int a1)]) hx hb dX7_worst_13 rfl hl (by decide) rfl (fun ls hl => ?_)
      refine lv_iconst (v := 0) hx hb dX7_worst_14 kI_0 ?_
      refine lv_istore_n (lv' := [(3, .int (0 : Int32)), (2, .int (-1 : Int32)), (0, .ref (zA v 0)), (1, .int a1)]) hx hb dX7_worst_15 rfl hl (by decide) rfl (fun ls hl => ?_)
      refine lv_iconst (v := -1) hx hb dX7_worst_16 kI_m1 ?_
      refine lv_istore (lv' := [(4, .int (-1 : Int32)), (3, .int (0 : Int32)), (2, .int (-1 : Int32)), (0, .ref (zA v 0)), (1, .int a1)]) hx hb dX7_worst_17 hl (by decide) rfl (fun ls hl => ?_)
      refine lv_iconst (v := -1) hx hb dX7_worst_19 kI_m1 ?_
      refine lv_istore (lv' := [(5, .int (-1 : Int32)), (4, .int (-1 : Int32)), (3, .int (0 : Int32)), (2, .int (-1 : Int32)), (0, .ref (zA v 0)), (1, .int a1)]) hx hb dX7_worst_20 hl (by decide) rfl (fun ls hl => ?_)
      refine lv_iconst (v := 0) hx hb dX7_worst_22 kI_0 ?_
      refine lv_istore (lv' := [(6, .int (0 : Int32)), (5, .int (-1 : Int32)), (4, .int (-1 : Int32)), (3, .int (0 : Int32)), (2, .int (-1 : Int32)), (0, .ref (zA v 0)), (1, .int a1)]) hx hb dX7_worst_23 hl (by decide) rfl (fun ls hl => ?_)
      exact wL25 N (a1, (-1 : Int32), (0 : Int32), (-1 : Int32), (-1 : Int32), (0 : Int32), g) hf _ _ _ hP hS (lv_sub hl [5, 6, 4, 3, 2, 1, 0] rfl)
    · have hf := ite_f c2 hf
      refine lv_bipush (v := -2) hx hb dX7_worst_9 kB_m2 ?_
      exact hret _ _ _ _ _ _ (Or.inl rfl) (Option.some.inj hf) hP hS dX7_worst_11
abbrev rm_X7_tryAllOn : Room := { frames := 5, cells := 0, slots := 0, locals := 154 }
set_option maxRecDepth 100000 in
theorem t_X7_tryAllOn (l : Launch) (v : Ev) (N : Nat) (g : Sg) (res : Sg) (hf : x_X7_tryAllOn N g = some res) : Cv l yX7_tryAllOn cX7_tryAllOn 6 rm_X7_tryAllOn pX v [.ref (zA v 0)] g res := by
  refine ze_v (by decide +kernel) (Nat.le_of_ble_eq_true rfl) ?_
  intro p e s m args below meth c Q ls hcx hret hP hl
  obtain ⟨hx, hb, hml, hown, hts, hk⟩ := hcx
  have hown : s.vm.findClass RX7 = some m.cls := hown
  have hS : va_S (An nX v) s.heap s.heap [] := va_S.rf
  have hl : lv_has ls 6 [(0, .ref (zA v 0))] := hl
  have wb108 : ∀ (h35 : Int32 × Int32 × Int32 × Sg → Option (Sg)) (hh35 : ∀ x : Int32 × Int32 × Int32 × Sg, h35 x = some res → ∀ (H : Heap) (locs : List Loc) (ls : Array Slot), va_P (zD v) vwCl (pX.1 v x.2.2.2) H → va_S (An nX v) s.heap H locs → lv_has ls 6 [(0, .ref (zA v 0)), (1, .int x.1), (2, .int x.2.1), (3, .int x.2.2.1)] → W p l e rm_X7_tryAllOn s m args below meth c H locs 0 0 Q (F0 m 35 ls [])) (y1 : Int32) (y2 : Int32) (y3 : Int32) (g : Sg) (hf : x_X7_tryAllOn_b108 N h35 y1 y2 y3 g = some res) (H : Heap) (locs : List Loc) (ls : Array Slot) (hP : va_P (zD v) vwCl (pX.1 v g) H) (hS : va_S (An nX v) s.heap H locs) (hl : lv_has ls 6 [(0, .ref (zA v 0)), (1, .int y1), (2, .int y2), (3, .int y3)]), W p l e rm_X7_tryAllOn s m args below meth c H locs 0 0 Q (F0 m 108 ls []) := by
    intro h35 hh35 y1 y2 y3 g hf H locs ls hP hS hl
    unfold x_X7_tryAllOn_b108 at hf
    obtain ⟨x10, ex10, hf⟩ := lt_e hf
    refine lv_iinc (v := x10) (lv' := [(3, .int x10), (0, .ref (zA v 0)), (1, .int y1), (2, .int y2)]) hx hb dX7_tryAllOn_108 hl (k := 3) rfl ((congrArg (fun z => y3 + z) kI_1).trans ex10.symm) (by decide) rfl (fun ls hl => ?_)
    refine lv_goto (tgt := 35) hx hb dX7_tryAllOn_111 (by decide) ?_
    exact hh35 (y1, y2, x10, g) hf _ _ _ hP hS (lv_sub hl [1, 2, 3, 0] rfl)
  have wL35 : ∀ (n : Nat) (x : Int32 × Int32 × Int32 × Sg), lp (x_X7_tryAllOn_B35 N) n x = some res → ∀ (H : Heap) (locs : List Loc) (ls : Array Slot), va_P (zD v) vwCl (pX.1 v x.2.2.2) H → va_S (An nX v) s.heap H locs → lv_has ls 6 [(0, .ref (zA v 0)), (1, .int x.1), (2, .int x.2.1), (3, .int x.2.2.1)] → W p l e rm_X7_tryAllOn s m args below meth c H locs 0 0 Q (F0 m 35 ls []) := by
    refine lp_w (P := fun x : Int32 × Int32 × Int32 × Sg => ∀ (H : Heap) (locs : List Loc) (ls : Array Slot), va_P (zD v) vwCl (pX.1 v x.2.2.2) H → va_S (An nX v) s.heap H locs → lv_has ls 6 [(0, .ref (zA v 0)), (1, .int x.1), (2, .int x.2.1), (3, .int x.2.2.1)] → W p l e rm_X7_tryAllOn s m args below meth c H locs 0 0 Q (F0 m 35 ls [])) ?_
    intro h35 hh35 x hf H locs ls hP hS hl
    unfold x_X7_tryAllOn_B35 at hf
    refine lv_iload_n hx hb dX7_tryAllOn_35 rfl (lv_at hl 3 rfl) ?_
    refine lv_aload_n hx hb dX7_tryAllOn_36 rfl (lv_at hl 0 rfl) ?_
    refine va_get (D := zD v) (ci := 6) (v := .ref (zA v 1)) (C := RX7) (T := TX7) (N := 11) hx hb hts iX7 hown hk.1 hP 0 rfl rfl 0 (by decide) (hts _ fl_X7_10) (fun _ h9 => h9) rfl dX7_tryAllOn_37 ?_
    obtain ⟨q6, eq6, hf⟩ := bd_e hf
    refine zki hS (zrV (As := []) (rest := [.int x.2.2.1]) okX hx hb hml hown hts hk hP hS (t_X5_shoes l v N x.2.2.2 _ eq6) vk_X5_shoes ml_X7_226 rfl rfl ⟨(Nat.le_of_ble_eq_true rfl), (Nat.le_of_ble_eq_true rfl)⟩ (va_recv (q := (RX5, TX5, 10)) hk.1 hP (q0 := 1) (ci := 4) rfl rfl) rfl hl.1 rfl (Nat.le_of_ble_eq_true rfl) dX7_tryAllOn_40) (fun H locs hP hS => ?_)
    refine lv_icmp_ge (tgt := 114) hx hb dX7_tryAllOn_43 (by decide) (fun c7 => ?_) (fun c7 => ?_)
    · have hf := ite_t c7 hf
      exact hret _ _ _ _ _ (Option.some.inj hf) hP hS dX7_tryAllOn_114
    · have hf := ite_f c7 hf
      refine lv_aload_n hx hb dX7_tryAllOn_46 rfl (lv_at hl 0 rfl) ?_
      refine va_get (D := zD v) (ci := 6) (v := .ref (zA v 1)) (C := RX7) (T := TX7) (N := 11) hx hb hts iX7 hown hk.1 hP 0 rfl rfl 0 (by decide) (hts _ fl_X7_10) (fun _ h9 => h9) rfl dX7_tryAllOn_47 ?_
      refine lv_iload_n hx hb dX7_tryAllOn_50 rfl (lv_at hl 3 rfl) ?_
      obtain ⟨q8, eq8, hf⟩ := bd_e hf
      refine zki hS (zrV (As := [.int x.2.2.1]) (rest := []) okX hx hb hml hown hts hk hP hS (t_X5_stocks l v N x.2.2.1 q6.2 _ eq8) vk_X5_stocks ml_X7_229 rfl rfl ⟨(Nat.le_of_ble_eq_true rfl), (Nat.le_of_ble_eq_true rfl)⟩ (va_recv (q := (RX5, TX5, 10)) hk.1 hP (q0 := 1) (ci := 4) rfl rfl) rfl hl.1 rfl (Nat.le_of_ble_eq_true rfl) dX7_tryAllOn_51) (fun H locs hP hS => ?_)
      refine lv_if_eq (tgt := 108) hx hb dX7_tryAllOn_54 (by decide) (fun c9 => ?_) (fun c9 => ?_)
      · have hf := ite_t c9 hf
        exact wb108 h35 hh35 x.1 x.2.1 x.2.2.1 q8.2 hf _ _ _ hP hS (lv_sub hl [0, 1, 2, 3] rfl)
      · have hf := ite_f c9 hf
        refine lv_aload_n hx hb dX7_tryAllOn_57 rfl (lv_at hl 0 rfl) ?_
        refine lv_iload_n hx hb dX7_tryAllOn_58 rfl (lv_at hl 3 rfl) ?_
        refine lv_iconst (v := 0) hx hb dX7_tryAllOn_59 kI_0 ?_
        refine lv_iload_n hx hb dX7_tryAllOn_60 rfl (lv_at hl 1 rfl) ?_
        obtain ⟨q11, eq11, hf⟩ := bd_e hf
        refine zki hS (zrV (As := [.int x.2.2.1, .int (0 : Int32), .int x.1]) (rest := []) okX hx hb hml hown hts hk hP hS (t_X7_rubbing l v N x.2.2.1 (0 : Int32) x.1 q8.2 _ eq11) vk_X7_rubbing ml_X7_260 rfl rfl ⟨(Nat.le_of_ble_eq_true rfl), (Nat.le_of_ble_eq_true rfl)⟩ (va_recv (q := (RX7, TX7, 11)) hk.1 hP (q0 := 0) (ci := 6) rfl rfl) rfl hl.1 rfl (Nat.le_of_ble_eq_true rfl) dX7_tryAllOn_61) (fun H locs hP hS => ?_)
        refine lv_istore (lv' := [(4, .int q11.1), (0, .ref (zA v 0)), (1, .int x.1), (2, .int x.2.1), (3, .int x.2.2.1)]) hx hb dX7_tryAllOn_64 hl (by decide) rfl (fun ls hl => ?_)
        refine lv_aload_n hx hb dX7_tryAllOn_66 rfl (lv_at hl 1 rfl) ?_
        refine lv_iload_n hx hb dX7_tryAllOn_67 rfl (lv_at hl 4 rfl) ?_
        refine lv_iconst (v := 1) hx hb dX7_tryAllOn_68 kI_1 ?_
        refine lv_iload_n hx hb dX7_tryAllOn_69 rfl (lv_at hl 3 rfl) ?_
        obtain ⟨q12, eq12, hf⟩ := bd_e hf
        refine zki hS (zrV (As := [.int x.2.2.1, .int (1 : Int32), .int x.2.1]) (rest := []) okX hx hb hml hown hts hk hP hS (t_X7_rubbing l v N x.2.2.1 (1 : Int32) x.2.1 q11.2 _ eq12) vk_X7_rubbing ml_X7_260 rfl rfl ⟨(Nat.le_of_ble_eq_true rfl), (Nat.le_of_ble_eq_true rfl)⟩ (va_recv (q := (RX7, TX7, 11)) hk.1 hP (q0 := 0) (ci := 6) rfl rfl) rfl hl.1 rfl (Nat.le_of_ble_eq_true rfl) dX7_tryAllOn_70) (fun H locs hP hS => ?_)
        refine lv_istore (lv' := [(5, .int q12.1), (4, .int q11.1), (0, .ref (zA v 0)), (1, .int x.1), (2, .int x.2.1), (3, .int x.2.2.1)]) hx hb dX7_tryAllOn_73 hl (by decide) rfl (fun ls hl => ?_)
        refine lv_aload_n hx hb dX7_tryAllOn_75 rfl (lv_at hl 2 rfl) ?_
        refine va_get (D := zD v) (ci := 6) (v := .ref (zA v 7)) (C := RX7) (T := TX7) (N := 11) hx hb hts iX7 hown hk.1 hP 0 rfl rfl 8 (by decide) (hts _ fl_X7_54) (fun _ h9 => h9) rfl dX7_tryAllOn_76 ?_
        refine lv_iload_n hx hb dX7_tryAllOn_79 rfl (lv_at hl 5 rfl) ?_
        refine lv_iload hx hb dX7_tryAllOn_80 (lv_at hl 1 rfl) ?_
        refine lv_iload hx hb dX7_tryAllOn_82 (lv_at hl 0 rfl) ?_
        refine lv_iadd hx hb dX7_tryAllOn_84 ?_
        obtain ⟨q13, eq13, hf⟩ := bd_e hf
        refine zkv hS (zrV (As := [.int x.2.2.1, .int (q11.1 + q12.1)]) (rest := []) okX hx hb hml hown hts hk hP hS (t_X1_offer_7 l v N x.2.2.1 (q11.1 + q12.1) q12.2 _ eq13) vk_X1_offer ml_X7_236 rfl rfl ⟨(Nat.le_of_ble_eq_true rfl), (Nat.le_of_ble_eq_true rfl)⟩ (va_recv (q := (RX1, TX1, 2)) hk.1 hP (q0 := 7) (ci := 0) rfl rfl) rfl hl.1 rfl (Nat.le_of_ble_eq_true rfl) dX7_tryAllOn_85) (fun H locs hP hS => ?_)
        refine lv_aload_n hx hb dX7_tryAllOn_88 rfl (lv_at hl 2 rfl) ?_
        refine va_get (D := zD v) (ci := 6) (v := .ref (zA v 8)) (C := RX7) (T := TX7) (N := 11) hx hb hts iX7 hown hk.1 hP 0 rfl rfl 9 (by decide) (hts _ fl_X7_58) (fun _ h9 => h9) rfl dX7_tryAllOn_89 ?_
        refine lv_iload_n hx hb dX7_tryAllOn_92 rfl (lv_at hl 5 rfl) ?_
        refine lv_iload hx hb dX7_tryAllOn_93 (lv_at hl 1 rfl) ?_
        obtain ⟨q14, eq14, hf⟩ := bd_e hf
        refine zkv hS (zrV (As := [.int x.2.2.1, .int q11.1]) (rest := []) okX hx hb hml hown hts hk hP hS (t_X1_offer_8 l v N x.2.2.1 q11.1 q13 _ eq14) vk_X1_offer ml_X7_236 rfl rfl ⟨(Nat.le_of_ble_eq_true rfl), (Nat.le_of_ble_eq_true rfl)⟩ (va_recv (q := (RX1, TX1, 2)) hk.1 hP (q0 := 8) (ci := 0) rfl rfl) rfl hl.1 rfl (Nat.le_of_ble_eq_true rfl) dX7_tryAllOn_95) (fun H locs hP hS => ?_)
        refine lv_aload_n hx hb dX7_tryAllOn_98 rfl (lv_at hl 2 rfl) ?_
        refine va_get (D := zD v) (ci := 6) (v := .ref (zA v 9)) (C := RX7) (T := TX7) (N := 11) hx hb hts iX7 hown hk.1 hP 0 rfl rfl 10 (by decide) (hts _ fl_X7_61) (fun _ h9 => h9) rfl dX7_tryAllOn_99 ?_
        refine lv_iload_n hx hb dX7_tryAllOn_102 rfl (lv_at hl 5 rfl) ?_
        refine lv_iload hx hb dX7_tryAllOn_103 (lv_at hl 0 rfl) ?_
        obtain ⟨q15, eq15, hf⟩ := bd_e hf
        refine zkv hS (zrV (As := [.int x.2.2.1, .int q12.1]) (rest := []) okX hx hb hml hown hts hk hP hS (t_X1_offer_9 l v N x.2.2.1 q12.1 q14 _ eq15) vk_X1_offer ml_X7_236 rfl rfl ⟨(Nat.le_of_ble_eq_true rfl), (Nat.le_of_ble_eq_true rfl)⟩ (va_recv (q := (RX1, TX1, 2)) hk.1 hP (q0 := 9) (ci := 0) rfl rfl) rfl hl.1 rfl (Nat.le_of_ble_eq_true rfl) dX7_tryAllOn_105) (fun H locs hP hS => ?_)
        exact wb108 h35 hh35 x.1 x.2.1 x.2.2.1 q15 hf _ _ _ hP hS (lv_sub hl [2, 3, 4, 5] rfl)
  unfold x_X7_tryAllOn at hf
  refine lv_aload_n hx hb dX7_tryAllOn_0 rfl (lv_at hl 0 rfl) ?_
  refine va_get (D := zD v) (ci := 6) (v := .ref (zA v 7)) (C := RX7) (T := TX7) (N := 11) hx hb hts iX7 hown hk.1 hP 0 rfl rfl 8 (by decide) (hts _ fl_X7_54) (fun _ h9 => h9) rfl dX7_tryAllOn_1 ?_
  obtain ⟨q1, eq1, hf⟩ := bd_e hf
  refine zkv hS (zrV (As := []) (rest := []) okX hx hb hml hown hts hk hP hS (t_X1_clear_7 l v N g _ eq1) vk_X1_clear ml_X7_223 rfl rfl ⟨(Nat.le_of_ble_eq_true rfl), (Nat.le_of_ble_eq_true rfl)⟩ (va_recv (q := (RX1, TX1, 2)) hk.1 hP (q0 := 7) (ci := 0) rfl rfl) rfl hl.1 rfl (Nat.le_of_ble_eq_true rfl) dX7_tryAllOn_4) (fun H locs hP hS => ?_)
  refine lv_aload_n hx hb dX7_tryAllOn_7 rfl (lv_at hl 0 rfl) ?_
  refine va_get (D := zD v) (ci := 6) (v := .ref (zA v 8)) (C := RX7) (T := TX7) (N := 11) hx hb hts iX7 hown hk.1 hP 0 rfl rfl 9 (by decide) (hts _ fl_X7_58) (fun _ h9 => h9) rfl dX7_tryAllOn_8 ?_
  obtain ⟨q2, eq2, hf⟩ := bd_e hf
  refine zkv hS (zrV (As := []) (rest := []) okX hx hb hml hown hts hk hP hS (t_X1_clear_8 l v N q1 _ eq2) vk_X1_clear ml_X7_223 rfl rfl ⟨(Nat.le_of_ble_eq_true rfl), (Nat.le_of_ble_eq_true rfl)⟩ (va_recv (q := (RX1, TX1, 2)) hk.1 hP (q0 := 8) (ci := 0) rfl rfl) rfl hl.1 rfl (Nat.le_of_ble_eq_true rfl) dX7_tryAllOn_11) (fun H locs hP hS => ?_)
  refine lv_aload_n hx hb dX7_tryAllOn_14 rfl (lv_at hl 0 rfl) ?_
  refine va_get (D := zD v) (ci := 6) (v := .ref (zA v 9)) (C := RX7) (T := TX7) (N := 11) hx hb hts iX7 hown hk.1 hP 0 rfl rfl 10 (by decide) (hts _ fl_X7_61) (fun _ h9 => h9) rfl dX7_tryAllOn_15 ?_
  obtain ⟨q3, eq3, hf⟩ := bd_e hf
  refine zkv hS (zrV (As := []) (rest := []) okX hx hb hml hown hts hk hP hS (t_X1_clear_9 l v N q2 _ eq3) vk_X1_clear ml_X7_223 rfl rfl ⟨(Nat.le_of_ble_eq_true rfl), (Nat.le_of_ble_eq_true rfl)⟩ (va_recv (q := (RX1, TX1, 2)) hk.1 hP (q0 := 9) (ci := 0) rfl rfl) rfl hl.1 rfl (Nat.le_of_ble_eq_true rfl) dX7_tryAllOn_18) (fun H locs hP hS => ?_)
  refine lv_aload_n hx hb dX7_tryAllOn_21 rfl (lv_at hl 0 rfl) ?_
  refine lv_iconst (v := 0) hx hb dX7_tryAllOn_22 kI_0 ?_
  obtain ⟨q4, eq4, hf⟩ := bd_e hf
  refine zki hS (zrV (As := [.int (0 : Int32)]) (rest := []) okX hx hb hml hown hts hk hP hS (t_X7_footNow l v N (0 : Int32) q3 _ eq4) vk_X7_footNow ml_X7_133 rfl rfl ⟨(Nat.le_of_ble_eq_true rfl), (Nat.le_of_ble_eq_true rfl)⟩ (va_recv (q := (RX7, TX7, 11)) hk.1 hP (q0 := 0) (ci := 6) rfl rfl) rfl hl.1 rfl (Nat.le_of_ble_eq_true rfl) dX7_tryAllOn_23) (fun H locs hP hS => ?_)
  refine lv_istore_n (lv' := [(1, .int q4.1), (0, .ref (zA v 0))]) hx hb dX7_tryAllOn_26 rfl hl (by decide) rfl (fun ls hl => ?_)
  refine lv_aload_n hx hb dX7_tryAllOn_27 rfl (lv_at hl 1 rfl) ?_
  refine lv_iconst (v := 1) hx hb dX7_tryAllOn_28 kI_1 ?_
  obtain ⟨q5, eq5, hf⟩ := bd_e hf
  refine zki hS (zrV (As := [.int (1 : Int32)]) (rest := []) okX hx hb hml hown hts hk hP hS (t_X7_footNow l v N (1 : Int32) q4.2 _ eq5) vk_X7_footNow ml_X7_133 rfl rfl ⟨(Nat.le_of_ble_eq_true rfl), (Nat.le_of_ble_eq_true rfl)⟩ (va_recv (q := (RX7, TX7, 11)) hk.1 hP (q0 := 0) (ci := 6) rfl rfl) rfl hl.1 rfl (Nat.le_of_ble_eq_true rfl) dX7_tryAllOn_29) (fun H locs hP hS => ?_)
  refine lv_istore_n (lv' := [(2, .int q5.1), (1, .int q4.1), (0, .ref (zA v 0))]) hx hb dX7_tryAllOn_32 rfl hl (by decide) rfl (fun ls hl => ?_)
  refine lv_iconst (v := 0) hx hb dX7_tryAllOn_33 kI_0 ?_
  refine lv_istore_n (lv' := [(3, .int (0 : Int32)), (2, .int q5.1), (1, .int q4.1), (0, .ref (zA v 0))]) hx hb dX7_tryAllOn_34 rfl hl (by decide) rfl (fun ls hl => ?_)
  exact wL35 N (q4.1, q5.1, (0 : Int32), q5.2) hf _ _ _ hP hS (lv_sub hl [3, 2, 1, 0] rfl)
abbrev rm_X7_worth : Room := { frames := 5, cells := 0, slots := 0, locals := 151 }
set_option maxRecDepth 100000 in
theorem t_X7_worth (l : Launch) (v : Ev) (N : Nat) (g : Sg) (res : Int32 × Sg) (hf : x_X7_worth N g = some res) : Ci l yX7_worth cX7_worth 3 .int rm_X7_worth pX v [.ref (zA v 0)] g res := by
  refine ze_i (by decide +kernel) (Nat.le_of_ble_eq_true rfl) ?_
  intro p e s m args below meth c Q ls hcx hret hP hl
  obtain ⟨hx, hb, hml, hown, hts, hk⟩ := hcx
  have hown : s.vm.findClass RX7 = some m.cls := hown
  have hS : va_S (An nX v) s.heap s.heap [] := va_S.rf
  have hl : lv_has ls 3 [(0, .ref (zA v 0))] := hl
  unfold x_X7_worth at hf
  refine lv_aload_n hx hb dX7_worth_0 rfl (lv_at hl 0 rfl) ?_
  refine va_get (D := zD v) (ci := 6) (v := .ref (zA v 7)) (C := RX7) (T := TX7) (N := 11) hx hb hts iX7 hown hk.1 hP 0 rfl rfl 8 (by decide) (hts _ fl_X7_54) (fun _ h9 => h9) rfl dX7_worth_1 ?_
  refine va_get (D := zD v) (ci := 0) (v := .int (g 7 1)) (C := RX1) (T := TX1) (N := 2) hx hb hts iX1 hown hk.1 hP 7 rfl rfl 1 (by decide) (hts _ fl_X7_198) (fun _ h9 => h9) rfl dX7_worth_4 ?_
  refine lv_aload_n hx hb dX7_worth_7 rfl (lv_at hl 0 rfl) ?_
  refine va_get (D := zD v) (ci := 6) (v := .ref (zA v 8)) (C := RX7) (T := TX7) (N := 11) hx hb hts iX7 hown hk.1 hP 0 rfl rfl 9 (by decide) (hts _ fl_X7_58) (fun _ h9 => h9) rfl dX7_worth_8 ?_
  refine va_get (D := zD v) (ci := 0) (v := .int (g 8 1)) (C := RX1) (T := TX1) (N := 2) hx hb hts iX1 hown hk.1 hP 8 rfl rfl 1 (by decide) (hts _ fl_X7_198) (fun _ h9 => h9) rfl dX7_worth_11 ?_
  refine lv_isub hx hb dX7_worth_14 ?_
  refine lv_aload_n hx hb dX7_worth_15 rfl (lv_at hl 0 rfl) ?_
  refine va_get (D := zD v) (ci := 6) (v := .ref (zA v 9)) (C := RX7) (T := TX7) (N := 11) hx hb hts iX7 hown hk.1 hP 0 rfl rfl 10 (by decide) (hts _ fl_X7_61) (fun _ h9 => h9) rfl dX7_worth_16 ?_
  refine va_get (D := zD v) (ci := 0) (v := .int (g 9 1)) (C := RX1) (T := TX1) (N := 2) hx hb hts iX1 hown hk.1 hP 9 rfl rfl 1 (by decide) (hts _ fl_X7_198) (fun _ h9 => h9) rfl dX7_worth_19 ?_
  refine lv_isub hx hb dX7_worth_22 ?_
  obtain ⟨x1, ex1, hf⟩ := lt_e hf
  refine lv_nm ex1 ?_
  refine lv_istore_n (lv' := [(1, .int x1), (0, .ref (zA v 0))]) hx hb dX7_worth_23 rfl hl (by decide) rfl (fun ls hl => ?_)
  refine lv_aload_n hx hb dX7_worth_24 rfl (lv_at hl 1 rfl) ?_
  refine lv_aload_n hx hb dX7_worth_25 rfl (lv_at hl 1 rfl) ?_
  refine va_get (D := zD v) (ci := 6) (v := .ref (zA v 8)) (C := RX7) (T := TX7) (N := 11) hx hb hts iX7 hown hk.1 hP 0 rfl rfl 9 (by decide) (hts _ fl_X7_58) (fun _ h9 => h9) rfl dX7_worth_26 ?_
  refine va_get (D := zD v) (ci := 0) (v := .int (g 8 0)) (C := RX1) (T := TX1) (N := 2) hx hb hts iX1 hown hk.1 hP 8 rfl rfl 0 (by decide) (hts _ fl_X7_195) (fun _ h9 => h9) rfl dX7_worth_29 ?_
  obtain ⟨q2, eq2, hf⟩ := bd_e hf
  refine zki hS (zrV (As := [.int (g 8 0)]) (rest := []) okX hx hb hml hown hts hk hP hS (t_X7_priceOf l v N (g 8 0) g _ eq2) vk_X7_priceOf ml_X7_264 rfl rfl ⟨(Nat.le_of_ble_eq_true rfl), (Nat.le_of_ble_eq_true rfl)⟩ (va_recv (q := (RX7, TX7, 11)) hk.1 hP (q0 := 0) (ci := 6) rfl rfl) rfl hl.1 rfl (Nat.le_of_ble_eq_true rfl) dX7_worth_32) (fun H locs hP hS => ?_)
  refine lv_aload_n hx hb dX7_worth_35 rfl (lv_at hl 1 rfl) ?_
  refine lv_aload_n hx hb dX7_worth_36 rfl (lv_at hl 1 rfl) ?_
  refine va_get (D := zD v) (ci := 6) (v := .ref (zA v 9)) (C := RX7) (T := TX7) (N := 11) hx hb hts iX7 hown hk.1 hP 0 rfl rfl 10 (by decide) (hts _ fl_X7_61) (fun _ h9 => h9) rfl dX7_worth_37 ?_
  refine va_get (D := zD v) (ci := 0) (v := .int (q2.2 9 0)) (C := RX1) (T := TX1) (N := 2) hx hb hts iX1 hown hk.1 hP 9 rfl rfl 0 (by decide) (hts _ fl_X7_195) (fun _ h9 => h9) rfl dX7_worth_40 ?_
  obtain ⟨q3, eq3, hf⟩ := bd_e hf
  refine zki hS (zrV (As := [.int (q2.2 9 0)]) (rest := [.int q2.1]) okX hx hb hml hown hts hk hP hS (t_X7_priceOf l v N (q2.2 9 0) q2.2 _ eq3) vk_X7_priceOf ml_X7_264 rfl rfl ⟨(Nat.le_of_ble_eq_true rfl), (Nat.le_of_ble_eq_true rfl)⟩ (va_recv (q := (RX7, TX7, 11)) hk.1 hP (q0 := 0) (ci := 6) rfl rfl) rfl hl.1 rfl (Nat.le_of_ble_eq_true rfl) dX7_worth_43) (fun H locs hP hS => ?_)
  refine lv_iadd hx hb dX7_worth_46 ?_
  obtain ⟨x4, ex4, hf⟩ := lt_e hf
  refine lv_nm ex4 ?_
  refine lv_istore_n (lv' := [(2, .int x4), (1, .int x1), (0, .ref (zA v 0))]) hx hb dX7_worth_47 rfl hl (by decide) rfl (fun ls hl => ?_)
  refine lv_iload_n hx hb dX7_worth_48 rfl (lv_at hl 1 rfl) ?_
  refine lv_aload_n hx hb dX7_worth_49 rfl (lv_at hl 2 rfl) ?_
  refine lv_aload_n hx hb dX7_worth_50 rfl (lv_at hl 2 rfl) ?_
  refine va_get (D := zD v) (ci := 6) (v := .ref (zA v 7)) (C := RX7) (T := TX7) (N := 11) hx hb hts iX7 hown hk.1 hP 0 rfl rfl 8 (by decide) (hts _ fl_X7_54) (fun _ h9 => h9) rfl dX7_worth_51 ?_
  refine va_get (D := zD v) (ci := 0) (v := .int (q3.2 7 0)) (C := RX1) (T := TX1) (N := 2) hx hb hts iX1 hown hk.1 hP 7 rfl rfl 0 (by decide) (hts _ fl_X7_195) (fun _ h9 => h9) rfl dX7_worth_54 ?_
  obtain ⟨q5, eq5, hf⟩ := bd_e hf
  refine zki hS (zrV (As := [.int (q3.2 7 0)]) (rest := [.int x1]) okX hx hb hml hown hts hk hP hS (t_X7_priceOf l v N (q3.2 7 0) q3.2 _ eq5) vk_X7_priceOf ml_X7_264 rfl rfl ⟨(Nat.le_of_ble_eq_true rfl), (Nat.le_of_ble_eq_true rfl)⟩ (va_recv (q := (RX7, TX7, 11)) hk.1 hP (q0 := 0) (ci := 6) rfl rfl) rfl hl.1 rfl (Nat.le_of_ble_eq_true rfl) dX7_worth_57) (fun H locs hP hS => ?_)
  refine lv_iadd hx hb dX7_worth_60 ?_
  refine lv_iload_n hx hb dX7_worth_61 rfl (lv_at hl 0 rfl) ?_
  refine lv_iconst (v := 2) hx hb dX7_worth_62 kI_2 ?_
  refine lv_idiv hx hb dX7_worth_63 kz_2 ?_
  refine lv_isub hx hb dX7_worth_64 ?_
  exact hret _ _ _ _ _ _ (Or.inl rfl) (Option.some.inj hf) hP hS dX7_worth_65
abbrev rm_X7_pair : Room := { frames := 6, cells := 0, slots := 0, locals := 179 }
set_option maxRecDepth 100000 in
theorem t_X7_pair (l : Launch) (v : Ev) (N : Nat) (a1 : Int32) (g : Sg) (res : Int32 × Sg) (hf : x_X7_pair N a1 g = some res) : Ci l yX7_pair cX7_pair 2 .int rm_X7_pair pX v [.ref (zA v 0), .int a1] g res := by
  refine ze_i (by decide +kernel) (Nat.le_of_ble_eq_true rfl) ?_
  intro p e s m args below meth c Q ls hcx hret hP hl
  obtain ⟨hx, hb, hml, hown, hts, hk⟩ := hcx
  have hown : s.vm.findClass RX7 = some m.cls := hown
  have hS : va_S (An nX v) s.heap s.heap [] := va_S.rf
  have hl : lv_has ls 2 [(0, .ref (zA v 0)), (1, .int a1)] := hl
  have wb9 : ∀ (g : Sg) (hf : x_X7_pair_b9 N g = some res) (H : Heap) (locs : List Loc) (ls : Array Slot) (hP : va_P (zD v) vwCl (pX.1 v g) H) (hS : va_S (An nX v) s.heap H locs) (hl : lv_has ls 2 []), W p l e rm_X7_pair s m args below meth c H locs 0 0 Q (F0 m 9 ls []) := by
    intro g hf H locs ls hP hS hl
    unfold x_X7_pair_b9 at hf
    refine lv_ldc (v := -100000) hx hb hown (hts _ kc_X7_253) dX7_pair_9 ?_
    exact hret _ _ _ _ _ _ (Or.inl rfl) (Option.some.inj hf) hP hS dX7_pair_11
  unfold x_X7_pair at hf
  refine lv_iload_n hx hb dX7_pair_0 rfl (lv_at hl 1 rfl) ?_
  refine lv_if_lt (tgt := 9) hx hb dX7_pair_1 (by decide) (fun c1 => ?_) (fun c1 => ?_)
  · have hf := ite_t c1 hf
    exact wb9 g hf _ _ _ hP hS (lv_sub hl [] rfl)
  · have hf := ite_f c1 hf
    refine lv_iload_n hx hb dX7_pair_4 rfl (lv_at hl 1 rfl) ?_
    refine lv_iconst (v := 5) hx hb dX7_pair_5 kI_5 ?_
    refine lv_icmp_le (tgt := 12) hx hb dX7_pair_6 (by decide) (fun c2 => ?_) (fun c2 => ?_)
    · have hf := ite_t c2 hf
      refine lv_aload_n hx hb dX7_pair_12 rfl (lv_at hl 0 rfl) ?_
      obtain ⟨q3, eq3, hf⟩ := bd_e hf
      refine zkv hS (zrV (As := []) (rest := []) okX hx hb hml hown hts hk hP hS (t_X7_tryAllOn l v N g _ eq3) vk_X7_tryAllOn ml_X7_254 rfl rfl ⟨(Nat.le_of_ble_eq_true rfl), (Nat.le_of_ble_eq_true rfl)⟩ (va_recv (q := (RX7, TX7, 11)) hk.1 hP (q0 := 0) (ci := 6) rfl rfl) rfl hl.1 rfl (Nat.le_of_ble_eq_true rfl) dX7_pair_13) (fun H locs hP hS => ?_)
      refine lv_aload_n hx hb dX7_pair_16 rfl (lv_at hl 0 rfl) ?_
      refine va_get (D := zD v) (ci := 6) (v := .ref (zA v 7)) (C := RX7) (T := TX7) (N := 11) hx hb hts iX7 hown hk.1 hP 0 rfl rfl 8 (by decide) (hts _ fl_X7_54) (fun _ h9 => h9) rfl dX7_pair_17 ?_
      refine va_get (D := zD v) (ci := 0) (v := .int (q3 7 0)) (C := RX1) (T := TX1) (N := 2) hx hb hts iX1 hown hk.1 hP 7 rfl rfl 0 (by decide) (hts _ fl_X7_195) (fun _ h9 => h9) rfl dX7_pair_20 ?_
      refine lv_iconst (v := -1) hx hb dX7_pair_23 kI_m1 ?_
      refine lv_icmp_ne (tgt := 38) hx hb dX7_pair_24 (by decide) (fun c4 => ?_) (fun c4 => ?_)
      · have hf := ite_f c4 hf
        refine lv_iload_n hx hb dX7_pair_38 rfl (lv_at hl 1 rfl) ?_
        by_cases c5 : (a1).toInt < 0 ∨ 4 < (a1).toInt
        · have hf := ite_t c5 hf
          refine lv_tableOut (tgt := 120) hx hb dX7_pair_39 c5 (by decide) ?_
          refine lv_aload_n hx hb dX7_pair_120 rfl (lv_at hl 0 rfl) ?_
          obtain ⟨q6, eq6, hf⟩ := bd_e hf
          refine zki hS (zrV (As := []) (rest := []) okX hx hb hml hown hts hk hP hS (t_X7_worth l v N q3 _ eq6) vk_X7_worth ml_X7_257 rfl rfl ⟨(Nat.le_of_ble_eq_true rfl), (Nat.le_of_ble_eq_true rfl)⟩ (va_recv (q := (RX7, TX7, 11)) hk.1 hP (q0 := 0) (ci := 6) rfl rfl) rfl hl.1 rfl (Nat.le_of_ble_eq_true rfl) dX7_pair_121) (fun H locs hP hS => ?_)
          exact hret _ _ _ _ _ _ (Or.inl rfl) (Option.some.inj hf) hP hS dX7_pair_124
        · have hf := ite_f c5 hf
          by_cases c7 : ((a1).toInt - (0)).toNat = 0
          · have hf := ite_t c7 hf
            refine lv_tableIn (tgt := 72) hx hb dX7_pair_39 (fun h => c5 (Or.inl h)) (fun h => c5 (Or.inr h)) (by rw [c7]; rfl) (by decide) ?_
            refine lv_aload_n hx hb dX7_pair_72 rfl (lv_at hl 0 rfl) ?_
            refine va_get (D := zD v) (ci := 6) (v := .ref (zA v 7)) (C := RX7) (T := TX7) (N := 11) hx hb hts iX7 hown hk.1 hP 0 rfl rfl 8 (by decide) (hts _ fl_X7_54) (fun _ h9 => h9) rfl dX7_pair_73 ?_
            refine va_get (D := zD v) (ci := 0) (v := .int (q3 7 0)) (C := RX1) (T := TX1) (N := 2) hx hb hts iX1 hown hk.1 hP 7 rfl rfl 0 (by decide) (hts _ fl_X7_195) (fun _ h9 => h9) rfl dX7_pair_76 ?_
            exact hret _ _ _ _ _ _ (Or.inl rfl) (Option.some.inj hf) hP hS dX7_pair_79
          · have hf := ite_f c7 hf
            by_cases c8 : ((a1).toInt - (0)).toNat = 1
            · have hf := ite_t c8 hf
              refine lv_tableIn (tgt := 80) hx hb dX7_pair_39 (fun h => c5 (Or.inl h)) (fun h => c5 (Or.inr h)) (by rw [c8]; rfl) (by decide) ?_
              refine lv_aload_n hx hb dX7_pair_80 rfl (lv_at hl 0 rfl) ?_
              refine va_get (D := zD v) (ci := 6) (v := .ref (zA v 7)) (C := RX7) (T := TX7) (N := 11) hx hb hts iX7 hown hk.1 hP 0 rfl rfl 8 (by decide) (hts _ fl_X7_54) (fun _ h9 => h9) rfl dX7_pair_81 ?_
              refine va_get (D := zD v) (ci := 0) (v := .int (q3 7 1)) (C := RX1) (T := TX1) (N := 2) hx hb hts iX1 hown hk.1 hP 7 rfl rfl 1 (by decide) (hts _ fl_X7_198) (fun _ h9 => h9) rfl dX7_pair_84 ?_
              exact hret _ _ _ _ _ _ (Or.inl rfl) (Option.some.inj hf) hP hS dX7_pair_87
            · have hf := ite_f c8 hf
              by_cases c9 : ((a1).toInt - (0)).toNat = 2
              · have hf := ite_t c9 hf
                refine lv_tableIn (tgt := 88) hx hb dX7_pair_39 (fun h => c5 (Or.inl h)) (fun h => c5 (Or.inr h)) (by rw [c9]; rfl) (by decide) ?_
                refine lv_aload_n hx hb dX7_pair_88 rfl (lv_at hl 0 rfl) ?_
                refine va_get (D := zD v) (ci := 6) (v := .ref (zA v 8)) (C := RX7) (T := TX7) (N := 11) hx hb hts iX7 hown hk.1 hP 0 rfl rfl 9 (by decide) (hts _ fl_X7_58) (fun _ h9 => h9) rfl dX7_pair_89 ?_
                refine va_get (D := zD v) (ci := 0) (v := .int (q3 8 0)) (C := RX1) (T := TX1) (N := 2) hx hb hts iX1 hown hk.1 hP 8 rfl rfl 0 (by decide) (hts _ fl_X7_195) (fun _ h9 => h9) rfl dX7_pair_92 ?_
                exact hret _ _ _ _ _ _ (Or.inl rfl) (Option.some.inj hf) hP hS dX7_pair_95
              · have hf := ite_f c9 hf
                by_cases c10 : ((a1).toInt - (0)).toNat = 3
                · have hf := ite_t c10 hf
                  refine lv_tableIn (tgt := 96) hx hb dX7_pair_39 (fun h => c5 (Or.inl h)) (fun h => c5 (Or.inr h)) (by rw [c10]; rfl) (by decide) ?_
                  refine lv_aload_n hx hb dX7_pair_96 rfl (lv_at hl 0 rfl) ?_
                  refine va_get (D := zD v) (ci := 6) (v := .ref (zA v 9)) (C := RX7) (T := TX7) (N := 11) hx hb hts iX7 hown hk.1 hP 0 rfl rfl 10 (by decide) (hts _ fl_X7_61) (fun _ h9 => h9) rfl dX7_pair_97 ?_
                  refine va_get (D := zD v) (ci := 0) (v := .int (q3 9 0)) (C := RX1) (T := TX1) (N := 2) hx hb hts iX1 hown hk.1 hP 9 rfl rfl 0 (by decide) (hts _ fl_X7_195) (fun _ h9 => h9) rfl dX7_pair_100 ?_
                  exact hret _ _ _ _ _ _ (Or.inl rfl) (Option.some.inj hf) hP hS dX7_pair_103
                · have hf := ite_f c10 hf
                  by_cases c11 : ((a1).toInt - (0)).toNat = 4
                  · have hf := ite_t c11 hf
                    refine lv_tableIn (tgt := 104) hx hb dX7_pair_39 (fun h => c5 (Or.inl h)) (fun h => c5 (Or.inr h)) (by rw [c11]; rfl) (by decide) ?_
                    refine lv_aload_n hx hb dX7_pair_104 rfl (lv_at hl 0 rfl) ?_
                    refine va_get (D := zD v) (ci := 6) (v := .ref (zA v 8)) (C := RX7) (T := TX7) (N := 11) hx hb hts iX7 hown hk.1 hP 0 rfl rfl 9 (by decide) (hts _ fl_X7_58) (fun _ h9 => h9) rfl dX7_pair_105 ?_
                    refine va_get (D := zD v) (ci := 0) (v := .int (q3 8 1)) (C := RX1) (T := TX1) (N := 2) hx hb hts iX1 hown hk.1 hP 8 rfl rfl 1 (by decide) (hts _ fl_X7_198) (fun _ h9 => h9) rfl dX7_pair_108 ?_
                    refine lv_aload_n hx hb dX7_pair_111 rfl (lv_at hl 0 rfl) ?_
                    refine va_get (D := zD v) (ci := 6) (v := .ref (zA v 9)) (C := RX7) (T := TX7) (N := 11) hx hb hts iX7 hown hk.1 hP 0 rfl rfl 10 (by decide) (hts _ fl_X7_61) (fun _ h9 => h9) rfl dX7_pair_112 ?_
                    refine va_get (D := zD v) (ci := 0) (v := .int (q3 9 1)) (C := RX1) (T := TX1) (N := 2) hx hb hts iX1 hown hk.1 hP 9 rfl rfl 1 (by decide) (hts _ fl_X7_198) (fun _ h9 => h9) rfl dX7_pair_115 ?_
                    refine lv_iadd hx hb dX7_pair_118 ?_
                    exact hret _ _ _ _ _ _ (Or.inl rfl) (Option.some.inj hf) hP hS dX7_pair_119
                  · have hf := ite_f c11 hf
                    exact nn_e hf
      · have hf := ite_t c4 hf
        refine lv_iload_n hx hb dX7_pair_27 rfl (lv_at hl 1 rfl) ?_
        refine lv_iconst (v := 5) hx hb dX7_pair_28 kI_5 ?_
        refine lv_icmp_ne (tgt := 36) hx hb dX7_pair_29 (by decide) (fun c12 => ?_) (fun c12 => ?_)
        · have hf := ite_f c12 hf
          refine lv_iconst (v := -1) hx hb dX7_pair_36 kI_m1 ?_
          exact hret _ _ _ _ _ _ (Or.inl rfl) (Option.some.inj hf) hP hS dX7_pair_37
        · have hf := ite_t c12 hf
          refine lv_iconst (v := 0) hx hb dX7_pair_32 kI_0 ?_
          refine lv_goto (tgt := 37) hx hb dX7_pair_33 (by decide) ?_
          exact hret _ _ _ _ _ _ (Or.inl rfl) (Option.some.inj hf) hP hS dX7_pair_37
    · have hf := ite_f c2 hf
      exact wb9 g hf _ _ _ hP hS (lv_sub hl [] rfl)
abbrev rm_X7_markFitted : Room := { frames := 6, cells := 0, slots := 0, locals := 170 }
set_option maxRecDepth 100000 in
theorem t_X7_markFitted (l : Launch) (v : Ev) (N : Nat) (a1 : Int32) (a2 : Int32) (g : Sg) (res : Sg) (hf : x_X7_markFitted N a1 a2 g = some res) : Cv l yX7_markFitted cX7_markFitted 6 rm_X7_markFitted pX v [.ref (zA v 0), .int a1, .int a2] g res := by
  refine ze_v (by decide +kernel) (Nat.le_of_ble_eq_true rfl) ?_
  intro p e s m args below meth c Q ls hcx hret hP hl
  obtain ⟨hx, hb, hml, hown, hts, hk⟩ := hcx
  have hown : s.vm.findClass RX7 = some m.cls := hown
  have hS : va_S (An nX v) s.heap s.heap [] := va_S.rf
  have hl : lv_has ls 6 [(0, .ref (zA v 0)), (1, .int a1), (2, .int a2)] := hl
  have wb67 : ∀ (h10 : Int32 × Int32 × Sg → Option (Sg)) (hh10 : ∀ x : Int32 × Int32 × Sg, h10 x = some res → ∀ (H : Heap) (locs : List Loc) (ls : Array Slot), va_P (zD v) vwCl (pX.1 v x.2.2) H → va_S (An nX v) s.heap H locs → lv_has ls 6 [(0, .ref (zA v 0)), (2, .int x.1), (3, .int x.2.1)] → W p l e rm_X7_markFitted s m args below meth c H locs 0 0 Q (F0 m 10 ls [])) (y2 : Int32) (y3 : Int32) (g : Sg) (hf : x_X7_markFitted_b67 N h10 y2 y3 g = some res) (H : Heap) (locs : List Loc) (ls : Array Slot) (hP : va_P (zD v) vwCl (pX.1 v g) H) (hS : va_S (An nX v) s.heap H locs) (hl : lv_has ls 6 [(0, .ref (zA v 0)), (2, .int y2), (3, .int y3)]), W p l e rm_X7_markFitted s m args below meth c H locs 0 0 Q (F0 m 67 ls []) := by
    intro h10 hh10 y2 y3 g hf H locs ls hP hS hl
    unfold x_X7_markFitted_b67 at hf
    obtain ⟨x5, ex5, hf⟩ := lt_e hf
    refine lv_iinc (v := x5) (lv' := [(3, .int x5), (0, .ref (zA v 0)), (2, .int y2)]) hx hb dX7_markFitted_67 hl (k := 2) rfl ((congrArg (fun z => y3 + z) kI_1).trans ex5.symm) (by decide) rfl (fun ls hl => ?_)
    refine lv_goto (tgt := 10) hx hb dX7_markFitted_70 (by decide) ?_
    exact hh10 (y2, x5, g) hf _ _ _ hP hS (lv_sub hl [1, 2, 0] rfl)
  have wL46 : ∀ (h10 : Int32 × Int32 × Sg → Option (Sg)) (hh10 : ∀ x : Int32 × Int32 × Sg, h10 x = some res → ∀ (H : Heap) (locs : List Loc) (ls : Array Slot), va_P (zD v) vwCl (pX.1 v x.2.2) H → va_S (An nX v) s.heap H locs → lv_has ls 6 [(0, .ref (zA v 0)), (2, .int x.1), (3, .int x.2.1)] → W p l e rm_X7_markFitted s m args below meth c H locs 0 0 Q (F0 m 10 ls [])) (n : Nat) (x : Int32 × Int32 × Int32 × Int32 × Sg), lp (x_X7_markFitted_B46 N h10) n x = some res → ∀ (H : Heap) (locs : List Loc) (ls : Array Slot), va_P (zD v) vwCl (pX.1 v x.2.2.2.2) H → va_S (An nX v) s.heap H locs → lv_has ls 6 [(0, .ref (zA v 0)), (2, .int x.1), (3, .int x.2.1), (4, .int x.2.2.1), (5, .int x.2.2.2.1)] → W p l e rm_X7_markFitted s m args below meth c H locs 0 0 Q (F0 m 46 ls []) := by
    intro h10 hh10
    refine lp_w (P := fun x : Int32 × Int32 × Int32 × Int32 × Sg => ∀ (H : Heap) (locs : List Loc) (ls : Array Slot), va_P (zD v) vwCl (pX.1 v x.2.2.2.2) H → va_S (An nX v) s.heap H locs → lv_has ls 6 [(0, .ref (zA v 0)), (2, .int x.1), (3, .int x.2.1), (4, .int x.2.2.1), (5, .int x.2.2.2.1)] → W p l e rm_X7_markFitted s m args below meth c H locs 0 0 Q (F0 m 46 ls [])) ?_
    intro h46 hh46 x hf H locs ls hP hS hl
    unfold x_X7_markFitted_B46 at hf
    refine lv_iload hx hb dX7_markFitted_46 (lv_at hl 4 rfl) ?_
    refine lv_iload hx hb dX7_markFitted_48 (lv_at hl 3 rfl) ?_
    refine lv_icmp_gt (tgt := 67) hx hb dX7_markFitted_50 (by decide) (fun c8 => ?_) (fun c8 => ?_)
    · have hf := ite_t c8 hf
      exact wb67 h10 hh10 x.1 x.2.1 x.2.2.2.2 hf _ _ _ hP hS (lv_sub hl [0, 1, 2] rfl)
    · have hf := ite_f c8 hf
      refine lv_aload_n hx hb dX7_markFitted_53 rfl (lv_at hl 0 rfl) ?_
      refine va_get (D := zD v) (ci := 6) (v := .ref (zA v 10)) (C := RX7) (T := TX7) (N := 11) hx hb hts iX7 hown hk.1 hP 0 rfl rfl 7 (by decide) (hts _ fl_X7_47) (fun _ h9 => h9) rfl dX7_markFitted_54 ?_
      refine lv_iload hx hb dX7_markFitted_57 (lv_at hl 4 rfl) ?_
      refine lv_iconst (v := 1) hx hb dX7_markFitted_59 kI_1 ?_
      obtain ⟨c9, hf⟩ := gd_e hf
      refine va_iast hx hb hk.1 hP (zw_D okX hk _) hS 10 0 rfl rfl (inb_in c9) dX7_markFitted_60 (fun H locs hP1 _ hS => ?_)
      have hP : va_P (zD v) vwCl (pX.1 v (up x.2.2.2.2 10 (upd (x.2.2.2.2 10) (x.2.2.2.1).toNatClampNeg (1 : Int32)))) H := hP1
      obtain ⟨g10, eg10, hf⟩ := lt_e hf
      rw [← eg10] at hP
      obtain ⟨x11, ex11, hf⟩ := lt_e hf
      refine lv_iinc (v := x11) (lv' := [(5, .int x11), (0, .ref (zA v 0)), (2, .int x.1), (3, .int x.2.1), (4, .int x.2.2.1)]) hx hb dX7_markFitted_61 hl (k := 4) rfl ((congrArg (fun z => x.2.2.2.1 + z) kI_1).trans ex11.symm) (by decide) rfl (fun ls hl => ?_)
      refine lv_goto (tgt := 46) hx hb dX7_markFitted_64 (by decide) ?_
      exact hh46 (x.1, x.2.1, x.2.2.1, x11, g10) hf _ _ _ hP hS (lv_sub hl [1, 2, 3, 4, 0] rfl)
  have wL10 : ∀ (n : Nat) (x : Int32 × Int32 × Sg), lp (x_X7_markFitted_B10 N) n x = some res → ∀ (H : Heap) (locs : List Loc) (ls : Array Slot), va_P (zD v) vwCl (pX.1 v x.2.2) H → va_S (An nX v) s.heap H locs → lv_has ls 6 [(0, .ref (zA v 0)), (2, .int x.1), (3, .int x.2.1)] → W p l e rm_X7_markFitted s m args below meth c H locs 0 0 Q (F0 m 10 ls []) := by
    refine lp_w (P := fun x : Int32 × Int32 × Sg => ∀ (H : Heap) (locs : List Loc) (ls : Array Slot), va_P (zD v) vwCl (pX.1 v x.2.2) H → va_S (An nX v) s.heap H locs → lv_has ls 6 [(0, .ref (zA v 0)), (2, .int x.1), (3, .int x.2.1)] → W p l e rm_X7_markFitted s m args below meth c H locs 0 0 Q (F0 m 10 ls [])) ?_
    intro h10 hh10 x hf H locs ls hP hS hl
    unfold x_X7_markFitted_B10 at hf
    refine lv_iload_n hx hb dX7_markFitted_10 rfl (lv_at hl 2 rfl) ?_
    refine lv_iload_n hx hb dX7_markFitted_11 rfl (lv_at hl 1 rfl) ?_
    refine lv_icmp_ge (tgt := 73) hx hb dX7_markFitted_12 (by decide) (fun c2 => ?_) (fun c2 => ?_)
    · have hf := ite_t c2 hf
      exact hret _ _ _ _ _ (Option.some.inj hf) hP hS dX7_markFitted_73
    · have hf := ite_f c2 hf
      refine lv_aload_n hx hb dX7_markFitted_15 rfl (lv_at hl 0 rfl) ?_
      refine va_get (D := zD v) (ci := 6) (v := .ref (zA v 1)) (C := RX7) (T := TX7) (N := 11) hx hb hts iX7 hown hk.1 hP 0 rfl rfl 0 (by decide) (hts _ fl_X7_10) (fun _ h9 => h9) rfl dX7_markFitted_16 ?_
      refine lv_iload_n hx hb dX7_markFitted_19 rfl (lv_at hl 2 rfl) ?_
      obtain ⟨q3, eq3, hf⟩ := bd_e hf
      refine zki hS (zrV (As := [.int x.2.1]) (rest := []) okX hx hb hml hown hts hk hP hS (t_X5_stocks l v N x.2.1 x.2.2 _ eq3) vk_X5_stocks ml_X7_229 rfl rfl ⟨(Nat.le_of_ble_eq_true rfl), (Nat.le_of_ble_eq_true rfl)⟩ (va_recv (q := (RX5, TX5, 10)) hk.1 hP (q0 := 1) (ci := 4) rfl rfl) rfl hl.1 rfl (Nat.le_of_ble_eq_true rfl) dX7_markFitted_20) (fun H locs hP hS => ?_)
      refine lv_if_eq (tgt := 67) hx hb dX7_markFitted_23 (by decide) (fun c4 => ?_) (fun c4 => ?_)
      · have hf := ite_t c4 hf
        exact wb67 h10 hh10 x.1 x.2.1 q3.2 hf _ _ _ hP hS (lv_sub hl [0, 1, 2] rfl)
      · have hf := ite_f c4 hf
        refine lv_aload_n hx hb dX7_markFitted_26 rfl (lv_at hl 0 rfl) ?_
        refine va_get (D := zD v) (ci := 6) (v := .ref (zA v 1)) (C := RX7) (T := TX7) (N := 11) hx hb hts iX7 hown hk.1 hP 0 rfl rfl 0 (by decide) (hts _ fl_X7_10) (fun _ h9 => h9) rfl dX7_markFitted_27 ?_
        refine lv_iload_n hx hb dX7_markFitted_30 rfl (lv_at hl 2 rfl) ?_
        obtain ⟨q6, eq6, hf⟩ := bd_e hf
        refine zki hS (zrV (As := [.int x.2.1]) (rest := []) okX hx hb hml hown hts hk hP hS (t_X5_greatestFitted l v N x.2.1 q3.2 _ eq6) vk_X5_greatestFitted ml_X7_246 rfl rfl ⟨(Nat.le_of_ble_eq_true rfl), (Nat.le_of_ble_eq_true rfl)⟩ (va_recv (q := (RX5, TX5, 10)) hk.1 hP (q0 := 1) (ci := 4) rfl rfl) rfl hl.1 rfl (Nat.le_of_ble_eq_true rfl) dX7_markFitted_31) (fun H locs hP hS => ?_)
        refine lv_istore (lv' := [(4, .int q6.1), (0, .ref (zA v 0)), (2, .int x.1), (3, .int x.2.1)]) hx hb dX7_markFitted_34 hl (by decide) rfl (fun ls hl => ?_)
        refine lv_aload_n hx hb dX7_markFitted_36 rfl (lv_at hl 1 rfl) ?_
        refine va_get (D := zD v) (ci := 6) (v := .ref (zA v 1)) (C := RX7) (T := TX7) (N := 11) hx hb hts iX7 hown hk.1 hP 0 rfl rfl 0 (by decide) (hts _ fl_X7_10) (fun _ h9 => h9) rfl dX7_markFitted_37 ?_
        refine lv_iload_n hx hb dX7_markFitted_40 rfl (lv_at hl 3 rfl) ?_
        obtain ⟨q7, eq7, hf⟩ := bd_e hf
        refine zki hS (zrV (As := [.int x.2.1]) (rest := []) okX hx hb hml hown hts hk hP hS (t_X5_leastFitted l v N x.2.1 q6.2 _ eq7) vk_X5_leastFitted ml_X7_243 rfl rfl ⟨(Nat.le_of_ble_eq_true rfl), (Nat.le_of_ble_eq_true rfl)⟩ (va_recv (q := (RX5, TX5, 10)) hk.1 hP (q0 := 1) (ci := 4) rfl rfl) rfl hl.1 rfl (Nat.le_of_ble_eq_true rfl) dX7_markFitted_41) (fun H locs hP hS => ?_)
        refine lv_istore (lv' := [(5, .int q7.1), (4, .int q6.1), (0, .ref (zA v 0)), (2, .int x.1), (3, .int x.2.1)]) hx hb dX7_markFitted_44 hl (by decide) rfl (fun ls hl => ?_)
        exact wL46 h10 hh10 N (x.1, x.2.1, q6.1, q7.1, q7.2) hf _ _ _ hP hS (lv_sub hl [2, 3, 4, 1, 0] rfl)
  unfold x_X7_markFitted at hf
  refine lv_aload_n hx hb dX7_markFitted_0 rfl (lv_at hl 0 rfl) ?_
  refine va_get (D := zD v) (ci := 6) (v := .ref (zA v 10)) (C := RX7) (T := TX7) (N := 11) hx hb hts iX7 hown hk.1 hP 0 rfl rfl 7 (by decide) (hts _ fl_X7_47) (fun _ h9 => h9) rfl dX7_markFitted_1 ?_
  refine lv_iconst (v := 0) hx hb dX7_markFitted_4 kI_0 ?_
  obtain ⟨q1, eq1, hf⟩ := bd_e hf
  refine zkv hS (zrS (As := [.ref (zA v 10), .int (0 : Int32)]) (rest := []) okX hx hb hml hown hts hk hP hS (t_J7_fill_53178 l v N 10 100 (fun _ => rfl) (fun _ _ => rfl) (0 : Int32) g _ eq1) sk_J7_fill_53178 ml_X7_279 rfl rfl ⟨(Nat.le_of_ble_eq_true rfl), (Nat.le_of_ble_eq_true rfl)⟩ rfl hl.1 rfl (Nat.le_of_ble_eq_true rfl) dX7_markFitted_5) (fun H locs hP hS => ?_)
  refine lv_iload_n hx hb dX7_markFitted_8 rfl (lv_at hl 1 rfl) ?_
  refine lv_istore_n (lv' := [(3, .int a1), (0, .ref (zA v 0)), (1, .int a1), (2, .int a2)]) hx hb dX7_markFitted_9 rfl hl (by decide) rfl (fun ls hl => ?_)
  exact wL10 N (a2, a1, q1) hf _ _ _ hP hS (lv_sub hl [1, 3, 0] rfl)
abbrev rm_X7_served : Room := { frames := 7, cells := 0, slots := 0, locals := 195 }
set_option maxRecDepth 100000 in
theorem t_X7_served (l : Launch) (v : Ev) (N : Nat) (a1 : Int32) (g : Sg) (res : Int32 × Sg) (hf : x_X7_served N a1 g = some res) : Ci l yX7_served cX7_served 4 .int rm_X7_served pX v [.ref (zA v 0), .int a1] g res := by
  refine ze_i (by decide +kernel) (Nat.le_of_ble_eq_true rfl) ?_
  intro p e s m args below meth c Q ls hcx hret hP hl
  obtain ⟨hx, hb, hml, hown, hts, hk⟩ := hcx
  have hown : s.vm.findClass RX7 = some m.cls := hown
  have hS : va_S (An nX v) s.heap s.heap [] := va_S.rf
  have hl : lv_has ls 4 [(0, .ref (zA v 0)), (1, .int a1)] := hl
  have wL57 : ∀ (n : Nat) (x : Int32 × Int32 × Sg), lp (x_X7_served_B57 N) n x = some res → ∀ (H : Heap) (locs : List Loc) (ls : Array Slot), va_P (zD v) vwCl (pX.1 v x.2.2) H → va_S (An nX v) s.heap H locs → lv_has ls 4 [(0, .ref (zA v 0)), (2, .int x.1), (3, .int x.2.1)] → W p l e rm_X7_served s m args below meth c H locs 0 0 Q (F0 m 57 ls []) := by
    refine lp_w (P := fun x : Int32 × Int32 × Sg => ∀ (H : Heap) (locs : List Loc) (ls : Array Slot), va_P (zD v) vwCl (pX.1 v x.2.2) H → va_S (An nX v) s.heap H locs → lv_has ls 4 [(0, .ref (zA v 0)), (2, .int x.1), (3, .int x.2.1)] → W p l e rm_X7_served s m args below meth c H locs 0 0 Q (F0 m 57 ls [])) ?_
    intro h57 hh57 x hf H locs ls hP hS hl
    unfold x_X7_served_B57 at hf
    refine lv_iload_n hx hb dX7_served_57 rfl (lv_at hl 2 rfl) ?_
    refine lv_bipush (v := 100) hx hb dX7_served_58 kB_100 ?_
    refine lv_icmp_ge (tgt := 88) hx hb dX7_served_60 (by decide) (fun c4 => ?_) (fun c4 => ?_)
    · have hf := ite_t c4 hf
      refine lv_iload_n hx hb dX7_served_88 rfl (lv_at hl 1 rfl) ?_
      exact hret _ _ _ _ _ _ (Or.inl rfl) (Option.some.inj hf) hP hS dX7_served_89
    · have hf := ite_f c4 hf
      refine lv_iload_n hx hb dX7_served_63 rfl (lv_at hl 1 rfl) ?_
      refine lv_aload_n hx hb dX7_served_64 rfl (lv_at hl 0 rfl) ?_
      refine va_get (D := zD v) (ci := 6) (v := .ref (zA v 10)) (C := RX7) (T := TX7) (N := 11) hx hb hts iX7 hown hk.1 hP 0 rfl rfl 7 (by decide) (hts _ fl_X7_47) (fun _ h9 => h9) rfl dX7_served_65 ?_
      refine lv_iload_n hx hb dX7_served_68 rfl (lv_at hl 2 rfl) ?_
      obtain ⟨c5, hf⟩ := gd_e hf
      refine va_iald hx hb hk.1 hP 10 0 rfl rfl (inb_in c5) dX7_served_69 ?_
      refine lv_aload_n hx hb dX7_served_70 rfl (lv_at hl 0 rfl) ?_
      refine va_get (D := zD v) (ci := 6) (v := .ref (zA v 1)) (C := RX7) (T := TX7) (N := 11) hx hb hts iX7 hown hk.1 hP 0 rfl rfl 0 (by decide) (hts _ fl_X7_10) (fun _ h9 => h9) rfl dX7_served_71 ?_
      refine va_get (D := zD v) (ci := 4) (v := .ref (zA v 11)) (C := RX5) (T := TX5) (N := 10) hx hb hts iX5 hown hk.1 hP 1 rfl rfl 5 (by decide) (hts _ fl_X7_107) (fun _ h9 => h9) rfl dX7_served_74 ?_
      refine lv_iload_n hx hb dX7_served_77 rfl (lv_at hl 2 rfl) ?_
      obtain ⟨c6, hf⟩ := gd_e hf
      refine va_iald hx hb hk.1 hP 11 0 rfl rfl (inb_in c6) dX7_served_78 ?_
      refine lv_imul hx hb dX7_served_79 ?_
      refine lv_iadd hx hb dX7_served_80 ?_
      obtain ⟨x7, ex7, hf⟩ := lt_e hf
      refine lv_nm ex7 ?_
      refine lv_istore_n (lv' := [(2, .int x7), (0, .ref (zA v 0)), (3, .int x.2.1)]) hx hb dX7_served_81 rfl hl (by decide) rfl (fun ls hl => ?_)
      obtain ⟨x8, ex8, hf⟩ := lt_e hf
      refine lv_iinc (v := x8) (lv' := [(3, .int x8), (2, .int x7), (0, .ref (zA v 0))]) hx hb dX7_served_82 hl (k := 2) rfl ((congrArg (fun z => x.2.1 + z) kI_1).trans ex8.symm) (by decide) rfl (fun ls hl => ?_)
      refine lv_goto (tgt := 57) hx hb dX7_served_85 (by decide) ?_
      exact hh57 (x7, x8, x.2.2) hf _ _ _ hP hS (lv_sub hl [2, 1, 0] rfl)
  have wb53 : ∀ (g : Sg) (hf : x_X7_served_b53 N g = some res) (H : Heap) (locs : List Loc) (ls : Array Slot) (hP : va_P (zD v) vwCl (pX.1 v g) H) (hS : va_S (An nX v) s.heap H locs) (hl : lv_has ls 4 [(0, .ref (zA v 0))]), W p l e rm_X7_served s m args below meth c H locs 0 0 Q (F0 m 53 ls []) := by
    intro g hf H locs ls hP hS hl
    unfold x_X7_served_b53 at hf
    refine lv_iconst (v := 0) hx hb dX7_served_53 kI_0 ?_
    refine lv_istore_n (lv' := [(2, .int (0 : Int32)), (0, .ref (zA v 0))]) hx hb dX7_served_54 rfl hl (by decide) rfl (fun ls hl => ?_)
    refine lv_iconst (v := 0) hx hb dX7_served_55 kI_0 ?_
    refine lv_istore_n (lv' := [(3, .int (0 : Int32)), (2, .int (0 : Int32)), (0, .ref (zA v 0))]) hx hb dX7_served_56 rfl hl (by decide) rfl (fun ls hl => ?_)
    exact wL57 N ((0 : Int32), (0 : Int32), g) hf _ _ _ hP hS (lv_sub hl [2, 1, 0] rfl)
  have wb19 : ∀ (y1 : Int32) (g : Sg) (hf : x_X7_served_b19 N y1 g = some res) (H : Heap) (locs : List Loc) (ls : Array Slot) (hP : va_P (zD v) vwCl (pX.1 v g) H) (hS : va_S (An nX v) s.heap H locs) (hl : lv_has ls 4 [(0, .ref (zA v 0)), (1, .int y1)]), W p l e rm_X7_served s m args below meth c H locs 0 0 Q (F0 m 19 ls []) := by
    intro y1 g hf H locs ls hP hS hl
    unfold x_X7_served_b19 at hf
    refine lv_iload_n hx hb dX7_served_19 rfl (lv_at hl 1 rfl) ?_
    refine lv_iconst (v := -1) hx hb dX7_served_20 kI_m1 ?_
    refine lv_icmp_ne (tgt := 39) hx hb dX7_served_21 (by decide) (fun c2 => ?_) (fun c2 => ?_)
    · have hf := ite_f c2 hf
      refine lv_aload_n hx hb dX7_served_39 rfl (lv_at hl 0 rfl) ?_
      refine lv_iload_n hx hb dX7_served_40 rfl (lv_at hl 1 rfl) ?_
      refine lv_bipush (v := 20) hx hb dX7_served_41 kB_20 ?_
      refine lv_imul hx hb dX7_served_43 ?_
      refine lv_iload_n hx hb dX7_served_44 rfl (lv_at hl 1 rfl) ?_
      refine lv_iconst (v := 1) hx hb dX7_served_45 kI_1 ?_
      refine lv_iadd hx hb dX7_served_46 ?_
      refine lv_bipush (v := 20) hx hb dX7_served_47 kB_20 ?_
      refine lv_imul hx hb dX7_served_49 ?_
      obtain ⟨q3, eq3, hf⟩ := bd_e hf
      refine zkv hS (zrV (As := [.int (y1 * (20 : Int32)), .int ((y1 + (1 : Int32)) * (20 : Int32))]) (rest := []) okX hx hb hml hown hts hk hP hS (t_X7_markFitted l v N (y1 * (20 : Int32)) ((y1 + (1 : Int32)) * (20 : Int32)) g _ eq3) vk_X7_markFitted ml_X7_267 rfl rfl ⟨(Nat.le_of_ble_eq_true rfl), (Nat.le_of_ble_eq_true rfl)⟩ (va_recv (q := (RX7, TX7, 11)) hk.1 hP (q0 := 0) (ci := 6) rfl rfl) rfl hl.1 rfl (Nat.le_of_ble_eq_true rfl) dX7_served_50) (fun H locs hP hS => ?_)
      exact wb53 q3 hf _ _ _ hP hS (lv_sub hl [0] rfl)
    · have hf := ite_t c2 hf
      refine lv_aload_n hx hb dX7_served_24 rfl (lv_at hl 0 rfl) ?_
      refine lv_iconst (v := 0) hx hb dX7_served_25 kI_0 ?_
      refine lv_aload_n hx hb dX7_served_26 rfl (lv_at hl 0 rfl) ?_
      refine va_get (D := zD v) (ci := 6) (v := .ref (zA v 1)) (C := RX7) (T := TX7) (N := 11) hx hb hts iX7 hown hk.1 hP 0 rfl rfl 0 (by decide) (hts _ fl_X7_10) (fun _ h9 => h9) rfl dX7_served_27 ?_
      obtain ⟨q9, eq9, hf⟩ := bd_e hf
      refine zki hS (zrV (As := []) (rest := [.int (0 : Int32), .ref (zA v 0)]) okX hx hb hml hown hts hk hP hS (t_X5_shoes l v N g _ eq9) vk_X5_shoes ml_X7_226 rfl rfl ⟨(Nat.le_of_ble_eq_true rfl), (Nat.le_of_ble_eq_true rfl)⟩ (va_recv (q := (RX5, TX5, 10)) hk.1 hP (q0 := 1) (ci := 4) rfl rfl) rfl hl.1 rfl (Nat.le_of_ble_eq_true rfl) dX7_served_30) (fun H locs hP hS => ?_)
      obtain ⟨q10, eq10, hf⟩ := bd_e hf
      refine zkv hS (zrV (As := [.int (0 : Int32), .int q9.1]) (rest := []) okX hx hb hml hown hts hk hP hS (t_X7_markFitted l v N (0 : Int32) q9.1 q9.2 _ eq10) vk_X7_markFitted ml_X7_267 rfl rfl ⟨(Nat.le_of_ble_eq_true rfl), (Nat.le_of_ble_eq_true rfl)⟩ (va_recv (q := (RX7, TX7, 11)) hk.1 hP (q0 := 0) (ci := 6) rfl rfl) rfl hl.1 rfl (Nat.le_of_ble_eq_true rfl) dX7_served_33) (fun H locs hP hS => ?_)
      refine lv_goto (tgt := 53) hx hb dX7_served_36 (by decide) ?_
      exact wb53 q10 hf _ _ _ hP hS (lv_sub hl [0] rfl)
  unfold x_X7_served at hf
  refine lv_iload_n hx hb dX7_served_0 rfl (lv_at hl 1 rfl) ?_
  refine lv_iconst (v := -1) hx hb dX7_served_1 kI_m1 ?_
  refine lv_icmp_eq (tgt := 19) hx hb dX7_served_2 (by decide) (fun c1 => ?_) (fun c1 => ?_)
  · have hf := ite_t c1 hf
    exact wb19 a1 g hf _ _ _ hP hS (lv_sub hl [0, 1] rfl)
  · have hf := ite_f c1 hf
    refine lv_aload_n hx hb dX7_served_5 rfl (lv_at hl 0 rfl) ?_
    refine va_get (D := zD v) (ci := 6) (v := .ref (zA v 1)) (C := RX7) (T := TX7) (N := 11) hx hb hts iX7 hown hk.1 hP 0 rfl rfl 0 (by decide) (hts _ fl_X7_10) (fun _ h9 => h9) rfl dX7_served_6 ?_
    refine lv_iload_n hx hb dX7_served_9 rfl (lv_at hl 1 rfl) ?_
    obtain ⟨q11, eq11, hf⟩ := bd_e hf
    refine zki hS (zrV (As := [.int a1]) (rest := []) okX hx hb hml hown hts hk hP hS (t_X5_hasMake l v N a1 g _ eq11) vk_X5_hasMake ml_X7_130 rfl rfl ⟨(Nat.le_of_ble_eq_true rfl), (Nat.le_of_ble_eq_true rfl)⟩ (va_recv (q := (RX5, TX5, 10)) hk.1 hP (q0 := 1) (ci := 4) rfl rfl) rfl hl.1 rfl (Nat.le_of_ble_eq_true rfl) dX7_served_10) (fun H locs hP hS => ?_)
    refine lv_if_ne (tgt := 19) hx hb dX7_served_13 (by decide) (fun c12 => ?_) (fun c12 => ?_)
    · have hf := ite_f c12 hf
      exact wb19 a1 q11.2 hf _ _ _ hP hS (lv_sub hl [0, 1] rfl)
    · have hf := ite_t c12 hf
      refine lv_bipush (v := -2) hx hb dX7_served_16 kB_m2 ?_
      exact hret _ _ _ _ _ _ (Or.inl rfl) (Option.some.inj hf) hP hS dX7_served_18
abbrev rm_X7_servedBySet : Room := { frames := 6, cells := 0, slots := 0, locals := 170 }
set_option maxRecDepth 100000 in
theorem t_X7_servedBySet (l : Launch) (v : Ev) (N : Nat) (a1 : Int32) (a2 : Int32) (g : Sg) (res : Int32 × Sg) (hf : x_X7_servedBySet N a1 a2 g = some res) : Ci l yX7_servedBySet cX7_servedBySet 8 .int rm_X7_servedBySet pX v [.ref (zA v 0), .int a1, .int a2] g res := by
  refine ze_i (by decide +kernel) (Nat.le_of_ble_eq_true rfl) ?_
  intro p e s m args below meth c Q ls hcx hret hP hl
  obtain ⟨hx, hb, hml, hown, hts, hk⟩ := hcx
  have hown : s.vm.findClass RX7 = some m.cls := hown
  have hS : va_S (An nX v) s.heap s.heap [] := va_S.rf
  have hl : lv_has ls 8 [(0, .ref (zA v 0)), (1, .int a1), (2, .int a2)] := hl
  have wb82 : ∀ (h10 : Int32 × Int32 × Int32 × Int32 × Int32 × Sg → Option (Int32 × Sg)) (hh10 : ∀ x : Int32 × Int32 × Int32 × Int32 × Int32 × Sg, h10 x = some res → ∀ (H : Heap) (locs : List Loc) (ls : Array Slot), va_P (zD v) vwCl (pX.1 v x.2.2.2.2.2) H → va_S (An nX v) s.heap H locs → lv_has ls 8 [(0, .ref (zA v 0)), (1, .int x.1), (2, .int x.2.1), (3, .int x.2.2.1), (4, .int x.2.2.2.1), (5, .int x.2.2.2.2.1)] → W p l e rm_X7_servedBySet s m args below meth c H locs 0 0 Q (F0 m 10 ls [])) (y1 : Int32) (y2 : Int32) (y3 : Int32) (y4 : Int32) (y5 : Int32) (g : Sg) (hf : x_X7_servedBySet_b82 N h10 y1 y2 y3 y4 y5 g = some res) (H : Heap) (locs : List Loc) (ls : Array Slot) (hP : va_P (zD v) vwCl (pX.1 v g) H) (hS : va_S (An nX v) s.heap H locs) (hl : lv_has ls 8 [(0, .ref (zA v 0)), (1, .int y1), (2, .int y2), (3, .int y3), (4, .int y4), (5, .int y5)]), W p l e rm_X7_servedBySet s m args below meth c H locs 0 0 Q (F0 m 82 ls []) := by
    intro h10 hh10 y1 y2 y3 y4 y5 g hf H locs ls hP hS hl
    unfold x_X7_servedBySet_b82 at hf
    obtain ⟨x3, ex3, hf⟩ := lt_e hf
    refine lv_iinc (v := x3) (lv' := [(5, .int x3), (0, .ref (zA v 0)), (1, .int y1), (2, .int y2), (3, .int y3), (4, .int y4)]) hx hb dX7_servedBySet_82 hl (k := 5) rfl ((congrArg (fun z => y5 + z) kI_m1).trans ex3.symm) (by decide) rfl (fun ls hl => ?_)
    refine lv_goto (tgt := 10) hx hb dX7_servedBySet_85 (by decide) ?_
    exact hh10 (y1, y2, y3, y4, x3, g) hf _ _ _ hP hS (lv_sub hl [1, 2, 3, 4, 5, 0] rfl)
  have wL10 : ∀ (n : Nat) (x : Int32 × Int32 × Int32 × Int32 × Int32 × Sg), lp (x_X7_servedBySet_B10 N) n x = some res → ∀ (H : Heap) (locs : List Loc) (ls : Array Slot), va_P (zD v) vwCl (pX.1 v x.2.2.2.2.2) H → va_S (An nX v) s.heap H locs → lv_has ls 8 [(0, .ref (zA v 0)), (1, .int x.1), (2, .int x.2.1), (3, .int x.2.2.1), (4, .int x.2.2.2.1), (5, .int x.2.2.2.2.1)] → W p l e rm_X7_servedBySet s m args below meth c H locs 0 0 Q (F0 m 10 ls []) := by
    refine lp_w (P := fun x : Int32 × Int32 × Int32 × Int32 × Int32 × Sg => ∀ (H : Heap) (locs : List Loc) (ls : Array Slot), va_P (zD v) vwCl (pX.1 v x.2.2.2.2.2) H → va_S (An nX v) s.heap H locs → lv_has ls 8 [(0, .ref (zA v 0)), (1, .int x.1), (2, .int x.2.1), (3, .int x.2.2.1), (4, .int x.2.2.2.1), (5, .int x.2.2.2.2.1)] → W p l e rm_X7_servedBySet s m args below meth c H locs 0 0 Q (F0 m 10 ls [])) ?_
    intro h10 hh10 x hf H locs ls hP hS hl
    unfold x_X7_servedBySet_B10 at hf
    refine lv_iload hx hb dX7_servedBySet_10 (lv_at hl 5 rfl) ?_
    refine lv_if_lt (tgt := 88) hx hb dX7_servedBySet_12 (by decide) (fun c1 => ?_) (fun c1 => ?_)
    · have hf := ite_t c1 hf
      refine lv_iload_n hx hb dX7_servedBySet_88 rfl (lv_at hl 3 rfl) ?_
      exact hret _ _ _ _ _ _ (Or.inl rfl) (Option.some.inj hf) hP hS dX7_servedBySet_89
    · have hf := ite_f c1 hf
      refine lv_iload_n hx hb dX7_servedBySet_15 rfl (lv_at hl 2 rfl) ?_
      refine lv_iload hx hb dX7_servedBySet_16 (lv_at hl 5 rfl) ?_
      refine lv_ishr hx hb dX7_servedBySet_18 ?_
      refine lv_iconst (v := 1) hx hb dX7_servedBySet_19 kI_1 ?_
      refine lv_iand hx hb dX7_servedBySet_20 ?_
      refine lv_iconst (v := 1) hx hb dX7_servedBySet_21 kI_1 ?_
      refine lv_icmp_ne (tgt := 82) hx hb dX7_servedBySet_22 (by decide) (fun c2 => ?_) (fun c2 => ?_)
      · have hf := ite_f c2 hf
        exact wb82 h10 hh10 x.1 x.2.1 x.2.2.1 x.2.2.2.1 x.2.2.2.2.1 x.2.2.2.2.2 hf _ _ _ hP hS (lv_sub hl [0, 1, 2, 3, 4, 5] rfl)
      · have hf := ite_t c2 hf
        refine lv_iload_n hx hb dX7_servedBySet_25 rfl (lv_at hl 1 rfl) ?_
        refine lv_bipush (v := 20) hx hb dX7_servedBySet_26 kB_20 ?_
        refine lv_imul hx hb dX7_servedBySet_28 ?_
        refine lv_iload hx hb dX7_servedBySet_29 (lv_at hl 5 rfl) ?_
        refine lv_iadd hx hb dX7_servedBySet_31 ?_
        obtain ⟨x4, ex4, hf⟩ := lt_e hf
        refine lv_nm ex4 ?_
        refine lv_istore (lv' := [(6, .int x4), (0, .ref (zA v 0)), (1, .int x.1), (2, .int x.2.1), (3, .int x.2.2.1), (4, .int x.2.2.2.1), (5, .int x.2.2.2.2.1)]) hx hb dX7_servedBySet_32 hl (by decide) rfl (fun ls hl => ?_)
        refine lv_aload_n hx hb dX7_servedBySet_34 rfl (lv_at hl 1 rfl) ?_
        refine va_get (D := zD v) (ci := 6) (v := .ref (zA v 1)) (C := RX7) (T := TX7) (N := 11) hx hb hts iX7 hown hk.1 hP 0 rfl rfl 0 (by decide) (hts _ fl_X7_10) (fun _ h9 => h9) rfl dX7_servedBySet_35 ?_
        refine lv_iload hx hb dX7_servedBySet_38 (lv_at hl 0 rfl) ?_
        obtain ⟨q5, eq5, hf⟩ := bd_e hf
        refine zki hS (zrV (As := [.int x4]) (rest := []) okX hx hb hml hown hts hk hP hS (t_X5_leastFitted l v N x4 x.2.2.2.2.2 _ eq5) vk_X5_leastFitted ml_X7_243 rfl rfl ⟨(Nat.le_of_ble_eq_true rfl), (Nat.le_of_ble_eq_true rfl)⟩ (va_recv (q := (RX5, TX5, 10)) hk.1 hP (q0 := 1) (ci := 4) rfl rfl) rfl hl.1 rfl (Nat.le_of_ble_eq_true rfl) dX7_servedBySet_40) (fun H locs hP hS => ?_)
        refine lv_istore (lv' := [(7, .int q5.1), (6, .int x4), (0, .ref (zA v 0)), (1, .int x.1), (2, .int x.2.1), (3, .int x.2.2.1), (4, .int x.2.2.2.1), (5, .int x.2.2.2.2.1)]) hx hb dX7_servedBySet_43 hl (by decide) rfl (fun ls hl => ?_)
        refine lv_iload_n hx hb dX7_servedBySet_45 rfl (lv_at hl 5 rfl) ?_
        refine lv_aload_n hx hb dX7_servedBySet_46 rfl (lv_at hl 2 rfl) ?_
        refine va_get (D := zD v) (ci := 6) (v := .ref (zA v 1)) (C := RX7) (T := TX7) (N := 11) hx hb hts iX7 hown hk.1 hP 0 rfl rfl 0 (by decide) (hts _ fl_X7_10) (fun _ h9 => h9) rfl dX7_servedBySet_47 ?_
        refine lv_iload hx hb dX7_servedBySet_50 (lv_at hl 0 rfl) ?_
        refine lv_aload_n hx hb dX7_servedBySet_52 rfl (lv_at hl 2 rfl) ?_
        refine va_get (D := zD v) (ci := 6) (v := .ref (zA v 1)) (C := RX7) (T := TX7) (N := 11) hx hb hts iX7 hown hk.1 hP 0 rfl rfl 0 (by decide) (hts _ fl_X7_10) (fun _ h9 => h9) rfl dX7_servedBySet_53 ?_
        refine lv_iload hx hb dX7_servedBySet_56 (lv_at hl 1 rfl) ?_
        obtain ⟨q6, eq6, hf⟩ := bd_e hf
        refine zki hS (zrV (As := [.int x4]) (rest := [.int q5.1, .ref (zA v 1), .int x.2.2.1]) okX hx hb hml hown hts hk hP hS (t_X5_greatestFitted l v N x4 q5.2 _ eq6) vk_X5_greatestFitted ml_X7_246 rfl rfl ⟨(Nat.le_of_ble_eq_true rfl), (Nat.le_of_ble_eq_true rfl)⟩ (va_recv (q := (RX5, TX5, 10)) hk.1 hP (q0 := 1) (ci := 4) rfl rfl) rfl hl.1 rfl (Nat.le_of_ble_eq_true rfl) dX7_servedBySet_58) (fun H locs hP hS => ?_)
        refine lv_iload hx hb dX7_servedBySet_61 (lv_at hl 6 rfl) ?_
        refine lv_iconst (v := 1) hx hb dX7_servedBySet_63 kI_1 ?_
        refine lv_isub hx hb dX7_servedBySet_64 ?_
        refine va_mmin hx hb (hml.trans hl.1.symm) hown (hts _ ml_X7_165) (hts _ mS_min) (hts _ mI_math) (hts _ mC_min) (Nat.le_of_ble_eq_true rfl) (Nat.le_of_ble_eq_true rfl) (Nat.zero_le _) (Nat.zero_le _) dX7_servedBySet_65 ?_
        obtain ⟨x7, ex7, hf⟩ := lt_e hf
        refine lv_nm ex7 ?_
        obtain ⟨q8, eq8, hf⟩ := bd_e hf
        refine zki hS (zrV (As := [.int q5.1, .int x7]) (rest := [.int x.2.2.1]) okX hx hb hml hown hts hk hP hS (t_X5_peopleOf l v N q5.1 x7 q6.2 _ eq8) vk_X5_peopleOf ml_X7_276 rfl rfl ⟨(Nat.le_of_ble_eq_true rfl), (Nat.le_of_ble_eq_true rfl)⟩ (va_recv (q := (RX5, TX5, 10)) hk.1 hP (q0 := 1) (ci := 4) rfl rfl) rfl hl.1 rfl (Nat.le_of_ble_eq_true rfl) dX7_servedBySet_68) (fun H locs hP hS => ?_)
        refine lv_iadd hx hb dX7_servedBySet_71 ?_
        obtain ⟨x9, ex9, hf⟩ := lt_e hf
        refine lv_nm ex9 ?_
        refine lv_istore_n (lv' := [(3, .int x9), (7, .int q5.1), (6, .int x4), (0, .ref (zA v 0)), (1, .int x.1), (2, .int x.2.1), (4, .int x.2.2.2.1), (5, .int x.2.2.2.2.1)]) hx hb dX7_servedBySet_72 rfl hl (by decide) rfl (fun ls hl => ?_)
        refine lv_iload hx hb dX7_servedBySet_73 (lv_at hl 6 rfl) ?_
        refine lv_iload hx hb dX7_servedBySet_75 (lv_at hl 1 rfl) ?_
        refine va_mmin hx hb (hml.trans hl.1.symm) hown (hts _ ml_X7_165) (hts _ mS_min) (hts _ mI_math) (hts _ mC_min) (Nat.le_of_ble_eq_true rfl) (Nat.le_of_ble_eq_true rfl) (Nat.zero_le _) (Nat.zero_le _) dX7_servedBySet_77 ?_
        obtain ⟨x10, ex10, hf⟩ := lt_e hf
        refine lv_nm ex10 ?_
        refine lv_istore (lv' := [(4, .int x10), (3, .int x9), (7, .int q5.1), (6, .int x4), (0, .ref (zA v 0)), (1, .int x.1), (2, .int x.2.1), (5, .int x.2.2.2.2.1)]) hx hb dX7_servedBySet_80 hl (by decide) rfl (fun ls hl => ?_)
        exact wb82 h10 hh10 x.1 x.2.1 x9 x10 x.2.2.2.2.1 q8.2 hf _ _ _ hP hS (lv_sub hl [4, 5, 6, 1, 0, 7] rfl)
  unfold x_X7_servedBySet at hf
  refine lv_iconst (v := 0) hx hb dX7_servedBySet_0 kI_0 ?_
  refine lv_istore_n (lv' := [(3, .int (0 : Int32)), (0, .ref (zA v 0)), (1, .int a1), (2, .int a2)]) hx hb dX7_servedBySet_1 rfl hl (by decide) rfl (fun ls hl => ?_)
  refine lv_bipush (v := 100) hx hb dX7_servedBySet_2 kB_100 ?_
  refine lv_istore (lv' := [(4, .int (100 : Int32)), (3, .int (0 : Int32)), (0, .ref (zA v 0)), (1, .int a1), (2, .int a2)]) hx hb dX7_servedBySet_4 hl (by decide) rfl (fun ls hl => ?_)
  refine lv_bipush (v := 19) hx hb dX7_servedBySet_6 kB_19 ?_
  refine lv_istore (lv' := [(5, .int (19 : Int32)), (4, .int (100 : Int32)), (3, .int (0 : Int32)), (0, .ref (zA v 0)), (1, .int a1), (2, .int a2)]) hx hb dX7_servedBySet_8 hl (by decide) rfl (fun ls hl => ?_)
  exact wL10 N (a1, a2, (0 : Int32), (100 : Int32), (19 : Int32), g) hf _ _ _ hP hS (lv_sub hl [3, 4, 5, 2, 1, 0] rfl)
abbrev rm_X7_nextSet : Room := { frames := 2, cells := 0, slots := 0, locals := 81 }
set_option maxRecDepth 100000 in
theorem t_X7_nextSet (l : Launch) (v : Ev) (N : Nat) (a0 : Int32) (g : Sg) (res : Int32 × Sg) (hf : x_X7_nextSet N a0 g = some res) : Ci l yX7_nextSet cX7_nextSet 3 .int rm_X7_nextSet pX v [.int a0] g res := by
  refine ze_i (by decide +kernel) (Nat.le_of_ble_eq_true rfl) ?_
  intro p e s m args below meth c Q ls hcx hret hP hl
  obtain ⟨hx, hb, hml, hown, hts, hk⟩ := hcx
  have hown : s.vm.findClass RX7 = some m.cls := hown
  have hS : va_S (An nX v) s.heap s.heap [] := va_S.rf
  have hl : lv_has ls 3 [(0, .int a0)] := hl
  unfold x_X7_nextSet at hf
  refine lv_iload_n hx hb dX7_nextSet_0 rfl (lv_at hl 0 rfl) ?_
  refine lv_if_gt (tgt := 8) hx hb dX7_nextSet_1 (by decide) (fun c1 => ?_) (fun c1 => ?_)
  · have hf := ite_t c1 hf
    refine lv_iload_n hx hb dX7_nextSet_8 rfl (lv_at hl 0 rfl) ?_
    refine lv_iload_n hx hb dX7_nextSet_9 rfl (lv_at hl 0 rfl) ?_
    refine lv_ineg hx hb dX7_nextSet_10 ?_
    refine lv_iand hx hb dX7_nextSet_11 ?_
    obtain ⟨x2, ex2, hf⟩ := lt_e hf
    refine lv_nm ex2 ?_
    refine lv_istore_n (lv' := [(1, .int x2), (0, .int a0)]) hx hb dX7_nextSet_12 rfl hl (by decide) rfl (fun ls hl => ?_)
    refine lv_iload_n hx hb dX7_nextSet_13 rfl (lv_at hl 1 rfl) ?_
    refine lv_iload_n hx hb dX7_nextSet_14 rfl (lv_at hl 0 rfl) ?_
    refine lv_iadd hx hb dX7_nextSet_15 ?_
    obtain ⟨x3, ex3, hf⟩ := lt_e hf
    refine lv_nm ex3 ?_
    refine lv_istore_n (lv' := [(2, .int x3), (1, .int x2), (0, .int a0)]) hx hb dX7_nextSet_16 rfl hl (by decide) rfl (fun ls hl => ?_)
    refine lv_iload_n hx hb dX7_nextSet_17 rfl (lv_at hl 0 rfl) ?_
    refine lv_iload_n hx hb dX7_nextSet_18 rfl (lv_at hl 2 rfl) ?_
    refine lv_iload_n hx hb dX7_nextSet_19 rfl (lv_at hl 0 rfl) ?_
    refine lv_ixor hx hb dX7_nextSet_20 ?_
    refine lv_iconst (v := 2) hx hb dX7_nextSet_21 kI_2 ?_
    refine lv_iload_n hx hb dX7_nextSet_22 rfl (lv_at hl 2 rfl) ?_
    obtain ⟨q4, eq4, hf⟩ := bd_e hf
    refine zki hS (zrS (As := [.int a0]) (rest := [.int (2 : Int32), .int (a0 ^^^ x3), .int x3]) okX hx hb hml hown hts hk hP hS (t_J6_numberOfTrailingZeros_0f7a4 l v N a0 g _ eq4) sk_J6_numberOfTrailingZeros_0f7a4 ml_X7_286 rfl rfl ⟨(Nat.le_of_ble_eq_true rfl), (Nat.le_of_ble_eq_true rfl)⟩ rfl hl.1 rfl (Nat.le_of_ble_eq_true rfl) dX7_nextSet_23) (fun H locs hP hS => ?_)
    refine lv_iadd hx hb dX7_nextSet_26 ?_
    refine lv_ishr hx hb dX7_nextSet_27 ?_
    refine lv_ior hx hb dX7_nextSet_28 ?_
    exact hret _ _ _ _ _ _ (Or.inl rfl) (Option.some.inj hf) hP hS dX7_nextSet_29
  · have hf := ite_f c1 hf
    refine lv_ldcw (v := 1048576) hx hb hown (hts _ kc_X7_285) dX7_nextSet_4 ?_
    exact hret _ _ _ _ _ _ (Or.inl rfl) (Option.some.inj hf) hP hS dX7_nextSet_7
abbrev rm_X7_order : Room := { frames := 7, cells := 0, slots := 0, locals := 197 }
set_option maxRecDepth 100000 in
theorem t_X7_order (l : Launch) (v : Ev) (N : Nat) (a1 : Int32) (a2 : Int32) (a3 : Int32) (g : Sg) (res : Int32 × Sg) (hf : x_X7_order N a1 a2 a3 g = some res) : Ci l yX7_order cX7_order 6 .int rm_X7_order pX v [.ref (zA v 0), .int a1, .int a2, .int a3] g res := by
  refine ze_i (by decide +kernel) (Nat.le_of_ble_eq_true rfl) ?_
  intro p e s m args below meth c Q ls hcx hret hP hl
  obtain ⟨hx, hb, hml, hown, hts, hk⟩ := hcx
  have hown : s.vm.findClass RX7 = some m.cls := hown
  have hS : va_S (An nX v) s.heap s.heap [] := va_S.rf
  have hl : lv_has ls 6 [(0, .ref (zA v 0)), (1, .int a1), (2, .int a2), (3, .int a3)] := hl
  have wb94 : ∀ (y3 : Int32) (g : Sg) (hf : x_X7_order_b94 N y3 g = some res) (H : Heap) (locs : List Loc) (ls : Array Slot) (hP : va_P (zD v) vwCl (pX.1 v g) H) (hS : va_S (An nX v) s.heap H locs) (hl : lv_has ls 6 [(0, .ref (zA v 0)), (3, .int y3)]), W p l e rm_X7_order s m args below meth c H locs 0 0 Q (F0 m 94 ls []) := by
    intro y3 g hf H locs ls hP hS hl
    unfold x_X7_order_b94 at hf
    refine lv_iload_n hx hb dX7_order_94 rfl (lv_at hl 1 rfl) ?_
    refine lv_if_ne (tgt := 108) hx hb dX7_order_95 (by decide) (fun c10 => ?_) (fun c10 => ?_)
    · have hf := ite_f c10 hf
      refine lv_aload_n hx hb dX7_order_108 rfl (lv_at hl 0 rfl) ?_
      refine va_get (D := zD v) (ci := 6) (v := .ref (zA v 7)) (C := RX7) (T := TX7) (N := 11) hx hb hts iX7 hown hk.1 hP 0 rfl rfl 8 (by decide) (hts _ fl_X7_54) (fun _ h9 => h9) rfl dX7_order_109 ?_
      refine va_get (D := zD v) (ci := 0) (v := .int (g 7 1)) (C := RX1) (T := TX1) (N := 2) hx hb hts iX1 hown hk.1 hP 7 rfl rfl 1 (by decide) (hts _ fl_X7_198) (fun _ h9 => h9) rfl dX7_order_112 ?_
      refine lv_ineg hx hb dX7_order_115 ?_
      exact hret _ _ _ _ _ _ (Or.inl rfl) (Option.some.inj hf) hP hS dX7_order_116
    · have hf := ite_t c10 hf
      refine lv_aload_n hx hb dX7_order_98 rfl (lv_at hl 0 rfl) ?_
      refine va_get (D := zD v) (ci := 6) (v := .ref (zA v 7)) (C := RX7) (T := TX7) (N := 11) hx hb hts iX7 hown hk.1 hP 0 rfl rfl 8 (by decide) (hts _ fl_X7_54) (fun _ h9 => h9) rfl dX7_order_99 ?_
      refine va_get (D := zD v) (ci := 0) (v := .int (g 7 0)) (C := RX1) (T := TX1) (N := 2) hx hb hts iX1 hown hk.1 hP 7 rfl rfl 0 (by decide) (hts _ fl_X7_195) (fun _ h9 => h9) rfl dX7_order_102 ?_
      refine lv_goto (tgt := 116) hx hb dX7_order_105 (by decide) ?_
      exact hret _ _ _ _ _ _ (Or.inl rfl) (Option.some.inj hf) hP hS dX7_order_116
  have wL49 : ∀ (n : Nat) (x : Int32 × Int32 × Int32 × Int32 × Sg), lp (x_X7_order_B49 N) n x = some res → ∀ (H : Heap) (locs : List Loc) (ls : Array Slot), va_P (zD v) vwCl (pX.1 v x.2.2.2.2) H → va_S (An nX v) s.heap H locs → lv_has ls 6 [(0, .ref (zA v 0)), (1, .int x.1), (3, .int x.2.1), (4, .int x.2.2.1), (5, .int x.2.2.2.1)] → W p l e rm_X7_order s m args below meth c H locs 0 0 Q (F0 m 49 ls []) := by
    refine lp_w (P := fun x : Int32 × Int32 × Int32 × Int32 × Sg => ∀ (H : Heap) (locs : List Loc) (ls : Array Slot), va_P (zD v) vwCl (pX.1 v x.2.2.2.2) H → va_S (An nX v) s.heap H locs → lv_has ls 6 [(0, .ref (zA v 0)), (1, .int x.1), (3, .int x.2.1), (4, .int x.2.2.1), (5, .int x.2.2.2.1)] → W p l e rm_X7_order s m args below meth c H locs 0 0 Q (F0 m 49 ls [])) ?_
    intro h49 hh49 x hf H locs ls hP hS hl
    unfold x_X7_order_B49 at hf
    refine lv_iload hx hb dX7_order_49 (lv_at hl 4 rfl) ?_
    refine lv_sipush (v := 1140) hx hb dX7_order_51 kS_1140 ?_
    refine lv_icmp_ge (tgt := 94) hx hb dX7_order_54 (by decide) (fun c9 => ?_) (fun c9 => ?_)
    · have hf := ite_t c9 hf
      exact wb94 x.2.1 x.2.2.2.2 hf _ _ _ hP hS (lv_sub hl [0, 2] rfl)
    · have hf := ite_f c9 hf
      refine lv_iload hx hb dX7_order_57 (lv_at hl 3 rfl) ?_
      refine lv_ldc (v := 1048575) hx hb hown (hts _ kc_X7_119) dX7_order_59 ?_
      refine lv_icmp_gt (tgt := 94) hx hb dX7_order_61 (by decide) (fun c11 => ?_) (fun c11 => ?_)
      · have hf := ite_t c11 hf
        exact wb94 x.2.1 x.2.2.2.2 hf _ _ _ hP hS (lv_sub hl [0, 2] rfl)
      · have hf := ite_f c11 hf
        refine lv_aload_n hx hb dX7_order_64 rfl (lv_at hl 0 rfl) ?_
        refine va_get (D := zD v) (ci := 6) (v := .ref (zA v 7)) (C := RX7) (T := TX7) (N := 11) hx hb hts iX7 hown hk.1 hP 0 rfl rfl 8 (by decide) (hts _ fl_X7_54) (fun _ h9 => h9) rfl dX7_order_65 ?_
        refine lv_iload hx hb dX7_order_68 (lv_at hl 3 rfl) ?_
        refine lv_aload_n hx hb dX7_order_70 rfl (lv_at hl 0 rfl) ?_
        refine lv_iload_n hx hb dX7_order_71 rfl (lv_at hl 1 rfl) ?_
        refine lv_iload hx hb dX7_order_72 (lv_at hl 3 rfl) ?_
        obtain ⟨q12, eq12, hf⟩ := bd_e hf
        refine zki hS (zrV (As := [.int x.1, .int x.2.2.1]) (rest := [.int x.2.2.1, .ref (zA v 7)]) okX hx hb hml hown hts hk hP hS (t_X7_servedBySet l v N x.1 x.2.2.1 x.2.2.2.2 _ eq12) vk_X7_servedBySet ml_X7_270 rfl rfl ⟨(Nat.le_of_ble_eq_true rfl), (Nat.le_of_ble_eq_true rfl)⟩ (va_recv (q := (RX7, TX7, 11)) hk.1 hP (q0 := 0) (ci := 6) rfl rfl) rfl hl.1 rfl (Nat.le_of_ble_eq_true rfl) dX7_order_74) (fun H locs hP hS => ?_)
        refine lv_ineg hx hb dX7_order_77 ?_
        obtain ⟨q13, eq13, hf⟩ := bd_e hf
        refine zkv hS (zrV (As := [.int x.2.2.1, .int (-q12.1)]) (rest := []) okX hx hb hml hown hts hk hP hS (t_X1_offer_7 l v N x.2.2.1 (-q12.1) q12.2 _ eq13) vk_X1_offer ml_X7_236 rfl rfl ⟨(Nat.le_of_ble_eq_true rfl), (Nat.le_of_ble_eq_true rfl)⟩ (va_recv (q := (RX1, TX1, 2)) hk.1 hP (q0 := 7) (ci := 0) rfl rfl) rfl hl.1 rfl (Nat.le_of_ble_eq_true rfl) dX7_order_78) (fun H locs hP hS => ?_)
        refine lv_iload hx hb dX7_order_81 (lv_at hl 3 rfl) ?_
        obtain ⟨q14, eq14, hf⟩ := bd_e hf
        refine zki hS (zrS (As := [.int x.2.2.1]) (rest := []) okX hx hb hml hown hts hk hP hS (t_X7_nextSet l v N x.2.2.1 q13 _ eq14) sk_X7_nextSet ml_X7_273 rfl rfl ⟨(Nat.le_of_ble_eq_true rfl), (Nat.le_of_ble_eq_true rfl)⟩ rfl hl.1 rfl (Nat.le_of_ble_eq_true rfl) dX7_order_83) (fun H locs hP hS => ?_)
        refine lv_istore (lv' := [(4, .int q14.1), (0, .ref (zA v 0)), (1, .int x.1), (3, .int x.2.1), (5, .int x.2.2.2.1)]) hx hb dX7_order_86 hl (by decide) rfl (fun ls hl => ?_)
        obtain ⟨x15, ex15, hf⟩ := lt_e hf
        refine lv_iinc (v := x15) (lv' := [(5, .int x15), (4, .int q14.1), (0, .ref (zA v 0)), (1, .int x.1), (3, .int x.2.1)]) hx hb dX7_order_88 hl (k := 4) rfl ((congrArg (fun z => x.2.2.2.1 + z) kI_1).trans ex15.symm) (by decide) rfl (fun ls hl => ?_)
        refine lv_goto (tgt := 49) hx hb dX7_order_91 (by decide) ?_
        exact hh49 (x.1, x.2.1, q14.1, x15, q14.2) hf _ _ _ hP hS (lv_sub hl [2, 3, 4, 1, 0] rfl)
  unfold x_X7_order at hf
  refine lv_aload_n hx hb dX7_order_0 rfl (lv_at hl 0 rfl) ?_
  refine va_get (D := zD v) (ci := 6) (v := .ref (zA v 1)) (C := RX7) (T := TX7) (N := 11) hx hb hts iX7 hown hk.1 hP 0 rfl rfl 0 (by decide) (hts _ fl_X7_10) (fun _ h9 => h9) rfl dX7_order_1 ?_
  refine lv_iload_n hx hb dX7_order_4 rfl (lv_at hl 1 rfl) ?_
  obtain ⟨q1, eq1, hf⟩ := bd_e hf
  refine zki hS (zrV (As := [.int a1]) (rest := []) okX hx hb hml hown hts hk hP hS (t_X5_hasMake l v N a1 g _ eq1) vk_X5_hasMake ml_X7_130 rfl rfl ⟨(Nat.le_of_ble_eq_true rfl), (Nat.le_of_ble_eq_true rfl)⟩ (va_recv (q := (RX5, TX5, 10)) hk.1 hP (q0 := 1) (ci := 4) rfl rfl) rfl hl.1 rfl (Nat.le_of_ble_eq_true rfl) dX7_order_5) (fun H locs hP hS => ?_)
  refine lv_if_eq (tgt := 29) hx hb dX7_order_8 (by decide) (fun c2 => ?_) (fun c2 => ?_)
  · have hf := ite_t c2 hf
    refine lv_bipush (v := -2) hx hb dX7_order_29 kB_m2 ?_
    exact hret _ _ _ _ _ _ (Or.inl rfl) (Option.some.inj hf) hP hS dX7_order_31
  · have hf := ite_f c2 hf
    refine lv_iload_n hx hb dX7_order_11 rfl (lv_at hl 2 rfl) ?_
    refine lv_if_lt (tgt := 29) hx hb dX7_order_12 (by decide) (fun c3 => ?_) (fun c3 => ?_)
    · have hf := ite_t c3 hf
      refine lv_bipush (v := -2) hx hb dX7_order_29 kB_m2 ?_
      exact hret _ _ _ _ _ _ (Or.inl rfl) (Option.some.inj hf) hP hS dX7_order_31
    · have hf := ite_f c3 hf
      refine lv_iload_n hx hb dX7_order_15 rfl (lv_at hl 2 rfl) ?_
      refine lv_iconst (v := 3) hx hb dX7_order_16 kI_3 ?_
      refine lv_icmp_gt (tgt := 29) hx hb dX7_order_17 (by decide) (fun c4 => ?_) (fun c4 => ?_)
      · have hf := ite_t c4 hf
        refine lv_bipush (v := -2) hx hb dX7_order_29 kB_m2 ?_
        exact hret _ _ _ _ _ _ (Or.inl rfl) (Option.some.inj hf) hP hS dX7_order_31
      · have hf := ite_f c4 hf
        refine lv_iload_n hx hb dX7_order_20 rfl (lv_at hl 3 rfl) ?_
        refine lv_if_lt (tgt := 29) hx hb dX7_order_21 (by decide) (fun c5 => ?_) (fun c5 => ?_)
        · have hf := ite_t c5 hf
          refine lv_bipush (v := -2) hx hb dX7_order_29 kB_m2 ?_
          exact hret _ _ _ _ _ _ (Or.inl rfl) (Option.some.inj hf) hP hS dX7_order_31
        · have hf := ite_f c5 hf
          refine lv_iload_n hx hb dX7_order_24 rfl (lv_at hl 3 rfl) ?_
          refine lv_iconst (v := 1) hx hb dX7_order_25 kI_1 ?_
          refine lv_icmp_le (tgt := 32) hx hb dX7_order_26 (by decide) (fun c6 => ?_) (fun c6 => ?_)
          · have hf := ite_t c6 hf
            refine lv_aload_n hx hb dX7_order_32 rfl (lv_at hl 0 rfl) ?_
            refine va_get (D := zD v) (ci := 6) (v := .ref (zA v 7)) (C := RX7) (T := TX7) (N := 11) hx hb hts iX7 hown hk.1 hP 0 rfl rfl 8 (by decide) (hts _ fl_X7_54) (fun _ h9 => h9) rfl dX7_order_33 ?_
            obtain ⟨q7, eq7, hf⟩ := bd_e hf
            refine zkv hS (zrV (As := []) (rest := []) okX hx hb hml hown hts hk hP hS (t_X1_clear_7 l v N q1.2 _ eq7) vk_X1_clear ml_X7_223 rfl rfl ⟨(Nat.le_of_ble_eq_true rfl), (Nat.le_of_ble_eq_true rfl)⟩ (va_recv (q := (RX1, TX1, 2)) hk.1 hP (q0 := 7) (ci := 0) rfl rfl) rfl hl.1 rfl (Nat.le_of_ble_eq_true rfl) dX7_order_36) (fun H locs hP hS => ?_)
            refine lv_iconst (v := 1) hx hb dX7_order_39 kI_1 ?_
            refine lv_iload_n hx hb dX7_order_40 rfl (lv_at hl 2 rfl) ?_
            refine lv_ishl hx hb dX7_order_41 ?_
            refine lv_iconst (v := 1) hx hb dX7_order_42 kI_1 ?_
            refine lv_isub hx hb dX7_order_43 ?_
            obtain ⟨x8, ex8, hf⟩ := lt_e hf
            refine lv_nm ex8 ?_
            refine lv_istore (lv' := [(4, .int x8), (0, .ref (zA v 0)), (1, .int a1), (2, .int a2), (3, .int a3)]) hx hb dX7_order_44 hl (by decide) rfl (fun ls hl => ?_)
            refine lv_iconst (v := 0) hx hb dX7_order_46 kI_0 ?_
            refine lv_istore (lv' := [(5, .int (0 : Int32)), (4, .int x8), (0, .ref (zA v 0)), (1, .int a1), (2, .int a2), (3, .int a3)]) hx hb dX7_order_47 hl (by decide) rfl (fun ls hl => ?_)
            exact wL49 N (a1, a3, x8, (0 : Int32), q7) hf _ _ _ hP hS (lv_sub hl [2, 3, 5, 1, 0] rfl)
          · have hf := ite_f c6 hf
            refine lv_bipush (v := -2) hx hb dX7_order_29 kB_m2 ?_
            exact hret _ _ _ _ _ _ (Or.inl rfl) (Option.some.inj hf) hP hS dX7_order_31
abbrev rm_X7_missing : Room := { frames := 7, cells := 0, slots := 0, locals := 195 }
set_option maxRecDepth 100000 in
theorem t_X7_missing (l : Launch) (v : Ev) (N : Nat) (a1 : Int32) (g : Sg) (res : Int32 × Sg) (hf : x_X7_missing N a1 g = some res) : Ci l yX7_missing cX7_missing 4 .int rm_X7_missing pX v [.ref (zA v 0), .int a1] g res := by
  refine ze_i (by decide +kernel) (Nat.le_of_ble_eq_true rfl) ?_
  intro p e s m args below meth c Q ls hcx hret hP hl
  obtain ⟨hx, hb, hml, hown, hts, hk⟩ := hcx
  have hown : s.vm.findClass RX7 = some m.cls := hown
  have hS : va_S (An nX v) s.heap s.heap [] := va_S.rf
  have hl : lv_has ls 4 [(0, .ref (zA v 0)), (1, .int a1)] := hl
  have wb92 : ∀ (h35 : Int32 × Int32 × Int32 × Sg → Option (Int32 × Sg)) (hh35 : ∀ x : Int32 × Int32 × Int32 × Sg, h35 x = some res → ∀ (H : Heap) (locs : List Loc) (ls : Array Slot), va_P (zD v) vwCl (pX.1 v x.2.2.2) H → va_S (An nX v) s.heap H locs → lv_has ls 4 [(0, .ref (zA v 0)), (1, .int x.1), (2, .int x.2.1), (3, .int x.2.2.1)] → W p l e rm_X7_missing s m args below meth c H locs 0 0 Q (F0 m 35 ls [])) (y1 : Int32) (y2 : Int32) (y3 : Int32) (g : Sg) (hf : x_X7_missing_b92 N h35 y1 y2 y3 g = some res) (H : Heap) (locs : List Loc) (ls : Array Slot) (hP : va_P (zD v) vwCl (pX.1 v g) H) (hS : va_S (An nX v) s.heap H locs) (hl : lv_has ls 4 [(0, .ref (zA v 0)), (1, .int y1), (2, .int y2), (3, .int y3)]), W p l e rm_X7_missing s m args below meth c H locs 0 0 Q (F0 m 92 ls []) := by
    intro h35 hh35 y1 y2 y3 g hf H locs ls hP hS hl
    unfold x_X7_missing_b92 at hf
    obtain ⟨x10, ex10, hf⟩ := lt_e hf
    refine lv_iinc (v := x10) (lv' := [(3, .int x10), (0, .ref (zA v 0)), (1, .int y1), (2, .int y2)]) hx hb dX7_missing_92 hl (k := 3) rfl ((congrArg (fun z => y3 + z) kI_1).trans ex10.symm) (by decide) rfl (fun ls hl => ?_)
    refine lv_goto (tgt := 35) hx hb dX7_missing_95 (by decide) ?_
    exact hh35 (y1, y2, x10, g) hf _ _ _ hP hS (lv_sub hl [1, 2, 3, 0] rfl)
  have wL35 : ∀ (n : Nat) (x : Int32 × Int32 × Int32 × Sg), lp (x_X7_missing_B35 N) n x = some res → ∀ (H : Heap) (locs : List Loc) (ls : Array Slot), va_P (zD v) vwCl (pX.1 v x.2.2.2) H → va_S (An nX v) s.heap H locs → lv_has ls 4 [(0, .ref (zA v 0)), (1, .int x.1), (2, .int x.2.1), (3, .int x.2.2.1)] → W p l e rm_X7_missing s m args below meth c H locs 0 0 Q (F0 m 35 ls []) := by
    refine lp_w (P := fun x : Int32 × Int32 × Int32 × Sg => ∀ (H : Heap) (locs : List Loc) (ls : Array Slot), va_P (zD v) vwCl (pX.1 v x.2.2.2) H → va_S (An nX v) s.heap H locs → lv_has ls 4 [(0, .ref (zA v 0)), (1, .int x.1), (2, .int x.2.1), (3, .int x.2.2.1)] → W p l e rm_X7_missing s m args below meth c H locs 0 0 Q (F0 m 35 ls [])) ?_
    intro h35 hh35 x hf H locs ls hP hS hl
    unfold x_X7_missing_B35 at hf
    refine lv_iload_n hx hb dX7_missing_35 rfl (lv_at hl 3 rfl) ?_
    refine lv_bipush (v := 100) hx hb dX7_missing_36 kB_100 ?_
    refine lv_icmp_ge (tgt := 98) hx hb dX7_missing_38 (by decide) (fun c6 => ?_) (fun c6 => ?_)
    · have hf := ite_t c6 hf
      refine lv_iload_n hx hb dX7_missing_98 rfl (lv_at hl 1 rfl) ?_
      refine lv_if_ne (tgt := 106) hx hb dX7_missing_99 (by decide) (fun c7 => ?_) (fun c7 => ?_)
      · have hf := ite_f c7 hf
        refine lv_aload_n hx hb dX7_missing_106 rfl (lv_at hl 0 rfl) ?_
        refine va_get (D := zD v) (ci := 6) (v := .ref (zA v 7)) (C := RX7) (T := TX7) (N := 11) hx hb hts iX7 hown hk.1 hP 0 rfl rfl 8 (by decide) (hts _ fl_X7_54) (fun _ h9 => h9) rfl dX7_missing_107 ?_
        refine va_get (D := zD v) (ci := 0) (v := .int (x.2.2.2 7 0)) (C := RX1) (T := TX1) (N := 2) hx hb hts iX1 hown hk.1 hP 7 rfl rfl 0 (by decide) (hts _ fl_X7_195) (fun _ h9 => h9) rfl dX7_missing_110 ?_
        exact hret _ _ _ _ _ _ (Or.inl rfl) (Option.some.inj hf) hP hS dX7_missing_113
      · have hf := ite_t c7 hf
        refine lv_iload_n hx hb dX7_missing_102 rfl (lv_at hl 2 rfl) ?_
        refine lv_goto (tgt := 113) hx hb dX7_missing_103 (by decide) ?_
        exact hret _ _ _ _ _ _ (Or.inl rfl) (Option.some.inj hf) hP hS dX7_missing_113
    · have hf := ite_f c6 hf
      refine lv_aload_n hx hb dX7_missing_41 rfl (lv_at hl 0 rfl) ?_
      refine va_get (D := zD v) (ci := 6) (v := .ref (zA v 10)) (C := RX7) (T := TX7) (N := 11) hx hb hts iX7 hown hk.1 hP 0 rfl rfl 7 (by decide) (hts _ fl_X7_47) (fun _ h9 => h9) rfl dX7_missing_42 ?_
      refine lv_iload_n hx hb dX7_missing_45 rfl (lv_at hl 3 rfl) ?_
      obtain ⟨c8, hf⟩ := gd_e hf
      refine va_iald hx hb hk.1 hP 10 0 rfl rfl (inb_in c8) dX7_missing_46 ?_
      refine lv_if_ne (tgt := 92) hx hb dX7_missing_47 (by decide) (fun c9 => ?_) (fun c9 => ?_)
      · have hf := ite_f c9 hf
        exact wb92 h35 hh35 x.1 x.2.1 x.2.2.1 x.2.2.2 hf _ _ _ hP hS (lv_sub hl [0, 1, 2, 3] rfl)
      · have hf := ite_t c9 hf
        refine lv_aload_n hx hb dX7_missing_50 rfl (lv_at hl 0 rfl) ?_
        refine va_get (D := zD v) (ci := 6) (v := .ref (zA v 1)) (C := RX7) (T := TX7) (N := 11) hx hb hts iX7 hown hk.1 hP 0 rfl rfl 0 (by decide) (hts _ fl_X7_10) (fun _ h9 => h9) rfl dX7_missing_51 ?_
        refine va_get (D := zD v) (ci := 4) (v := .ref (zA v 11)) (C := RX5) (T := TX5) (N := 10) hx hb hts iX5 hown hk.1 hP 1 rfl rfl 5 (by decide) (hts _ fl_X7_107) (fun _ h9 => h9) rfl dX7_missing_54 ?_
        refine lv_iload_n hx hb dX7_missing_57 rfl (lv_at hl 3 rfl) ?_
        obtain ⟨c11, hf⟩ := gd_e hf
        refine va_iald hx hb hk.1 hP 11 0 rfl rfl (inb_in c11) dX7_missing_58 ?_
        refine lv_if_le (tgt := 92) hx hb dX7_missing_59 (by decide) (fun c12 => ?_) (fun c12 => ?_)
        · have hf := ite_t c12 hf
          exact wb92 h35 hh35 x.1 x.2.1 x.2.2.1 x.2.2.2 hf _ _ _ hP hS (lv_sub hl [0, 1, 2, 3] rfl)
        · have hf := ite_f c12 hf
          refine lv_iload_n hx hb dX7_missing_62 rfl (lv_at hl 2 rfl) ?_
          refine lv_aload_n hx hb dX7_missing_63 rfl (lv_at hl 0 rfl) ?_
          refine va_get (D := zD v) (ci := 6) (v := .ref (zA v 1)) (C := RX7) (T := TX7) (N := 11) hx hb hts iX7 hown hk.1 hP 0 rfl rfl 0 (by decide) (hts _ fl_X7_10) (fun _ h9 => h9) rfl dX7_missing_64 ?_
          refine va_get (D := zD v) (ci := 4) (v := .ref (zA v 11)) (C := RX5) (T := TX5) (N := 10) hx hb hts iX5 hown hk.1 hP 1 rfl rfl 5 (by decide) (hts _ fl_X7_107) (fun _ h9 => h9) rfl dX7_missing_67 ?_
          refine lv_iload_n hx hb dX7_missing_70 rfl (lv_at hl 3 rfl) ?_
          obtain ⟨c13, hf⟩ := gd_e hf
          refine va_iald hx hb hk.1 hP 11 0 rfl rfl (inb_in c13) dX7_missing_71 ?_
          refine lv_iadd hx hb dX7_missing_72 ?_
          obtain ⟨x14, ex14, hf⟩ := lt_e hf
          refine lv_nm ex14 ?_
          refine lv_istore_n (lv' := [(2, .int x14), (0, .ref (zA v 0)), (1, .int x.1), (3, .int x.2.2.1)]) hx hb dX7_missing_73 rfl hl (by decide) rfl (fun ls hl => ?_)
          refine lv_aload_n hx hb dX7_missing_74 rfl (lv_at hl 1 rfl) ?_
          refine va_get (D := zD v) (ci := 6) (v := .ref (zA v 7)) (C := RX7) (T := TX7) (N := 11) hx hb hts iX7 hown hk.1 hP 0 rfl rfl 8 (by decide) (hts _ fl_X7_54) (fun _ h9 => h9) rfl dX7_missing_75 ?_
          refine lv_iload_n hx hb dX7_missing_78 rfl (lv_at hl 3 rfl) ?_
          refine lv_aload_n hx hb dX7_missing_79 rfl (lv_at hl 1 rfl) ?_
          refine va_get (D := zD v) (ci := 6) (v := .ref (zA v 1)) (C := RX7) (T := TX7) (N := 11) hx hb hts iX7 hown hk.1 hP 0 rfl rfl 0 (by decide) (hts _ fl_X7_10) (fun _ h9 => h9) rfl dX7_missing_80 ?_
          refine va_get (D := zD v) (ci := 4) (v := .ref (zA v 11)) (C := RX5) (T := TX5) (N := 10) hx hb hts iX5 hown hk.1 hP 1 rfl rfl 5 (by decide) (hts _ fl_X7_107) (fun _ h9 => h9) rfl dX7_missing_83 ?_
          refine lv_iload_n hx hb dX7_missing_86 rfl (lv_at hl 3 rfl) ?_
          obtain ⟨c15, hf⟩ := gd_e hf
          refine va_iald hx hb hk.1 hP 11 0 rfl rfl (inb_in c15) dX7_missing_87 ?_
          refine lv_ineg hx hb dX7_missing_88 ?_
          obtain ⟨q16, eq16, hf⟩ := bd_e hf
          refine zkv hS (zrV (As := [.int x.2.2.1, .int (-(x.2.2.2 11 (x.2.2.1).toNatClampNeg))]) (rest := []) okX hx hb hml hown hts hk hP hS (t_X1_offer_7 l v N x.2.2.1 (-(x.2.2.2 11 (x.2.2.1).toNatClampNeg)) x.2.2.2 _ eq16) vk_X1_offer ml_X7_236 rfl rfl ⟨(Nat.le_of_ble_eq_true rfl), (Nat.le_of_ble_eq_true rfl)⟩ (va_recv (q := (RX1, TX1, 2)) hk.1 hP (q0 := 7) (ci := 0) rfl rfl) rfl hl.1 rfl (Nat.le_of_ble_eq_true rfl) dX7_missing_89) (fun H locs hP hS => ?_)
          exact wb92 h35 hh35 x.1 x14 x.2.2.1 q16 hf _ _ _ hP hS (lv_sub hl [1, 2, 0, 3] rfl)
  unfold x_X7_missing at hf
  refine lv_iload_n hx hb dX7_missing_0 rfl (lv_at hl 1 rfl) ?_
  refine lv_if_lt (tgt := 9) hx hb dX7_missing_1 (by decide) (fun c1 => ?_) (fun c1 => ?_)
  · have hf := ite_t c1 hf
    refine lv_bipush (v := -2) hx hb dX7_missing_9 kB_m2 ?_
    exact hret _ _ _ _ _ _ (Or.inl rfl) (Option.some.inj hf) hP hS dX7_missing_11
  · have hf := ite_f c1 hf
    refine lv_iload_n hx hb dX7_missing_4 rfl (lv_at hl 1 rfl) ?_
    refine lv_iconst (v := 1) hx hb dX7_missing_5 kI_1 ?_
    refine lv_icmp_le (tgt := 12) hx hb dX7_missing_6 (by decide) (fun c2 => ?_) (fun c2 => ?_)
    · have hf := ite_t c2 hf
      refine lv_aload_n hx hb dX7_missing_12 rfl (lv_at hl 0 rfl) ?_
      refine lv_iconst (v := 0) hx hb dX7_missing_13 kI_0 ?_
      refine lv_aload_n hx hb dX7_missing_14 rfl (lv_at hl 0 rfl) ?_
      refine va_get (D := zD v) (ci := 6) (v := .ref (zA v 1)) (C := RX7) (T := TX7) (N := 11) hx hb hts iX7 hown hk.1 hP 0 rfl rfl 0 (by decide) (hts _ fl_X7_10) (fun _ h9 => h9) rfl dX7_missing_15 ?_
      obtain ⟨q3, eq3, hf⟩ := bd_e hf
      refine zki hS (zrV (As := []) (rest := [.int (0 : Int32), .ref (zA v 0)]) okX hx hb hml hown hts hk hP hS (t_X5_shoes l v N g _ eq3) vk_X5_shoes ml_X7_226 rfl rfl ⟨(Nat.le_of_ble_eq_true rfl), (Nat.le_of_ble_eq_true rfl)⟩ (va_recv (q := (RX5, TX5, 10)) hk.1 hP (q0 := 1) (ci := 4) rfl rfl) rfl hl.1 rfl (Nat.le_of_ble_eq_true rfl) dX7_missing_18) (fun H locs hP hS => ?_)
      obtain ⟨q4, eq4, hf⟩ := bd_e hf
      refine zkv hS (zrV (As := [.int (0 : Int32), .int q3.1]) (rest := []) okX hx hb hml hown hts hk hP hS (t_X7_markFitted l v N (0 : Int32) q3.1 q3.2 _ eq4) vk_X7_markFitted ml_X7_267 rfl rfl ⟨(Nat.le_of_ble_eq_true rfl), (Nat.le_of_ble_eq_true rfl)⟩ (va_recv (q := (RX7, TX7, 11)) hk.1 hP (q0 := 0) (ci := 6) rfl rfl) rfl hl.1 rfl (Nat.le_of_ble_eq_true rfl) dX7_missing_21) (fun H locs hP hS => ?_)
      refine lv_aload_n hx hb dX7_missing_24 rfl (lv_at hl 0 rfl) ?_
      refine va_get (D := zD v) (ci := 6) (v := .ref (zA v 7)) (C := RX7) (T := TX7) (N := 11) hx hb hts iX7 hown hk.1 hP 0 rfl rfl 8 (by decide) (hts _ fl_X7_54) (fun _ h9 => h9) rfl dX7_missing_25 ?_
      obtain ⟨q5, eq5, hf⟩ := bd_e hf
      refine zkv hS (zrV (As := []) (rest := []) okX hx hb hml hown hts hk hP hS (t_X1_clear_7 l v N q4 _ eq5) vk_X1_clear ml_X7_223 rfl rfl ⟨(Nat.le_of_ble_eq_true rfl), (Nat.le_of_ble_eq_true rfl)⟩ (va_recv (q := (RX1, TX1, 2)) hk.1 hP (q0 := 7) (ci := 0) rfl rfl) rfl hl.1 rfl (Nat.le_of_ble_eq_true rfl) dX7_missing_28) (fun H locs hP hS => ?_)
      refine lv_iconst (v := 0) hx hb dX7_missing_31 kI_0 ?_
      refine lv_istore_n (lv' := [(2, .int (0 : Int32)), (0, .ref (zA v 0)), (1, .int a1)]) hx hb dX7_missing_32 rfl hl (by decide) rfl (fun ls hl => ?_)
      refine lv_iconst (v := 0) hx hb dX7_missing_33 kI_0 ?_
      refine lv_istore_n (lv' := [(3, .int (0 : Int32)), (2, .int (0 : Int32)), (0, .ref (zA v 0)), (1, .int a1)]) hx hb dX7_missing_34 rfl hl (by decide) rfl (fun ls hl => ?_)
      exact wL35 N (a1, (0 : Int32), (0 : Int32), q5) hf _ _ _ hP hS (lv_sub hl [2, 3, 1, 0] rfl)
    · have hf := ite_f c2 hf
      refine lv_bipush (v := -2) hx hb dX7_missing_9 kB_m2 ?_
      exact hret _ _ _ _ _ _ (Or.inl rfl) (Option.some.inj hf) hP hS dX7_missing_11
abbrev rm_X7_lies : Room := { frames := 6, cells := 0, slots := 0, locals := 170 }
set_option maxRecDepth 100000 in
theorem t_X7_lies (l : Launch) (v : Ev) (N : Nat) (a1 : Int32) (g : Sg) (res : Int32 × Sg) (hf : x_X7_lies N a1 g = some res) : Ci l yX7_lies cX7_lies 5 .int rm_X7_lies pX v [.ref (zA v 0), .int a1] g res := by
  refine ze_i (by decide +kernel) (Nat.le_of_ble_eq_true rfl) ?_
  intro p e s m args below meth c Q ls hcx hret hP hl
  obtain ⟨hx, hb, hml, hown, hts, hk⟩ := hcx
  have hown : s.vm.findClass RX7 = some m.cls := hown
  have hS : va_S (An nX v) s.heap s.heap [] := va_S.rf
  have hl : lv_has ls 5 [(0, .ref (zA v 0)), (1, .int a1)] := hl
  have wb78 : ∀ (h18 : Int32 × Int32 × Int32 × Sg → Option (Int32 × Sg)) (hh18 : ∀ x : Int32 × Int32 × Int32 × Sg, h18 x = some res → ∀ (H : Heap) (locs : List Loc) (ls : Array Slot), va_P (zD v) vwCl (pX.1 v x.2.2.2) H → va_S (An nX v) s.heap H locs → lv_has ls 5 [(0, .ref (zA v 0)), (1, .int x.1), (2, .int x.2.1), (3, .int x.2.2.1)] → W p l e rm_X7_lies s m args below meth c H locs 0 0 Q (F0 m 18 ls [])) (y1 : Int32) (y2 : Int32) (y3 : Int32) (g : Sg) (hf : x_X7_lies_b78 N h18 y1 y2 y3 g = some res) (H : Heap) (locs : List Loc) (ls : Array Slot) (hP : va_P (zD v) vwCl (pX.1 v g) H) (hS : va_S (An nX v) s.heap H locs) (hl : lv_has ls 5 [(0, .ref (zA v 0)), (1, .int y1), (2, .int y2), (3, .int y3)]), W p l e rm_X7_lies s m args below meth c H locs 0 0 Q (F0 m 78 ls []) := by
    intro h18 hh18 y1 y2 y3 g hf H locs ls hP hS hl
    unfold x_X7_lies_b78 at hf
    obtain ⟨x7, ex7, hf⟩ := lt_e hf
    refine lv_iinc (v := x7) (lv' := [(3, .int x7), (0, .ref (zA v 0)), (1, .int y1), (2, .int y2)]) hx hb dX7_lies_78 hl (k := 3) rfl ((congrArg (fun z => y3 + z) kI_1).trans ex7.symm) (by decide) rfl (fun ls hl => ?_)
    refine lv_goto (tgt := 18) hx hb dX7_lies_81 (by decide) ?_
    exact hh18 (y1, y2, x7, g) hf _ _ _ hP hS (lv_sub hl [1, 2, 3, 0] rfl)
  have wL18 : ∀ (n : Nat) (x : Int32 × Int32 × Int32 × Sg), lp (x_X7_lies_B18 N) n x = some res → ∀ (H : Heap) (locs : List Loc) (ls : Array Slot), va_P (zD v) vwCl (pX.1 v x.2.2.2) H → va_S (An nX v) s.heap H locs → lv_has ls 5 [(0, .ref (zA v 0)), (1, .int x.1), (2, .int x.2.1), (3, .int x.2.2.1)] → W p l e rm_X7_lies s m args below meth c H locs 0 0 Q (F0 m 18 ls []) := by
    refine lp_w (P := fun x : Int32 × Int32 × Int32 × Sg => ∀ (H : Heap) (locs : List Loc) (ls : Array Slot), va_P (zD v) vwCl (pX.1 v x.2.2.2) H → va_S (An nX v) s.heap H locs → lv_has ls 5 [(0, .ref (zA v 0)), (1, .int x.1), (2, .int x.2.1), (3, .int x.2.2.1)] → W p l e rm_X7_lies s m args below meth c H locs 0 0 Q (F0 m 18 ls [])) ?_
    intro h18 hh18 x hf H locs ls hP hS hl
    unfold x_X7_lies_B18 at hf
    refine lv_iload_n hx hb dX7_lies_18 rfl (lv_at hl 3 rfl) ?_
    refine lv_bipush (v := 20) hx hb dX7_lies_19 kB_20 ?_
    refine lv_icmp_ge (tgt := 84) hx hb dX7_lies_21 (by decide) (fun c3 => ?_) (fun c3 => ?_)
    · have hf := ite_t c3 hf
      refine lv_iload_n hx hb dX7_lies_84 rfl (lv_at hl 2 rfl) ?_
      exact hret _ _ _ _ _ _ (Or.inl rfl) (Option.some.inj hf) hP hS dX7_lies_85
    · have hf := ite_f c3 hf
      refine lv_iload_n hx hb dX7_lies_24 rfl (lv_at hl 1 rfl) ?_
      refine lv_bipush (v := 20) hx hb dX7_lies_25 kB_20 ?_
      refine lv_imul hx hb dX7_lies_27 ?_
      refine lv_iload_n hx hb dX7_lies_28 rfl (lv_at hl 3 rfl) ?_
      refine lv_iadd hx hb dX7_lies_29 ?_
      obtain ⟨x4, ex4, hf⟩ := lt_e hf
      refine lv_nm ex4 ?_
      refine lv_istore (lv' := [(4, .int x4), (0, .ref (zA v 0)), (1, .int x.1), (2, .int x.2.1), (3, .int x.2.2.1)]) hx hb dX7_lies_30 hl (by decide) rfl (fun ls hl => ?_)
      refine lv_aload_n hx hb dX7_lies_32 rfl (lv_at hl 1 rfl) ?_
      refine va_get (D := zD v) (ci := 6) (v := .ref (zA v 1)) (C := RX7) (T := TX7) (N := 11) hx hb hts iX7 hown hk.1 hP 0 rfl rfl 0 (by decide) (hts _ fl_X7_10) (fun _ h9 => h9) rfl dX7_lies_33 ?_
      refine lv_iload hx hb dX7_lies_36 (lv_at hl 0 rfl) ?_
      obtain ⟨q5, eq5, hf⟩ := bd_e hf
      refine zki hS (zrV (As := [.int x4]) (rest := []) okX hx hb hml hown hts hk hP hS (t_X5_stocks l v N x4 x.2.2.2 _ eq5) vk_X5_stocks ml_X7_229 rfl rfl ⟨(Nat.le_of_ble_eq_true rfl), (Nat.le_of_ble_eq_true rfl)⟩ (va_recv (q := (RX5, TX5, 10)) hk.1 hP (q0 := 1) (ci := 4) rfl rfl) rfl hl.1 rfl (Nat.le_of_ble_eq_true rfl) dX7_lies_38) (fun H locs hP hS => ?_)
      refine lv_if_eq (tgt := 78) hx hb dX7_lies_41 (by decide) (fun c6 => ?_) (fun c6 => ?_)
      · have hf := ite_t c6 hf
        exact wb78 h18 hh18 x.1 x.2.1 x.2.2.1 q5.2 hf _ _ _ hP hS (lv_sub hl [1, 2, 3, 4] rfl)
      · have hf := ite_f c6 hf
        refine lv_aload_n hx hb dX7_lies_44 rfl (lv_at hl 1 rfl) ?_
        refine va_get (D := zD v) (ci := 6) (v := .ref (zA v 1)) (C := RX7) (T := TX7) (N := 11) hx hb hts iX7 hown hk.1 hP 0 rfl rfl 0 (by decide) (hts _ fl_X7_10) (fun _ h9 => h9) rfl dX7_lies_45 ?_
        refine lv_aload_n hx hb dX7_lies_48 rfl (lv_at hl 1 rfl) ?_
        refine va_get (D := zD v) (ci := 6) (v := .ref (zA v 1)) (C := RX7) (T := TX7) (N := 11) hx hb hts iX7 hown hk.1 hP 0 rfl rfl 0 (by decide) (hts _ fl_X7_10) (fun _ h9 => h9) rfl dX7_lies_49 ?_
        refine lv_iload hx hb dX7_lies_52 (lv_at hl 0 rfl) ?_
        obtain ⟨q8, eq8, hf⟩ := bd_e hf
        refine zki hS (zrV (As := [.int x4]) (rest := [.ref (zA v 1)]) okX hx hb hml hown hts hk hP hS (t_X5_leastFitted l v N x4 q5.2 _ eq8) vk_X5_leastFitted ml_X7_243 rfl rfl ⟨(Nat.le_of_ble_eq_true rfl), (Nat.le_of_ble_eq_true rfl)⟩ (va_recv (q := (RX5, TX5, 10)) hk.1 hP (q0 := 1) (ci := 4) rfl rfl) rfl hl.1 rfl (Nat.le_of_ble_eq_true rfl) dX7_lies_54) (fun H locs hP hS => ?_)
        refine lv_aload_n hx hb dX7_lies_57 rfl (lv_at hl 1 rfl) ?_
        refine va_get (D := zD v) (ci := 6) (v := .ref (zA v 1)) (C := RX7) (T := TX7) (N := 11) hx hb hts iX7 hown hk.1 hP 0 rfl rfl 0 (by decide) (hts _ fl_X7_10) (fun _ h9 => h9) rfl dX7_lies_58 ?_
        refine lv_iload hx hb dX7_lies_61 (lv_at hl 0 rfl) ?_
        obtain ⟨q9, eq9, hf⟩ := bd_e hf
        refine zki hS (zrV (As := [.int x4]) (rest := [.int q8.1, .ref (zA v 1)]) okX hx hb hml hown hts hk hP hS (t_X5_greatestFitted l v N x4 q8.2 _ eq9) vk_X5_greatestFitted ml_X7_246 rfl rfl ⟨(Nat.le_of_ble_eq_true rfl), (Nat.le_of_ble_eq_true rfl)⟩ (va_recv (q := (RX5, TX5, 10)) hk.1 hP (q0 := 1) (ci := 4) rfl rfl) rfl hl.1 rfl (Nat.le_of_ble_eq_true rfl) dX7_lies_63) (fun H locs hP hS => ?_)
        obtain ⟨q10, eq10, hf⟩ := bd_e hf
        refine zki hS (zrV (As := [.int q8.1, .int q9.1]) (rest := []) okX hx hb hml hown hts hk hP hS (t_X5_peopleOf l v N q8.1 q9.1 q9.2 _ eq10) vk_X5_peopleOf ml_X7_276 rfl rfl ⟨(Nat.le_of_ble_eq_true rfl), (Nat.le_of_ble_eq_true rfl)⟩ (va_recv (q := (RX5, TX5, 10)) hk.1 hP (q0 := 1) (ci := 4) rfl rfl) rfl hl.1 rfl (Nat.le_of_ble_eq_true rfl) dX7_lies_66) (fun H locs hP hS => ?_)
        refine lv_if_ne (tgt := 78) hx hb dX7_lies_69 (by decide) (fun c11 => ?_) (fun c11 => ?_)
        · have hf := ite_f c11 hf
          exact wb78 h18 hh18 x.1 x.2.1 x.2.2.1 q10.2 hf _ _ _ hP hS (lv_sub hl [1, 2, 3, 4] rfl)
        · have hf := ite_t c11 hf
          refine lv_iload_n hx hb dX7_lies_72 rfl (lv_at hl 3 rfl) ?_
          refine lv_iconst (v := 1) hx hb dX7_lies_73 kI_1 ?_
          refine lv_iload_n hx hb dX7_lies_74 rfl (lv_at hl 4 rfl) ?_
          refine lv_ishl hx hb dX7_lies_75 ?_
          refine lv_ior hx hb dX7_lies_76 ?_
          obtain ⟨x12, ex12, hf⟩ := lt_e hf
          refine lv_nm ex12 ?_
          refine lv_istore_n (lv' := [(2, .int x12), (4, .int x4), (0, .ref (zA v 0)), (1, .int x.1), (3, .int x.2.2.1)]) hx hb dX7_lies_77 rfl hl (by decide) rfl (fun ls hl => ?_)
          exact wb78 h18 hh18 x.1 x12 x.2.2.1 q10.2 hf _ _ _ hP hS (lv_sub hl [2, 3, 0, 4] rfl)
  unfold x_X7_lies at hf
  refine lv_aload_n hx hb dX7_lies_0 rfl (lv_at hl 0 rfl) ?_
  refine va_get (D := zD v) (ci := 6) (v := .ref (zA v 1)) (C := RX7) (T := TX7) (N := 11) hx hb hts iX7 hown hk.1 hP 0 rfl rfl 0 (by decide) (hts _ fl_X7_10) (fun _ h9 => h9) rfl dX7_lies_1 ?_
  refine lv_iload_n hx hb dX7_lies_4 rfl (lv_at hl 1 rfl) ?_
  obtain ⟨q1, eq1, hf⟩ := bd_e hf
  refine zki hS (zrV (As := [.int a1]) (rest := []) okX hx hb hml hown hts hk hP hS (t_X5_hasMake l v N a1 g _ eq1) vk_X5_hasMake ml_X7_130 rfl rfl ⟨(Nat.le_of_ble_eq_true rfl), (Nat.le_of_ble_eq_true rfl)⟩ (va_recv (q := (RX5, TX5, 10)) hk.1 hP (q0 := 1) (ci := 4) rfl rfl) rfl hl.1 rfl (Nat.le_of_ble_eq_true rfl) dX7_lies_5) (fun H locs hP hS => ?_)
  refine lv_if_ne (tgt := 14) hx hb dX7_lies_8 (by decide) (fun c2 => ?_) (fun c2 => ?_)
  · have hf := ite_f c2 hf
    refine lv_iconst (v := 0) hx hb dX7_lies_14 kI_0 ?_
    refine lv_istore_n (lv' := [(2, .int (0 : Int32)), (0, .ref (zA v 0)), (1, .int a1)]) hx hb dX7_lies_15 rfl hl (by decide) rfl (fun ls hl => ?_)
    refine lv_iconst (v := 0) hx hb dX7_lies_16 kI_0 ?_
    refine lv_istore_n (lv' := [(3, .int (0 : Int32)), (2, .int (0 : Int32)), (0, .ref (zA v 0)), (1, .int a1)]) hx hb dX7_lies_17 rfl hl (by decide) rfl (fun ls hl => ?_)
    exact wL18 N (a1, (0 : Int32), (0 : Int32), q1.2) hf _ _ _ hP hS (lv_sub hl [2, 3, 1, 0] rfl)
  · have hf := ite_t c2 hf
    refine lv_bipush (v := -2) hx hb dX7_lies_11 kB_m2 ?_
    exact hret _ _ _ _ _ _ (Or.inl rfl) (Option.some.inj hf) hP hS dX7_lies_13
abbrev rm_X7_rowsHold : Room := { frames := 3, cells := 0, slots := 0, locals := 105 }
set_option maxRecDepth 100000 in
theorem t_X7_rowsHold (l : Launch) (v : Ev) (N : Nat) (a1 : Int32) (a2 : Int32) (a3 : Int32) (a4 : Int32) (a5 : Int32) (g : Sg) (res : Int32 × Sg) (hf : x_X7_rowsHold N a1 a2 a3 a4 a5 g = some res) : Ci l yX7_rowsHold cX7_rowsHold 10 .boolean rm_X7_rowsHold pX v [.ref (zA v 0), .int a1, .int a2, .int a3, .int a4, .int a5] g res := by
  refine ze_i (by decide +kernel) (Nat.le_of_ble_eq_true rfl) ?_
  intro p e s m args below meth c Q ls hcx hret hP hl
  obtain ⟨hx, hb, hml, hown, hts, hk⟩ := hcx
  have hown : s.vm.findClass RX7 = some m.cls := hown
  have hS : va_S (An nX v) s.heap s.heap [] := va_S.rf
  have hl : lv_has ls 10 [(0, .ref (zA v 0)), (1, .int a1), (2, .int a2), (3, .int a3), (4, .int a4), (5, .int a5)] := hl
  have wb99 : ∀ (h14 : Int32 × Int32 × Int32 × Int32 × Int32 × Int32 × Int32 × Sg → Option (Int32 × Sg)) (hh14 : ∀ x : Int32 × Int32 × Int32 × Int32 × Int32 × Int32 × Int32 × Sg, h14 x = some res → ∀ (H : Heap) (locs : List Loc) (ls : Array Slot), va_P (zD v) vwCl (pX.1 v x.2.2.2.2.2.2.2) H → va_S (An nX v) s.heap H locs → lv_has ls 10 [(0, .ref (zA v 0)), (1, .int x.1), (2, .int x.2.1), (3, .int x.2.2.1), (4, .int x.2.2.2.1), (5, .int x.2.2.2.2.1), (6, .int x.2.2.2.2.2.1), (7, .int x.2.2.2.2.2.2.1)] → W p l e rm_X7_rowsHold s m args below meth c H locs 0 0 Q (F0 m 14 ls [])) (y1 : Int32) (y2 : Int32) (y3 : Int32) (y4 : Int32) (y5 : Int32) (y6 : Int32) (y7 : Int32) (g : Sg) (hf : x_X7_rowsHold_b99 N h14 y1 y2 y3 y4 y5 y6 y7 g = some res) (H : Heap) (locs : List Loc) (ls : Array Slot) (hP : va_P (zD v) vwCl (pX.1 v g) H) (hS : va_S (An nX v) s.heap H locs) (hl : lv_has ls 10 [(0, .ref (zA v 0)), (1, .int y1), (2, .int y2), (3, .int y3), (4, .int y4), (5, .int y5), (6, .int y6), (7, .int y7)]), W p l e rm_X7_rowsHold s m args below meth c H locs 0 0 Q (F0 m 99 ls []) := by
    intro h14 hh14 y1 y2 y3 y4 y5 y6 y7 g hf H locs ls hP hS hl
    unfold x_X7_rowsHold_b99 at hf
    obtain ⟨x9, ex9, hf⟩ := lt_e hf
    refine lv_iinc (v := x9) (lv' := [(7, .int x9), (0, .ref (zA v 0)), (1, .int y1), (2, .int y2), (3, .int y3), (4, .int y4), (5, .int y5), (6, .int y6)]) hx hb dX7_rowsHold_99 hl (k := 7) rfl ((congrArg (fun z => y7 + z) kI_2).trans ex9.symm) (by decide) rfl (fun ls hl => ?_)
    refine lv_goto (tgt := 14) hx hb dX7_rowsHold_102 (by decide) ?_
    exact hh14 (y1, y2, y3, y4, y5, y6, x9, g) hf _ _ _ hP hS (lv_sub hl [1, 2, 3, 4, 5, 6, 7, 0] rfl)
  have wL14 : ∀ (n : Nat) (x : Int32 × Int32 × Int32 × Int32 × Int32 × Int32 × Int32 × Sg), lp (x_X7_rowsHold_B14 N) n x = some res → ∀ (H : Heap) (locs : List Loc) (ls : Array Slot), va_P (zD v) vwCl (pX.1 v x.2.2.2.2.2.2.2) H → va_S (An nX v) s.heap H locs → lv_has ls 10 [(0, .ref (zA v 0)), (1, .int x.1), (2, .int x.2.1), (3, .int x.2.2.1), (4, .int x.2.2.2.1), (5, .int x.2.2.2.2.1), (6, .int x.2.2.2.2.2.1), (7, .int x.2.2.2.2.2.2.1)] → W p l e rm_X7_rowsHold s m args below meth c H locs 0 0 Q (F0 m 14 ls []) := by
    refine lp_w (P := fun x : Int32 × Int32 × Int32 × Int32 × Int32 × Int32 × Int32 × Sg => ∀ (H : Heap) (locs : List Loc) (ls : Array Slot), va_P (zD v) vwCl (pX.1 v x.2.2.2.2.2.2.2) H → va_S (An nX v) s.heap H locs → lv_has ls 10 [(0, .ref (zA v 0)), (1, .int x.1), (2, .int x.2.1), (3, .int x.2.2.1), (4, .int x.2.2.2.1), (5, .int x.2.2.2.2.1), (6, .int x.2.2.2.2.2.1), (7, .int x.2.2.2.2.2.2.1)] → W p l e rm_X7_rowsHold s m args below meth c H locs 0 0 Q (F0 m 14 ls [])) ?_
    intro h14 hh14 x hf H locs ls hP hS hl
    unfold x_X7_rowsHold_B14 at hf
    refine lv_iload hx hb dX7_rowsHold_14 (lv_at hl 7 rfl) ?_
    refine lv_iconst (v := 1) hx hb dX7_rowsHold_16 kI_1 ?_
    refine lv_iadd hx hb dX7_rowsHold_17 ?_
    refine lv_aload_n hx hb dX7_rowsHold_18 rfl (lv_at hl 0 rfl) ?_
    refine va_get (D := zD v) (ci := 6) (v := .ref (zA v 5)) (C := RX7) (T := TX7) (N := 11) hx hb hts iX7 hown hk.1 hP 0 rfl rfl 5 (by decide) (hts _ fl_X7_36) (fun _ h9 => h9) rfl dX7_rowsHold_19 ?_
    refine va_get (D := zD v) (ci := 2) (v := .ref (zA v 31)) (C := RX3) (T := TX3) (N := 3) hx hb hts iX3 hown hk.1 hP 5 rfl rfl 1 (by decide) (hts _ fl_X7_210) (fun _ h9 => h9) rfl dX7_rowsHold_22 ?_
    refine lv_iload_n hx hb dX7_rowsHold_25 rfl (lv_at hl 1 rfl) ?_
    obtain ⟨c3, hf⟩ := gd_e hf
    refine va_iald hx hb hk.1 hP 31 0 rfl rfl (inb_in c3) dX7_rowsHold_26 ?_
    refine lv_icmp_ge (tgt := 105) hx hb dX7_rowsHold_27 (by decide) (fun c4 => ?_) (fun c4 => ?_)
    · have hf := ite_t c4 hf
      refine lv_iconst (v := 1) hx hb dX7_rowsHold_105 kI_1 ?_
      exact hret _ _ _ _ _ _ (Or.inr rfl) (Option.some.inj hf) hP hS dX7_rowsHold_106
    · have hf := ite_f c4 hf
      refine lv_aload_n hx hb dX7_rowsHold_30 rfl (lv_at hl 0 rfl) ?_
      refine va_get (D := zD v) (ci := 6) (v := .ref (zA v 5)) (C := RX7) (T := TX7) (N := 11) hx hb hts iX7 hown hk.1 hP 0 rfl rfl 5 (by decide) (hts _ fl_X7_36) (fun _ h9 => h9) rfl dX7_rowsHold_31 ?_
      refine va_get (D := zD v) (ci := 2) (v := .ref (zA v 32)) (C := RX3) (T := TX3) (N := 3) hx hb hts iX3 hown hk.1 hP 5 rfl rfl 2 (by decide) (hts _ fl_X7_212) (fun _ h9 => h9) rfl dX7_rowsHold_34 ?_
      refine lv_iload_n hx hb dX7_rowsHold_37 rfl (lv_at hl 1 rfl) ?_
      obtain ⟨c5, hf⟩ := gd_e hf
      refine za_ld hx hb hk.1 hP 32 2 rfl rfl (inb_in c5) dX7_rowsHold_38 ?_
      refine lv_iload hx hb dX7_rowsHold_39 (lv_at hl 7 rfl) ?_
      obtain ⟨c6, hf⟩ := gd_e hf
      refine va_iald hx hb hk.1 hP (33 + (x.1).toNatClampNeg) 0 (zr_at v x.2.2.2.2.2.2.2 (inb_lt c5)) rfl (inb_in c6) dX7_rowsHold_41 ?_
      obtain ⟨x7, ex7, hf⟩ := lt_e hf
      refine lv_nm ex7 ?_
      refine lv_istore (lv' := [(8, .int x7), (0, .ref (zA v 0)), (1, .int x.1), (2, .int x.2.1), (3, .int x.2.2.1), (4, .int x.2.2.2.1), (5, .int x.2.2.2.2.1), (6, .int x.2.2.2.2.2.1), (7, .int x.2.2.2.2.2.2.1)]) hx hb dX7_rowsHold_42 hl (by decide) rfl (fun ls hl => ?_)
      refine lv_iload hx hb dX7_rowsHold_44 (lv_at hl 0 rfl) ?_
      refine lv_bipush (v := 20) hx hb dX7_rowsHold_46 kB_20 ?_
      refine lv_idiv hx hb dX7_rowsHold_48 kz_20 ?_
      refine lv_iload_n hx hb dX7_rowsHold_49 rfl (lv_at hl 3 rfl) ?_
      refine lv_icmp_ne (tgt := 99) hx hb dX7_rowsHold_50 (by decide) (fun c8 => ?_) (fun c8 => ?_)
      · have hf := ite_f c8 hf
        exact wb99 h14 hh14 x.1 x.2.1 x.2.2.1 x.2.2.2.1 x.2.2.2.2.1 x.2.2.2.2.2.1 x.2.2.2.2.2.2.1 x.2.2.2.2.2.2.2 hf _ _ _ hP hS (lv_sub hl [1, 2, 3, 4, 5, 6, 7, 8] rfl)
      · have hf := ite_t c8 hf
        refine lv_iload hx hb dX7_rowsHold_53 (lv_at hl 5 rfl) ?_
        refine lv_iload hx hb dX7_rowsHold_55 (lv_at hl 7 rfl) ?_
        refine lv_iload hx hb dX7_rowsHold_57 (lv_at hl 6 rfl) ?_
        refine lv_iload hx hb dX7_rowsHold_59 (lv_at hl 0 rfl) ?_
        refine lv_bipush (v := 20) hx hb dX7_rowsHold_61 kB_20 ?_
        refine lv_irem hx hb dX7_rowsHold_63 kz_20 ?_
        refine lv_nm (z := (rmI x7 (20 : Int32))) rfl ?_
        obtain ⟨q10, eq10, hf⟩ := bd_e hf
        refine zki hS (zrS (As := [.int x.2.2.2.1, .int x.2.2.2.2.2.1, .int x.2.2.2.2.1, .int (rmI x7 (20 : Int32))]) (rest := []) okX hx hb hml hown hts hk hP hS (t_X0_lengthOf l v N x.2.2.2.1 x.2.2.2.2.2.1 x.2.2.2.2.1 (rmI x7 (20 : Int32)) x.2.2.2.2.2.2.2 _ eq10) sk_X0_lengthOf ml_X7_295 rfl rfl ⟨(Nat.le_of_ble_eq_true rfl), (Nat.le_of_ble_eq_true rfl)⟩ rfl hl.1 rfl (Nat.le_of_ble_eq_true rfl) dX7_rowsHold_64) (fun H locs hP hS => ?_)
        refine lv_iload_n hx hb dX7_rowsHold_67 rfl (lv_at hl 4 rfl) ?_
        refine lv_isub hx hb dX7_rowsHold_68 ?_
        obtain ⟨x11, ex11, hf⟩ := lt_e hf
        refine lv_nm ex11 ?_
        refine lv_istore (lv' := [(9, .int x11), (8, .int x7), (0, .ref (zA v 0)), (1, .int x.1), (2, .int x.2.1), (3, .int x.2.2.1), (4, .int x.2.2.2.1), (5, .int x.2.2.2.2.1), (6, .int x.2.2.2.2.2.1), (7, .int x.2.2.2.2.2.2.1)]) hx hb dX7_rowsHold_69 hl (by decide) rfl (fun ls hl => ?_)
        refine lv_iload hx hb dX7_rowsHold_71 (lv_at hl 6 rfl) ?_
        refine lv_iload hx hb dX7_rowsHold_73 (lv_at hl 8 rfl) ?_
        refine lv_iload hx hb dX7_rowsHold_75 (lv_at hl 0 rfl) ?_
        obtain ⟨q12, eq12, hf⟩ := bd_e hf
        refine zki hS (zrS (As := [.int x.2.2.2.1, .int x.2.2.2.2.2.1, .int x11]) (rest := []) okX hx hb hml hown hts hk hP hS (t_X0_says l v N x.2.2.2.1 x.2.2.2.2.2.1 x11 q10.2 _ eq12) sk_X0_says ml_X7_300 rfl rfl ⟨(Nat.le_of_ble_eq_true rfl), (Nat.le_of_ble_eq_true rfl)⟩ rfl hl.1 rfl (Nat.le_of_ble_eq_true rfl) dX7_rowsHold_77) (fun H locs hP hS => ?_)
        refine lv_aload_n hx hb dX7_rowsHold_80 rfl (lv_at hl 2 rfl) ?_
        refine va_get (D := zD v) (ci := 6) (v := .ref (zA v 5)) (C := RX7) (T := TX7) (N := 11) hx hb hts iX7 hown hk.1 hP 0 rfl rfl 5 (by decide) (hts _ fl_X7_36) (fun _ h9 => h9) rfl dX7_rowsHold_81 ?_
        refine va_get (D := zD v) (ci := 2) (v := .ref (zA v 32)) (C := RX3) (T := TX3) (N := 3) hx hb hts iX3 hown hk.1 hP 5 rfl rfl 2 (by decide) (hts _ fl_X7_212) (fun _ h9 => h9) rfl dX7_rowsHold_84 ?_
        refine lv_iload_n hx hb dX7_rowsHold_87 rfl (lv_at hl 3 rfl) ?_
        obtain ⟨c13, hf⟩ := gd_e hf
        refine za_ld hx hb hk.1 hP 32 2 rfl rfl (inb_in c13) dX7_rowsHold_88 ?_
        refine lv_iload hx hb dX7_rowsHold_89 (lv_at hl 9 rfl) ?_
        refine lv_iconst (v := 1) hx hb dX7_rowsHold_91 kI_1 ?_
        refine lv_iadd hx hb dX7_rowsHold_92 ?_
        obtain ⟨c14, hf⟩ := gd_e hf
        refine va_iald hx hb hk.1 hP (33 + (x.1).toNatClampNeg) 0 (zr_at v q12.2 (inb_lt c13)) rfl (inb_in c14) dX7_rowsHold_93 ?_
        refine lv_icmp_eq (tgt := 99) hx hb dX7_rowsHold_94 (by decide) (fun c15 => ?_) (fun c15 => ?_)
        · have hf := ite_t c15 hf
          exact wb99 h14 hh14 x.1 x.2.1 x.2.2.1 x.2.2.2.1 x.2.2.2.2.1 x.2.2.2.2.2.1 x.2.2.2.2.2.2.1 q12.2 hf _ _ _ hP hS (lv_sub hl [2, 3, 4, 5, 6, 7, 8, 9] rfl)
        · have hf := ite_f c15 hf
          refine lv_iconst (v := 0) hx hb dX7_rowsHold_97 kI_0 ?_
          exact hret _ _ _ _ _ _ (Or.inr rfl) (Option.some.inj hf) hP hS dX7_rowsHold_98
  unfold x_X7_rowsHold at hf
  refine lv_aload_n hx hb dX7_rowsHold_0 rfl (lv_at hl 0 rfl) ?_
  refine va_get (D := zD v) (ci := 6) (v := .ref (zA v 1)) (C := RX7) (T := TX7) (N := 11) hx hb hts iX7 hown hk.1 hP 0 rfl rfl 0 (by decide) (hts _ fl_X7_10) (fun _ h9 => h9) rfl dX7_rowsHold_1 ?_
  refine va_get (D := zD v) (ci := 4) (v := .ref (zA v 13)) (C := RX5) (T := TX5) (N := 10) hx hb hts iX5 hown hk.1 hP 1 rfl rfl 7 (by decide) (hts _ fl_X7_110) (fun _ h9 => h9) rfl dX7_rowsHold_4 ?_
  refine lv_iload_n hx hb dX7_rowsHold_7 rfl (lv_at hl 2 rfl) ?_
  obtain ⟨c1, hf⟩ := gd_e hf
  refine va_iald hx hb hk.1 hP 13 0 rfl rfl (inb_in c1) dX7_rowsHold_8 ?_
  obtain ⟨x2, ex2, hf⟩ := lt_e hf
  refine lv_nm ex2 ?_
  refine lv_istore (lv' := [(6, .int x2), (0, .ref (zA v 0)), (1, .int a1), (2, .int a2), (3, .int a3), (4, .int a4), (5, .int a5)]) hx hb dX7_rowsHold_9 hl (by decide) rfl (fun ls hl => ?_)
  refine lv_iconst (v := 0) hx hb dX7_rowsHold_11 kI_0 ?_
  refine lv_istore (lv' := [(7, .int (0 : Int32)), (6, .int x2), (0, .ref (zA v 0)), (1, .int a1), (2, .int a2), (3, .int a3), (4, .int a4), (5, .int a5)]) hx hb dX7_rowsHold_12 hl (by decide) rfl (fun ls hl => ?_)
  exact wL14 N (a1, a2, a3, a4, a5, x2, (0 : Int32), g) hf _ _ _ hP hS (lv_sub hl [2, 3, 4, 5, 6, 7, 1, 0] rfl)
abbrev rm_X7_runs : Room := { frames := 4, cells := 0, slots := 0, locals := 134 }
set_option maxRecDepth 100000 in
theorem t_X7_runs (l : Launch) (v : Ev) (N : Nat) (a1 : Int32) (a2 : Int32) (a3 : Int32) (a4 : Int32) (g : Sg) (res : Int32 × Sg) (hf : x_X7_runs N a1 a2 a3 a4 g = some res) : Ci l yX7_runs cX7_runs 10 .int rm_X7_runs pX v [.ref (zA v 0), .int a1, .int a2, .int a3, .int a4] g res := by
  refine ze_i (by decide +kernel) (Nat.le_of_ble_eq_true rfl) ?_
  intro p e s m args below meth c Q ls hcx hret hP hl
  obtain ⟨hx, hb, hml, hown, hts, hk⟩ := hcx
  have hown : s.vm.findClass RX7 = some m.cls := hown
  have hS : va_S (An nX v) s.heap s.heap [] := va_S.rf
  have hl : lv_has ls 10 [(0, .ref (zA v 0)), (1, .int a1), (2, .int a2), (3, .int a3), (4, .int a4)] := hl
  have wb145 : ∀ (h60 : Int32 × Int32 × Int32 × Int32 × Int32 × Int32 × Sg → Option (Int32 × Sg)) (hh60 : ∀ x : Int32 × Int32 × Int32 × Int32 × Int32 × Int32 × Sg, h60 x = some res → ∀ (H : Heap) (locs : List Loc) (ls : Array Slot), va_P (zD v) vwCl (pX.1 v x.2.2.2.2.2.2) H → va_S (An nX v) s.heap H locs → lv_has ls 10 [(0, .ref (zA v 0)), (1, .int x.1), (2, .int x.2.1), (3, .int x.2.2.1), (4, .int x.2.2.2.1), (6, .int x.2.2.2.2.1), (7, .int x.2.2.2.2.2.1)] → W p l e rm_X7_runs s m args below meth c H locs 0 0 Q (F0 m 60 ls [])) (y1 : Int32) (y2 : Int32) (y3 : Int32) (y4 : Int32) (y6 : Int32) (y7 : Int32) (g : Sg) (hf : x_X7_runs_b145 N h60 y1 y2 y3 y4 y6 y7 g = some res) (H : Heap) (locs : List Loc) (ls : Array Slot) (hP : va_P (zD v) vwCl (pX.1 v g) H) (hS : va_S (An nX v) s.heap H locs) (hl : lv_has ls 10 [(0, .ref (zA v 0)), (1, .int y1), (2, .int y2), (3, .int y3), (4, .int y4), (6, .int y6), (7, .int y7)]), W p l e rm_X7_runs s m args below meth c H locs 0 0 Q (F0 m 145 ls []) := by
    intro h60 hh60 y1 y2 y3 y4 y6 y7 g hf H locs ls hP hS hl
    unfold x_X7_runs_b145 at hf
    obtain ⟨x18, ex18, hf⟩ := lt_e hf
    refine lv_iinc (v := x18) (lv' := [(7, .int x18), (0, .ref (zA v 0)), (1, .int y1), (2, .int y2), (3, .int y3), (4, .int y4), (6, .int y6)]) hx hb dX7_runs_145 hl (k := 6) rfl ((congrArg (fun z => y7 + z) kI_1).trans ex18.symm) (by decide) rfl (fun ls hl => ?_)
    refine lv_goto (tgt := 60) hx hb dX7_runs_148 (by decide) ?_
    exact hh60 (y1, y2, y3, y4, y6, x18, g) hf _ _ _ hP hS (lv_sub hl [1, 2, 3, 4, 5, 6, 0] rfl)
  have wb120 : ∀ (h60 : Int32 × Int32 × Int32 × Int32 × Int32 × Int32 × Sg → Option (Int32 × Sg)) (hh60 : ∀ x : Int32 × Int32 × Int32 × Int32 × Int32 × Int32 × Sg, h60 x = some res → ∀ (H : Heap) (locs : List Loc) (ls : Array Slot), va_P (zD v) vwCl (pX.1 v x.2.2.2.2.2.2) H → va_S (An nX v) s.heap H locs → lv_has ls 10 [(0, .ref (zA v 0)), (1, .int x.1), (2, .int x.2.1), (3, .int x.2.2.1), (4, .int x.2.2.2.1), (6, .int x.2.2.2.2.1), (7, .int x.2.2.2.2.2.1)] → W p l e rm_X7_runs s m args below meth c H locs 0 0 Q (F0 m 60 ls [])) (y1 : Int32) (y2 : Int32) (y3 : Int32) (y4 : Int32) (y6 : Int32) (y7 : Int32) (y8 : Int32) (t0 : Int32) (g : Sg) (hf : x_X7_runs_b120 N h60 y1 y2 y3 y4 y6 y7 y8 t0 g = some res) (H : Heap) (locs : List Loc) (ls : Array Slot) (hP : va_P (zD v) vwCl (pX.1 v g) H) (hS : va_S (An nX v) s.heap H locs) (hl : lv_has ls 10 [(0, .ref (zA v 0)), (1, .int y1), (2, .int y2), (3, .int y3), (4, .int y4), (6, .int y6), (7, .int y7), (8, .int y8)]), W p l e rm_X7_runs s m args below meth c H locs 0 0 Q (F0 m 120 ls [.int t0]) := by
    intro h60 hh60 y1 y2 y3 y4 y6 y7 y8 t0 g hf H locs ls hP hS hl
    unfold x_X7_runs_b120 at hf
    refine lv_istore (lv' := [(9, .int t0), (0, .ref (zA v 0)), (1, .int y1), (2, .int y2), (3, .int y3), (4, .int y4), (6, .int y6), (7, .int y7), (8, .int y8)]) hx hb dX7_runs_120 hl (by decide) rfl (fun ls hl => ?_)
    refine lv_aload_n hx hb dX7_runs_122 rfl (lv_at hl 1 rfl) ?_
    refine lv_iload_n hx hb dX7_runs_123 rfl (lv_at hl 2 rfl) ?_
    refine lv_iload_n hx hb dX7_runs_124 rfl (lv_at hl 3 rfl) ?_
    refine lv_iload_n hx hb dX7_runs_125 rfl (lv_at hl 4 rfl) ?_
    refine lv_iload hx hb dX7_runs_126 (lv_at hl 8 rfl) ?_
    refine lv_iload hx hb dX7_runs_128 (lv_at hl 0 rfl) ?_
    obtain ⟨q16, eq16, hf⟩ := bd_e hf
    refine zki hS (zrV (As := [.int y1, .int y2, .int y3, .int y8, .int t0]) (rest := []) okX hx hb hml hown hts hk hP hS (t_X7_rowsHold l v N y1 y2 y3 y8 t0 g _ eq16) vk_X7_rowsHold ml_X7_291 rfl rfl ⟨(Nat.le_of_ble_eq_true rfl), (Nat.le_of_ble_eq_true rfl)⟩ (va_recv (q := (RX7, TX7, 11)) hk.1 hP (q0 := 0) (ci := 6) rfl rfl) rfl hl.1 rfl (Nat.le_of_ble_eq_true rfl) dX7_runs_130) (fun H locs hP hS => ?_)
    refine lv_if_eq (tgt := 145) hx hb dX7_runs_133 (by decide) (fun c17 => ?_) (fun c17 => ?_)
    · have hf := ite_t c17 hf
      exact wb145 h60 hh60 y1 y2 y3 y4 y6 y7 q16.2 hf _ _ _ hP hS (lv_sub hl [1, 2, 3, 4, 5, 6, 7] rfl)
    · have hf := ite_f c17 hf
      refine lv_iload hx hb dX7_runs_136 (lv_at hl 6 rfl) ?_
      refine lv_iconst (v := 1) hx hb dX7_runs_138 kI_1 ?_
      refine lv_iload hx hb dX7_runs_139 (lv_at hl 7 rfl) ?_
      refine lv_ishl hx hb dX7_runs_141 ?_
      refine lv_ior hx hb dX7_runs_142 ?_
      obtain ⟨x19, ex19, hf⟩ := lt_e hf
      refine lv_nm ex19 ?_
      refine lv_istore (lv' := [(6, .int x19), (9, .int t0), (0, .ref (zA v 0)), (1, .int y1), (2, .int y2), (3, .int y3), (4, .int y4), (7, .int y7), (8, .int y8)]) hx hb dX7_runs_143 hl (by decide) rfl (fun ls hl => ?_)
      exact wb145 h60 hh60 y1 y2 y3 y4 x19 y7 q16.2 hf _ _ _ hP hS (lv_sub hl [2, 3, 4, 5, 6, 0, 7] rfl)
  have wb96 : ∀ (h60 : Int32 × Int32 × Int32 × Int32 × Int32 × Int32 × Sg → Option (Int32 × Sg)) (hh60 : ∀ x : Int32 × Int32 × Int32 × Int32 × Int32 × Int32 × Sg, h60 x = some res → ∀ (H : Heap) (locs : List Loc) (ls : Array Slot), va_P (zD v) vwCl (pX.1 v x.2.2.2.2.2.2) H → va_S (An nX v) s.heap H locs → lv_has ls 10 [(0, .ref (zA v 0)), (1, .int x.1), (2, .int x.2.1), (3, .int x.2.2.1), (4, .int x.2.2.2.1), (6, .int x.2.2.2.2.1), (7, .int x.2.2.2.2.2.1)] → W p l e rm_X7_runs s m args below meth c H locs 0 0 Q (F0 m 60 ls [])) (y1 : Int32) (y2 : Int32) (y3 : Int32) (y4 : Int32) (y6 : Int32) (y7 : Int32) (t0 : Int32) (g : Sg) (hf : x_X7_runs_b96 N h60 y1 y2 y3 y4 y6 y7 t0 g = some res) (H : Heap) (locs : List Loc) (ls : Array Slot) (hP : va_P (zD v) vwCl (pX.1 v g) H) (hS : va_S (An nX v) s.heap H locs) (hl : lv_has ls 10 [(0, .ref (zA v 0)), (1, .int y1), (2, .int y2), (3, .int y3), (4, .int y4), (6, .int y6), (7, .int y7)]), W p l e rm_X7_runs s m args below meth c H locs 0 0 Q (F0 m 96 ls [.int t0]) := by
    intro h60 hh60 y1 y2 y3 y4 y6 y7 t0 g hf H locs ls hP hS hl
    unfold x_X7_runs_b96 at hf
    refine lv_istore (lv' := [(8, .int t0), (0, .ref (zA v 0)), (1, .int y1), (2, .int y2), (3, .int y3), (4, .int y4), (6, .int y6), (7, .int y7)]) hx hb dX7_runs_96 hl (by decide) rfl (fun ls hl => ?_)
    refine lv_iload hx hb dX7_runs_98 (lv_at hl 5 rfl) ?_
    refine lv_if_ne (tgt := 111) hx hb dX7_runs_100 (by decide) (fun c14 => ?_) (fun c14 => ?_)
    · have hf := ite_f c14 hf
      refine lv_aload_n hx hb dX7_runs_111 rfl (lv_at hl 1 rfl) ?_
      refine va_get (D := zD v) (ci := 6) (v := .ref (zA v 1)) (C := RX7) (T := TX7) (N := 11) hx hb hts iX7 hown hk.1 hP 0 rfl rfl 0 (by decide) (hts _ fl_X7_10) (fun _ h9 => h9) rfl dX7_runs_112 ?_
      refine va_get (D := zD v) (ci := 4) (v := .ref (zA v 14)) (C := RX5) (T := TX5) (N := 10) hx hb hts iX5 hown hk.1 hP 1 rfl rfl 8 (by decide) (hts _ fl_X7_113) (fun _ h9 => h9) rfl dX7_runs_115 ?_
      refine lv_iload_n hx hb dX7_runs_118 rfl (lv_at hl 3 rfl) ?_
      obtain ⟨c15, hf⟩ := gd_e hf
      refine va_iald hx hb hk.1 hP 14 0 rfl rfl (inb_in c15) dX7_runs_119 ?_
      exact wb120 h60 hh60 y1 y2 y3 y4 y6 y7 t0 (g 14 (y2).toNatClampNeg) g hf _ _ _ hP hS (lv_sub hl [1, 2, 3, 4, 5, 6, 7, 0] rfl)
    · have hf := ite_t c14 hf
      refine lv_iload hx hb dX7_runs_103 (lv_at hl 7 rfl) ?_
      refine lv_bipush (v := 9) hx hb dX7_runs_105 kB_9 ?_
      refine lv_isub hx hb dX7_runs_107 ?_
      refine lv_goto (tgt := 120) hx hb dX7_runs_108 (by decide) ?_
      exact wb120 h60 hh60 y1 y2 y3 y4 y6 y7 t0 (y7 - (9 : Int32)) g hf _ _ _ hP hS (lv_sub hl [1, 2, 3, 4, 5, 6, 7, 0] rfl)
  have wb74 : ∀ (h60 : Int32 × Int32 × Int32 × Int32 × Int32 × Int32 × Sg → Option (Int32 × Sg)) (hh60 : ∀ x : Int32 × Int32 × Int32 × Int32 × Int32 × Int32 × Sg, h60 x = some res → ∀ (H : Heap) (locs : List Loc) (ls : Array Slot), va_P (zD v) vwCl (pX.1 v x.2.2.2.2.2.2) H → va_S (An nX v) s.heap H locs → lv_has ls 10 [(0, .ref (zA v 0)), (1, .int x.1), (2, .int x.2.1), (3, .int x.2.2.1), (4, .int x.2.2.2.1), (6, .int x.2.2.2.2.1), (7, .int x.2.2.2.2.2.1)] → W p l e rm_X7_runs s m args below meth c H locs 0 0 Q (F0 m 60 ls [])) (y1 : Int32) (y2 : Int32) (y3 : Int32) (y4 : Int32) (y6 : Int32) (y7 : Int32) (t0 : Int32) (t1 : Int32) (g : Sg) (hf : x_X7_runs_b74 N h60 y1 y2 y3 y4 y6 y7 t0 t1 g = some res) (H : Heap) (locs : List Loc) (ls : Array Slot) (hP : va_P (zD v) vwCl (pX.1 v g) H) (hS : va_S (An nX v) s.heap H locs) (hl : lv_has ls 10 [(0, .ref (zA v 0)), (1, .int y1), (2, .int y2), (3, .int y3), (4, .int y4), (6, .int y6), (7, .int y7)]), W p l e rm_X7_runs s m args below meth c H locs 0 0 Q (F0 m 74 ls [.int t0, .int t1]) := by
    intro h60 hh60 y1 y2 y3 y4 y6 y7 t0 t1 g hf H locs ls hP hS hl
    unfold x_X7_runs_b74 at hf
    refine lv_icmp_ge (tgt := 151) hx hb dX7_runs_74 (by decide) (fun c12 => ?_) (fun c12 => ?_)
    · have hf := ite_t c12 hf
      refine lv_iload hx hb dX7_runs_151 (lv_at hl 5 rfl) ?_
      exact hret _ _ _ _ _ _ (Or.inl rfl) (Option.some.inj hf) hP hS dX7_runs_153
    · have hf := ite_f c12 hf
      refine lv_iload hx hb dX7_runs_77 (lv_at hl 4 rfl) ?_
      refine lv_if_ne (tgt := 94) hx hb dX7_runs_79 (by decide) (fun c13 => ?_) (fun c13 => ?_)
      · have hf := ite_f c13 hf
        refine lv_iload hx hb dX7_runs_94 (lv_at hl 6 rfl) ?_
        exact wb96 h60 hh60 y1 y2 y3 y4 y6 y7 y7 g hf _ _ _ hP hS (lv_sub hl [0, 1, 2, 3, 4, 5, 6] rfl)
      · have hf := ite_t c13 hf
        refine lv_aload_n hx hb dX7_runs_82 rfl (lv_at hl 0 rfl) ?_
        refine va_get (D := zD v) (ci := 6) (v := .ref (zA v 1)) (C := RX7) (T := TX7) (N := 11) hx hb hts iX7 hown hk.1 hP 0 rfl rfl 0 (by decide) (hts _ fl_X7_10) (fun _ h9 => h9) rfl dX7_runs_83 ?_
        refine va_get (D := zD v) (ci := 4) (v := .ref (zA v 12)) (C := RX5) (T := TX5) (N := 10) hx hb hts iX5 hown hk.1 hP 1 rfl rfl 6 (by decide) (hts _ fl_X7_123) (fun _ h9 => h9) rfl dX7_runs_86 ?_
        refine lv_iload_n hx hb dX7_runs_89 rfl (lv_at hl 2 rfl) ?_
        obtain ⟨c20, hf⟩ := gd_e hf
        refine va_iald hx hb hk.1 hP 12 0 rfl rfl (inb_in c20) dX7_runs_90 ?_
        refine lv_goto (tgt := 96) hx hb dX7_runs_91 (by decide) ?_
        exact wb96 h60 hh60 y1 y2 y3 y4 y6 y7 (g 12 (y2).toNatClampNeg) g hf _ _ _ hP hS (lv_sub hl [0, 1, 2, 3, 4, 5, 6] rfl)
  have wL60 : ∀ (n : Nat) (x : Int32 × Int32 × Int32 × Int32 × Int32 × Int32 × Sg), lp (x_X7_runs_B60 N) n x = some res → ∀ (H : Heap) (locs : List Loc) (ls : Array Slot), va_P (zD v) vwCl (pX.1 v x.2.2.2.2.2.2) H → va_S (An nX v) s.heap H locs → lv_has ls 10 [(0, .ref (zA v 0)), (1, .int x.1), (2, .int x.2.1), (3, .int x.2.2.1), (4, .int x.2.2.2.1), (6, .int x.2.2.2.2.1), (7, .int x.2.2.2.2.2.1)] → W p l e rm_X7_runs s m args below meth c H locs 0 0 Q (F0 m 60 ls []) := by
    refine lp_w (P := fun x : Int32 × Int32 × Int32 × Int32 × Int32 × Int32 × Sg => ∀ (H : Heap) (locs : List Loc) (ls : Array Slot), va_P (zD v) vwCl (pX.1 v x.2.2.2.2.2.2) H → va_S (An nX v) s.heap H locs → lv_has ls 10 [(0, .ref (zA v 0)), (1, .int x.1), (2, .int x.2.1), (3, .int x.2.2.1), (4, .int x.2.2.2.1), (6, .int x.2.2.2.2.1), (7, .int x.2.2.2.2.2.1)] → W p l e rm_X7_runs s m args below meth c H locs 0 0 Q (F0 m 60 ls [])) ?_
    intro h60 hh60 x hf H locs ls hP hS hl
    unfold x_X7_runs_B60 at hf
    refine lv_iload hx hb dX7_runs_60 (lv_at hl 6 rfl) ?_
    refine lv_iload hx hb dX7_runs_62 (lv_at hl 4 rfl) ?_
    refine lv_if_ne (tgt := 72) hx hb dX7_runs_64 (by decide) (fun c11 => ?_) (fun c11 => ?_)
    · have hf := ite_f c11 hf
      refine lv_bipush (v := 6) hx hb dX7_runs_72 kB_6 ?_
      exact wb74 h60 hh60 x.1 x.2.1 x.2.2.1 x.2.2.2.1 x.2.2.2.2.1 x.2.2.2.2.2.1 (6 : Int32) x.2.2.2.2.2.1 x.2.2.2.2.2.2 hf _ _ _ hP hS (lv_sub hl [0, 1, 2, 3, 4, 5, 6] rfl)
    · have hf := ite_t c11 hf
      refine lv_bipush (v := 19) hx hb dX7_runs_67 kB_19 ?_
      refine lv_goto (tgt := 74) hx hb dX7_runs_69 (by decide) ?_
      exact wb74 h60 hh60 x.1 x.2.1 x.2.2.1 x.2.2.2.1 x.2.2.2.2.1 x.2.2.2.2.2.1 (19 : Int32) x.2.2.2.2.2.1 x.2.2.2.2.2.2 hf _ _ _ hP hS (lv_sub hl [0, 1, 2, 3, 4, 5, 6] rfl)
  unfold x_X7_runs at hf
  refine lv_iload_n hx hb dX7_runs_0 rfl (lv_at hl 1 rfl) ?_
  obtain ⟨q1, eq1, hf⟩ := bd_e hf
  refine zki hS (zrS (As := [.int a1]) (rest := []) okX hx hb hml hown hts hk hP hS (t_X3_isOne l v N a1 g _ eq1) sk_X3_isOne ml_X7_173 rfl rfl ⟨(Nat.le_of_ble_eq_true rfl), (Nat.le_of_ble_eq_true rfl)⟩ rfl hl.1 rfl (Nat.le_of_ble_eq_true rfl) dX7_runs_1) (fun H locs hP hS => ?_)
  refine lv_if_eq (tgt := 36) hx hb dX7_runs_4 (by decide) (fun c2 => ?_) (fun c2 => ?_)
  · have hf := ite_t c2 hf
    refine lv_bipush (v := -2) hx hb dX7_runs_36 kB_m2 ?_
    exact hret _ _ _ _ _ _ (Or.inl rfl) (Option.some.inj hf) hP hS dX7_runs_38
  · have hf := ite_f c2 hf
    refine lv_aload_n hx hb dX7_runs_7 rfl (lv_at hl 0 rfl) ?_
    refine va_get (D := zD v) (ci := 6) (v := .ref (zA v 1)) (C := RX7) (T := TX7) (N := 11) hx hb hts iX7 hown hk.1 hP 0 rfl rfl 0 (by decide) (hts _ fl_X7_10) (fun _ h9 => h9) rfl dX7_runs_8 ?_
    refine lv_iload_n hx hb dX7_runs_11 rfl (lv_at hl 2 rfl) ?_
    obtain ⟨q3, eq3, hf⟩ := bd_e hf
    refine zki hS (zrV (As := [.int a2]) (rest := []) okX hx hb hml hown hts hk hP hS (t_X5_hasMake l v N a2 q1.2 _ eq3) vk_X5_hasMake ml_X7_130 rfl rfl ⟨(Nat.le_of_ble_eq_true rfl), (Nat.le_of_ble_eq_true rfl)⟩ (va_recv (q := (RX5, TX5, 10)) hk.1 hP (q0 := 1) (ci := 4) rfl rfl) rfl hl.1 rfl (Nat.le_of_ble_eq_true rfl) dX7_runs_12) (fun H locs hP hS => ?_)
    refine lv_if_eq (tgt := 36) hx hb dX7_runs_15 (by decide) (fun c4 => ?_) (fun c4 => ?_)
    · have hf := ite_t c4 hf
      refine lv_bipush (v := -2) hx hb dX7_runs_36 kB_m2 ?_
      exact hret _ _ _ _ _ _ (Or.inl rfl) (Option.some.inj hf) hP hS dX7_runs_38
    · have hf := ite_f c4 hf
      refine lv_iload_n hx hb dX7_runs_18 rfl (lv_at hl 3 rfl) ?_
      obtain ⟨q5, eq5, hf⟩ := bd_e hf
      refine zki hS (zrS (As := [.int a3]) (rest := []) okX hx hb hml hown hts hk hP hS (t_X7_isFoot l v N a3 q3.2 _ eq5) sk_X7_isFoot ml_X7_126 rfl rfl ⟨(Nat.le_of_ble_eq_true rfl), (Nat.le_of_ble_eq_true rfl)⟩ rfl hl.1 rfl (Nat.le_of_ble_eq_true rfl) dX7_runs_19) (fun H locs hP hS => ?_)
      refine lv_if_eq (tgt := 36) hx hb dX7_runs_22 (by decide) (fun c6 => ?_) (fun c6 => ?_)
      · have hf := ite_t c6 hf
        refine lv_bipush (v := -2) hx hb dX7_runs_36 kB_m2 ?_
        exact hret _ _ _ _ _ _ (Or.inl rfl) (Option.some.inj hf) hP hS dX7_runs_38
      · have hf := ite_f c6 hf
        refine lv_iload hx hb dX7_runs_25 (lv_at hl 4 rfl) ?_
        refine lv_if_lt (tgt := 36) hx hb dX7_runs_27 (by decide) (fun c7 => ?_) (fun c7 => ?_)
        · have hf := ite_t c7 hf
          refine lv_bipush (v := -2) hx hb dX7_runs_36 kB_m2 ?_
          exact hret _ _ _ _ _ _ (Or.inl rfl) (Option.some.inj hf) hP hS dX7_runs_38
        · have hf := ite_f c7 hf
          refine lv_iload hx hb dX7_runs_30 (lv_at hl 4 rfl) ?_
          refine lv_iconst (v := 1) hx hb dX7_runs_32 kI_1 ?_
          refine lv_icmp_le (tgt := 39) hx hb dX7_runs_33 (by decide) (fun c8 => ?_) (fun c8 => ?_)
          · have hf := ite_t c8 hf
            refine lv_aload_n hx hb dX7_runs_39 rfl (lv_at hl 0 rfl) ?_
            refine lv_iload_n hx hb dX7_runs_40 rfl (lv_at hl 1 rfl) ?_
            obtain ⟨q9, eq9, hf⟩ := bd_e hf
            refine zki hS (zrV (As := [.int a1]) (rest := []) okX hx hb hml hown hts hk hP hS (t_X7_rowsRefusal l v N a1 q5.2 _ eq9) vk_X7_rowsRefusal ml_X7_176 rfl rfl ⟨(Nat.le_of_ble_eq_true rfl), (Nat.le_of_ble_eq_true rfl)⟩ (va_recv (q := (RX7, TX7, 11)) hk.1 hP (q0 := 0) (ci := 6) rfl rfl) rfl hl.1 rfl (Nat.le_of_ble_eq_true rfl) dX7_runs_41) (fun H locs hP hS => ?_)
            refine lv_istore (lv' := [(5, .int q9.1), (0, .ref (zA v 0)), (1, .int a1), (2, .int a2), (3, .int a3), (4, .int a4)]) hx hb dX7_runs_44 hl (by decide) rfl (fun ls hl => ?_)
            refine lv_iload hx hb dX7_runs_46 (lv_at hl 0 rfl) ?_
            refine lv_if_eq (tgt := 54) hx hb dX7_runs_48 (by decide) (fun c10 => ?_) (fun c10 => ?_)
            · have hf := ite_t c10 hf
              refine lv_iconst (v := 0) hx hb dX7_runs_54 kI_0 ?_
              refine lv_istore (lv' := [(6, .int (0 : Int32)), (5, .int q9.1), (0, .ref (zA v 0)), (1, .int a1), (2, .int a2), (3, .int a3), (4, .int a4)]) hx hb dX7_runs_55 hl (by decide) rfl (fun ls hl => ?_)
              refine lv_iconst (v := 0) hx hb dX7_runs_57 kI_0 ?_
              refine lv_istore (lv' := [(7, .int (0 : Int32)), (6, .int (0 : Int32)), (5, .int q9.1), (0, .ref (zA v 0)), (1, .int a1), (2, .int a2), (3, .int a3), (4, .int a4)]) hx hb dX7_runs_58 hl (by decide) rfl (fun ls hl => ?_)
              exact wL60 N (a1, a2, a3, a4, (0 : Int32), (0 : Int32), q9.2) hf _ _ _ hP hS (lv_sub hl [3, 4, 5, 6, 7, 1, 0] rfl)
            · have hf := ite_f c10 hf
              refine lv_iload hx hb dX7_runs_51 (lv_at hl 0 rfl) ?_
              exact hret _ _ _ _ _ _ (Or.inl rfl) (Option.some.inj hf) hP hS dX7_runs_53
          · have hf := ite_f c8 hf
            refine lv_bipush (v := -2) hx hb dX7_runs_36 kB_m2 ?_
            exact hret _ _ _ _ _ _ (Or.inl rfl) (Option.some.inj hf) hP hS dX7_runs_38
abbrev rm_X7_film : Room := { frames := 4, cells := 0, slots := 0, locals := 128 }
set_option maxRecDepth 100000 in
theorem t_X7_film (l : Launch) (v : Ev) (N : Nat) (a1 : Int32) (a2 : Int32) (a3 : Int32) (g : Sg) (res : Int32 × Sg) (hf : x_X7_film N a1 a2 a3 g = some res) : Ci l yX7_film cX7_film 7 .int rm_X7_film pX v [.ref (zA v 0), .int a1, .int a2, .int a3] g res := by
  refine ze_i (by decide +kernel) (Nat.le_of_ble_eq_true rfl) ?_
  intro p e s m args below meth c Q ls hcx hret hP hl
  obtain ⟨hx, hb, hml, hown, hts, hk⟩ := hcx
  have hown : s.vm.findClass RX7 = some m.cls := hown
  have hS : va_S (An nX v) s.heap s.heap [] := va_S.rf
  have hl : lv_has ls 7 [(0, .ref (zA v 0)), (1, .int a1), (2, .int a2), (3, .int a3)] := hl
  have wb131 : ∀ (h59 : Int32 × Int32 × Int32 × Int32 × Int32 × Sg → Option (Int32 × Sg)) (hh59 : ∀ x : Int32 × Int32 × Int32 × Int32 × Int32 × Sg, h59 x = some res → ∀ (H : Heap) (locs : List Loc) (ls : Array Slot), va_P (zD v) vwCl (pX.1 v x.2.2.2.2.2) H → va_S (An nX v) s.heap H locs → lv_has ls 7 [(0, .ref (zA v 0)), (1, .int x.1), (2, .int x.2.1), (4, .int x.2.2.1), (5, .int x.2.2.2.1), (6, .int x.2.2.2.2.1)] → W p l e rm_X7_film s m args below meth c H locs 0 0 Q (F0 m 59 ls [])) (y1 : Int32) (y2 : Int32) (y4 : Int32) (y5 : Int32) (y6 : Int32) (g : Sg) (hf : x_X7_film_b131 N h59 y1 y2 y4 y5 y6 g = some res) (H : Heap) (locs : List Loc) (ls : Array Slot) (hP : va_P (zD v) vwCl (pX.1 v g) H) (hS : va_S (An nX v) s.heap H locs) (hl : lv_has ls 7 [(0, .ref (zA v 0)), (1, .int y1), (2, .int y2), (4, .int y4), (5, .int y5), (6, .int y6)]), W p l e rm_X7_film s m args below meth c H locs 0 0 Q (F0 m 131 ls []) := by
    intro h59 hh59 y1 y2 y4 y5 y6 g hf H locs ls hP hS hl
    unfold x_X7_film_b131 at hf
    obtain ⟨x15, ex15, hf⟩ := lt_e hf
    refine lv_iinc (v := x15) (lv' := [(6, .int x15), (0, .ref (zA v 0)), (1, .int y1), (2, .int y2), (4, .int y4), (5, .int y5)]) hx hb dX7_film_131 hl (k := 5) rfl ((congrArg (fun z => y6 + z) kI_1).trans ex15.symm) (by decide) rfl (fun ls hl => ?_)
    refine lv_goto (tgt := 59) hx hb dX7_film_134 (by decide) ?_
    exact hh59 (y1, y2, y4, y5, x15, g) hf _ _ _ hP hS (lv_sub hl [1, 2, 3, 4, 5, 0] rfl)
  have wL59 : ∀ (n : Nat) (x : Int32 × Int32 × Int32 × Int32 × Int32 × Sg), lp (x_X7_film_B59 N) n x = some res → ∀ (H : Heap) (locs : List Loc) (ls : Array Slot), va_P (zD v) vwCl (pX.1 v x.2.2.2.2.2) H → va_S (An nX v) s.heap H locs → lv_has ls 7 [(0, .ref (zA v 0)), (1, .int x.1), (2, .int x.2.1), (4, .int x.2.2.1), (5, .int x.2.2.2.1), (6, .int x.2.2.2.2.1)] → W p l e rm_X7_film s m args below meth c H locs 0 0 Q (F0 m 59 ls []) := by
    refine lp_w (P := fun x : Int32 × Int32 × Int32 × Int32 × Int32 × Sg => ∀ (H : Heap) (locs : List Loc) (ls : Array Slot), va_P (zD v) vwCl (pX.1 v x.2.2.2.2.2) H → va_S (An nX v) s.heap H locs → lv_has ls 7 [(0, .ref (zA v 0)), (1, .int x.1), (2, .int x.2.1), (4, .int x.2.2.1), (5, .int x.2.2.2.1), (6, .int x.2.2.2.2.1)] → W p l e rm_X7_film s m args below meth c H locs 0 0 Q (F0 m 59 ls [])) ?_
    intro h59 hh59 x hf H locs ls hP hS hl
    unfold x_X7_film_B59 at hf
    refine lv_iload hx hb dX7_film_59 (lv_at hl 5 rfl) ?_
    refine lv_aload_n hx hb dX7_film_61 rfl (lv_at hl 0 rfl) ?_
    refine va_get (D := zD v) (ci := 6) (v := .ref (zA v 1)) (C := RX7) (T := TX7) (N := 11) hx hb hts iX7 hown hk.1 hP 0 rfl rfl 0 (by decide) (hts _ fl_X7_10) (fun _ h9 => h9) rfl dX7_film_62 ?_
    obtain ⟨q10, eq10, hf⟩ := bd_e hf
    refine zki hS (zrV (As := []) (rest := [.int x.2.2.2.2.1]) okX hx hb hml hown hts hk hP hS (t_X5_shoes l v N x.2.2.2.2.2 _ eq10) vk_X5_shoes ml_X7_226 rfl rfl ⟨(Nat.le_of_ble_eq_true rfl), (Nat.le_of_ble_eq_true rfl)⟩ (va_recv (q := (RX5, TX5, 10)) hk.1 hP (q0 := 1) (ci := 4) rfl rfl) rfl hl.1 rfl (Nat.le_of_ble_eq_true rfl) dX7_film_65) (fun H locs hP hS => ?_)
    refine lv_icmp_ge (tgt := 137) hx hb dX7_film_68 (by decide) (fun c11 => ?_) (fun c11 => ?_)
    · have hf := ite_t c11 hf
      refine lv_iload hx hb dX7_film_137 (lv_at hl 3 rfl) ?_
      exact hret _ _ _ _ _ _ (Or.inl rfl) (Option.some.inj hf) hP hS dX7_film_139
    · have hf := ite_f c11 hf
      refine lv_iload hx hb dX7_film_71 (lv_at hl 4 rfl) ?_
      refine lv_iload hx hb dX7_film_73 (lv_at hl 3 rfl) ?_
      refine lv_icmp_ge (tgt := 137) hx hb dX7_film_75 (by decide) (fun c12 => ?_) (fun c12 => ?_)
      · have hf := ite_t c12 hf
        refine lv_iload hx hb dX7_film_137 (lv_at hl 3 rfl) ?_
        exact hret _ _ _ _ _ _ (Or.inl rfl) (Option.some.inj hf) hP hS dX7_film_139
      · have hf := ite_f c12 hf
        refine lv_aload_n hx hb dX7_film_78 rfl (lv_at hl 0 rfl) ?_
        refine va_get (D := zD v) (ci := 6) (v := .ref (zA v 1)) (C := RX7) (T := TX7) (N := 11) hx hb hts iX7 hown hk.1 hP 0 rfl rfl 0 (by decide) (hts _ fl_X7_10) (fun _ h9 => h9) rfl dX7_film_79 ?_
        refine lv_iload hx hb dX7_film_82 (lv_at hl 5 rfl) ?_
        obtain ⟨q13, eq13, hf⟩ := bd_e hf
        refine zki hS (zrV (As := [.int x.2.2.2.2.1]) (rest := []) okX hx hb hml hown hts hk hP hS (t_X5_stocks l v N x.2.2.2.2.1 q10.2 _ eq13) vk_X5_stocks ml_X7_229 rfl rfl ⟨(Nat.le_of_ble_eq_true rfl), (Nat.le_of_ble_eq_true rfl)⟩ (va_recv (q := (RX5, TX5, 10)) hk.1 hP (q0 := 1) (ci := 4) rfl rfl) rfl hl.1 rfl (Nat.le_of_ble_eq_true rfl) dX7_film_84) (fun H locs hP hS => ?_)
        refine lv_if_eq (tgt := 131) hx hb dX7_film_87 (by decide) (fun c14 => ?_) (fun c14 => ?_)
        · have hf := ite_t c14 hf
          exact wb131 h59 hh59 x.1 x.2.1 x.2.2.1 x.2.2.2.1 x.2.2.2.2.1 q13.2 hf _ _ _ hP hS (lv_sub hl [0, 1, 2, 3, 4, 5] rfl)
        · have hf := ite_f c14 hf
          refine lv_aload_n hx hb dX7_film_90 rfl (lv_at hl 0 rfl) ?_
          refine va_get (D := zD v) (ci := 6) (v := .ref (zA v 5)) (C := RX7) (T := TX7) (N := 11) hx hb hts iX7 hown hk.1 hP 0 rfl rfl 5 (by decide) (hts _ fl_X7_36) (fun _ h9 => h9) rfl dX7_film_91 ?_
          refine lv_iload_n hx hb dX7_film_94 rfl (lv_at hl 1 rfl) ?_
          refine lv_iconst (v := 2) hx hb dX7_film_95 kI_2 ?_
          refine lv_iload hx hb dX7_film_96 (lv_at hl 4 rfl) ?_
          refine lv_imul hx hb dX7_film_98 ?_
          refine lv_iload hx hb dX7_film_99 (lv_at hl 5 rfl) ?_
          obtain ⟨q16, eq16, hf⟩ := bd_e hf
          refine zkv hS (zrV (As := [.int x.1, .int ((2 : Int32) * x.2.2.2.1), .int x.2.2.2.2.1]) (rest := []) okX hx hb hml hown hts hk hP hS (t_X3_put l v N x.1 ((2 : Int32) * x.2.2.2.1) x.2.2.2.2.1 q13.2 _ eq16) vk_X3_put ml_X7_310 rfl rfl ⟨(Nat.le_of_ble_eq_true rfl), (Nat.le_of_ble_eq_true rfl)⟩ (va_recv (q := (RX3, TX3, 3)) hk.1 hP (q0 := 5) (ci := 2) rfl rfl) rfl hl.1 rfl (Nat.le_of_ble_eq_true rfl) dX7_film_101) (fun H locs hP hS => ?_)
          refine lv_aload_n hx hb dX7_film_104 rfl (lv_at hl 0 rfl) ?_
          refine va_get (D := zD v) (ci := 6) (v := .ref (zA v 5)) (C := RX7) (T := TX7) (N := 11) hx hb hts iX7 hown hk.1 hP 0 rfl rfl 5 (by decide) (hts _ fl_X7_36) (fun _ h9 => h9) rfl dX7_film_105 ?_
          refine lv_iload_n hx hb dX7_film_108 rfl (lv_at hl 1 rfl) ?_
          refine lv_iconst (v := 2) hx hb dX7_film_109 kI_2 ?_
          refine lv_iload hx hb dX7_film_110 (lv_at hl 4 rfl) ?_
          refine lv_imul hx hb dX7_film_112 ?_
          refine lv_iconst (v := 1) hx hb dX7_film_113 kI_1 ?_
          refine lv_iadd hx hb dX7_film_114 ?_
          refine lv_aload_n hx hb dX7_film_115 rfl (lv_at hl 0 rfl) ?_
          refine va_get (D := zD v) (ci := 6) (v := .ref (zA v 1)) (C := RX7) (T := TX7) (N := 11) hx hb hts iX7 hown hk.1 hP 0 rfl rfl 0 (by decide) (hts _ fl_X7_10) (fun _ h9 => h9) rfl dX7_film_116 ?_
          refine lv_iload hx hb dX7_film_119 (lv_at hl 5 rfl) ?_
          refine lv_iload_n hx hb dX7_film_121 rfl (lv_at hl 2 rfl) ?_
          obtain ⟨q17, eq17, hf⟩ := bd_e hf
          refine zki hS (zrV (As := [.int x.2.2.2.2.1, .int x.2.1]) (rest := [.int (((2 : Int32) * x.2.2.2.1) + (1 : Int32)), .int x.1, .ref (zA v 5)]) okX hx hb hml hown hts hk hP hS (t_X5_saysOf l v N x.2.2.2.2.1 x.2.1 q16 _ eq17) vk_X5_saysOf ml_X7_142 rfl rfl ⟨(Nat.le_of_ble_eq_true rfl), (Nat.le_of_ble_eq_true rfl)⟩ (va_recv (q := (RX5, TX5, 10)) hk.1 hP (q0 := 1) (ci := 4) rfl rfl) rfl hl.1 rfl (Nat.le_of_ble_eq_true rfl) dX7_film_122) (fun H locs hP hS => ?_)
          obtain ⟨q18, eq18, hf⟩ := bd_e hf
          refine zkv hS (zrV (As := [.int x.1, .int (((2 : Int32) * x.2.2.2.1) + (1 : Int32)), .int q17.1]) (rest := []) okX hx hb hml hown hts hk hP hS (t_X3_put l v N x.1 (((2 : Int32) * x.2.2.2.1) + (1 : Int32)) q17.1 q17.2 _ eq18) vk_X3_put ml_X7_310 rfl rfl ⟨(Nat.le_of_ble_eq_true rfl), (Nat.le_of_ble_eq_true rfl)⟩ (va_recv (q := (RX3, TX3, 3)) hk.1 hP (q0 := 5) (ci := 2) rfl rfl) rfl hl.1 rfl (Nat.le_of_ble_eq_true rfl) dX7_film_125) (fun H locs hP hS => ?_)
          obtain ⟨x19, ex19, hf⟩ := lt_e hf
          refine lv_iinc (v := x19) (lv' := [(5, .int x19), (0, .ref (zA v 0)), (1, .int x.1), (2, .int x.2.1), (4, .int x.2.2.1), (6, .int x.2.2.2.2.1)]) hx hb dX7_film_128 hl (k := 4) rfl ((congrArg (fun z => x.2.2.2.1 + z) kI_1).trans ex19.symm) (by decide) rfl (fun ls hl => ?_)
          exact wb131 h59 hh59 x.1 x.2.1 x.2.2.1 x19 x.2.2.2.2.1 q18 hf _ _ _ hP hS (lv_sub hl [1, 2, 3, 4, 0, 5] rfl)
  unfold x_X7_film at hf
  refine lv_iload_n hx hb dX7_film_0 rfl (lv_at hl 1 rfl) ?_
  obtain ⟨q1, eq1, hf⟩ := bd_e hf
  refine zki hS (zrS (As := [.int a1]) (rest := []) okX hx hb hml hown hts hk hP hS (t_X3_isOne l v N a1 g _ eq1) sk_X3_isOne ml_X7_173 rfl rfl ⟨(Nat.le_of_ble_eq_true rfl), (Nat.le_of_ble_eq_true rfl)⟩ rfl hl.1 rfl (Nat.le_of_ble_eq_true rfl) dX7_film_1) (fun H locs hP hS => ?_)
  refine lv_if_eq (tgt := 24) hx hb dX7_film_4 (by decide) (fun c2 => ?_) (fun c2 => ?_)
  · have hf := ite_t c2 hf
    refine lv_bipush (v := -2) hx hb dX7_film_24 kB_m2 ?_
    exact hret _ _ _ _ _ _ (Or.inl rfl) (Option.some.inj hf) hP hS dX7_film_26
  · have hf := ite_f c2 hf
    refine lv_iload_n hx hb dX7_film_7 rfl (lv_at hl 2 rfl) ?_
    obtain ⟨q3, eq3, hf⟩ := bd_e hf
    refine zki hS (zrS (As := [.int a2]) (rest := []) okX hx hb hml hown hts hk hP hS (t_X7_isFoot l v N a2 q1.2 _ eq3) sk_X7_isFoot ml_X7_126 rfl rfl ⟨(Nat.le_of_ble_eq_true rfl), (Nat.le_of_ble_eq_true rfl)⟩ rfl hl.1 rfl (Nat.le_of_ble_eq_true rfl) dX7_film_8) (fun H locs hP hS => ?_)
    refine lv_if_eq (tgt := 24) hx hb dX7_film_11 (by decide) (fun c4 => ?_) (fun c4 => ?_)
    · have hf := ite_t c4 hf
      refine lv_bipush (v := -2) hx hb dX7_film_24 kB_m2 ?_
      exact hret _ _ _ _ _ _ (Or.inl rfl) (Option.some.inj hf) hP hS dX7_film_26
    · have hf := ite_f c4 hf
      refine lv_iload_n hx hb dX7_film_14 rfl (lv_at hl 3 rfl) ?_
      refine lv_if_lt (tgt := 24) hx hb dX7_film_15 (by decide) (fun c5 => ?_) (fun c5 => ?_)
      · have hf := ite_t c5 hf
        refine lv_bipush (v := -2) hx hb dX7_film_24 kB_m2 ?_
        exact hret _ _ _ _ _ _ (Or.inl rfl) (Option.some.inj hf) hP hS dX7_film_26
      · have hf := ite_f c5 hf
        refine lv_iload_n hx hb dX7_film_18 rfl (lv_at hl 3 rfl) ?_
        refine lv_bipush (v := 20) hx hb dX7_film_19 kB_20 ?_
        refine lv_icmp_le (tgt := 27) hx hb dX7_film_21 (by decide) (fun c6 => ?_) (fun c6 => ?_)
        · have hf := ite_t c6 hf
          refine lv_iload_n hx hb dX7_film_27 rfl (lv_at hl 3 rfl) ?_
          refine lv_aload_n hx hb dX7_film_28 rfl (lv_at hl 0 rfl) ?_
          refine va_get (D := zD v) (ci := 6) (v := .ref (zA v 1)) (C := RX7) (T := TX7) (N := 11) hx hb hts iX7 hown hk.1 hP 0 rfl rfl 0 (by decide) (hts _ fl_X7_10) (fun _ h9 => h9) rfl dX7_film_29 ?_
          obtain ⟨q7, eq7, hf⟩ := bd_e hf
          refine zki hS (zrV (As := []) (rest := [.int a3]) okX hx hb hml hown hts hk hP hS (t_X5_stocked l v N q3.2 _ eq7) vk_X5_stocked ml_X7_303 rfl rfl ⟨(Nat.le_of_ble_eq_true rfl), (Nat.le_of_ble_eq_true rfl)⟩ (va_recv (q := (RX5, TX5, 10)) hk.1 hP (q0 := 1) (ci := 4) rfl rfl) rfl hl.1 rfl (Nat.le_of_ble_eq_true rfl) dX7_film_32) (fun H locs hP hS => ?_)
          refine va_mmin hx hb (hml.trans hl.1.symm) hown (hts _ ml_X7_165) (hts _ mS_min) (hts _ mI_math) (hts _ mC_min) (Nat.le_of_ble_eq_true rfl) (Nat.le_of_ble_eq_true rfl) (Nat.zero_le _) (Nat.zero_le _) dX7_film_35 ?_
          obtain ⟨x8, ex8, hf⟩ := lt_e hf
          refine lv_nm ex8 ?_
          refine lv_istore (lv' := [(4, .int x8), (0, .ref (zA v 0)), (1, .int a1), (2, .int a2), (3, .int a3)]) hx hb dX7_film_38 hl (by decide) rfl (fun ls hl => ?_)
          refine lv_aload_n hx hb dX7_film_40 rfl (lv_at hl 1 rfl) ?_
          refine va_get (D := zD v) (ci := 6) (v := .ref (zA v 5)) (C := RX7) (T := TX7) (N := 11) hx hb hts iX7 hown hk.1 hP 0 rfl rfl 5 (by decide) (hts _ fl_X7_36) (fun _ h9 => h9) rfl dX7_film_41 ?_
          refine lv_iload_n hx hb dX7_film_44 rfl (lv_at hl 2 rfl) ?_
          refine lv_iconst (v := 0) hx hb dX7_film_45 kI_0 ?_
          refine lv_iconst (v := 2) hx hb dX7_film_46 kI_2 ?_
          refine lv_iload hx hb dX7_film_47 (lv_at hl 0 rfl) ?_
          refine lv_imul hx hb dX7_film_49 ?_
          obtain ⟨q9, eq9, hf⟩ := bd_e hf
          refine zkv hS (zrV (As := [.int a1, .int (0 : Int32), .int ((2 : Int32) * x8)]) (rest := []) okX hx hb hml hown hts hk hP hS (t_X3_become l v N a1 (0 : Int32) ((2 : Int32) * x8) q7.2 _ eq9) vk_X3_become ml_X7_306 rfl rfl ⟨(Nat.le_of_ble_eq_true rfl), (Nat.le_of_ble_eq_true rfl)⟩ (va_recv (q := (RX3, TX3, 3)) hk.1 hP (q0 := 5) (ci := 2) rfl rfl) rfl hl.1 rfl (Nat.le_of_ble_eq_true rfl) dX7_film_50) (fun H locs hP hS => ?_)
          refine lv_iconst (v := 0) hx hb dX7_film_53 kI_0 ?_
          refine lv_istore (lv' := [(5, .int (0 : Int32)), (4, .int x8), (0, .ref (zA v 0)), (1, .int a1), (2, .int a2), (3, .int a3)]) hx hb dX7_film_54 hl (by decide) rfl (fun ls hl => ?_)
          refine lv_iconst (v := 0) hx hb dX7_film_56 kI_0 ?_
          refine lv_istore (lv' := [(6, .int (0 : Int32)), (5, .int (0 : Int32)), (4, .int x8), (0, .ref (zA v 0)), (1, .int a1), (2, .int a2), (3, .int a3)]) hx hb dX7_film_57 hl (by decide) rfl (fun ls hl => ?_)
          exact wL59 N (a1, a2, x8, (0 : Int32), (0 : Int32), q9) hf _ _ _ hP hS (lv_sub hl [3, 4, 5, 2, 1, 0] rfl)
        · have hf := ite_f c6 hf
          refine lv_bipush (v := -2) hx hb dX7_film_24 kB_m2 ?_
          exact hret _ _ _ _ _ _ (Or.inl rfl) (Option.some.inj hf) hP hS dX7_film_26
abbrev rm_X7_draw : Room := { frames := 1, cells := 0, slots := 0, locals := 60 }
set_option maxRecDepth 100000 in
theorem t_X7_draw (l : Launch) (v : Ev) (N : Nat) (a1 : Int32) (a2 : Int32) (g : Sg) (res : Int32 × Sg) (hf : x_X7_draw N a1 a2 g = some res) : Ci l yX7_draw cX7_draw 6 .int rm_X7_draw pX v [.ref (zA v 0), .int a1, .int a2] g res := by
  refine ze_i (by decide +kernel) (Nat.le_of_ble_eq_true rfl) ?_
  intro p e s m args below meth c Q ls hcx hret hP hl
  obtain ⟨hx, hb, hml, hown, hts, hk⟩ := hcx
  have hown : s.vm.findClass RX7 = some m.cls := hown
  have hS : va_S (An nX v) s.heap s.heap [] := va_S.rf
  have hl : lv_has ls 6 [(0, .ref (zA v 0)), (1, .int a1), (2, .int a2)] := hl
  have wb51 : ∀ (h8 : Int32 × Int32 × Int32 × Int32 × Sg → Option (Int32 × Sg)) (hh8 : ∀ x : Int32 × Int32 × Int32 × Int32 × Sg, h8 x = some res → ∀ (H : Heap) (locs : List Loc) (ls : Array Slot), va_P (zD v) vwCl (pX.1 v x.2.2.2.2) H → va_S (An nX v) s.heap H locs → lv_has ls 6 [(0, .ref (zA v 0)), (2, .int x.1), (3, .int x.2.1), (4, .int x.2.2.1), (5, .int x.2.2.2.1)] → W p l e rm_X7_draw s m args below meth c H locs 0 0 Q (F0 m 8 ls [])) (y2 : Int32) (y4 : Int32) (y5 : Int32) (t0 : Int32) (t1 : Int32) (t2 : Int32) (g : Sg) (hf : x_X7_draw_b51 N h8 y2 y4 y5 t0 t1 t2 g = some res) (H : Heap) (locs : List Loc) (ls : Array Slot) (hP : va_P (zD v) vwCl (pX.1 v g) H) (hS : va_S (An nX v) s.heap H locs) (hl : lv_has ls 6 [(0, .ref (zA v 0)), (2, .int y2), (4, .int y4), (5, .int y5)]), W p l e rm_X7_draw s m args below meth c H locs 0 0 Q (F0 m 51 ls [.int t0, .int t1, .int t2]) := by
    intro h8 hh8 y2 y4 y5 t0 t1 t2 g hf H locs ls hP hS hl
    unfold x_X7_draw_b51 at hf
    refine lv_imul hx hb dX7_draw_51 ?_
    refine lv_iadd hx hb dX7_draw_52 ?_
    obtain ⟨x4, ex4, hf⟩ := lt_e hf
    refine lv_nm ex4 ?_
    refine lv_istore_n (lv' := [(3, .int x4), (0, .ref (zA v 0)), (2, .int y2), (4, .int y4), (5, .int y5)]) hx hb dX7_draw_53 rfl hl (by decide) rfl (fun ls hl => ?_)
    obtain ⟨x5, ex5, hf⟩ := lt_e hf
    refine lv_iinc (v := x5) (lv' := [(5, .int x5), (3, .int x4), (0, .ref (zA v 0)), (2, .int y2), (4, .int y4)]) hx hb dX7_draw_54 hl (k := 4) rfl ((congrArg (fun z => y5 + z) kI_1).trans ex5.symm) (by decide) rfl (fun ls hl => ?_)
    refine lv_goto (tgt := 8) hx hb dX7_draw_57 (by decide) ?_
    exact hh8 (y2, x4, y4, x5, g) hf _ _ _ hP hS (lv_sub hl [2, 3, 1, 4, 0] rfl)
  have wL8 : ∀ (n : Nat) (x : Int32 × Int32 × Int32 × Int32 × Sg), lp (x_X7_draw_B8 N) n x = some res → ∀ (H : Heap) (locs : List Loc) (ls : Array Slot), va_P (zD v) vwCl (pX.1 v x.2.2.2.2) H → va_S (An nX v) s.heap H locs → lv_has ls 6 [(0, .ref (zA v 0)), (2, .int x.1), (3, .int x.2.1), (4, .int x.2.2.1), (5, .int x.2.2.2.1)] → W p l e rm_X7_draw s m args below meth c H locs 0 0 Q (F0 m 8 ls []) := by
    refine lp_w (P := fun x : Int32 × Int32 × Int32 × Int32 × Sg => ∀ (H : Heap) (locs : List Loc) (ls : Array Slot), va_P (zD v) vwCl (pX.1 v x.2.2.2.2) H → va_S (An nX v) s.heap H locs → lv_has ls 6 [(0, .ref (zA v 0)), (2, .int x.1), (3, .int x.2.1), (4, .int x.2.2.1), (5, .int x.2.2.2.1)] → W p l e rm_X7_draw s m args below meth c H locs 0 0 Q (F0 m 8 ls [])) ?_
    intro h8 hh8 x hf H locs ls hP hS hl
    unfold x_X7_draw_B8 at hf
    refine lv_iload hx hb dX7_draw_8 (lv_at hl 4 rfl) ?_
    refine lv_bipush (v := 100) hx hb dX7_draw_10 kB_100 ?_
    refine lv_icmp_ge (tgt := 60) hx hb dX7_draw_12 (by decide) (fun c1 => ?_) (fun c1 => ?_)
    · have hf := ite_t c1 hf
      refine lv_iload_n hx hb dX7_draw_60 rfl (lv_at hl 2 rfl) ?_
      exact hret _ _ _ _ _ _ (Or.inl rfl) (Option.some.inj hf) hP hS dX7_draw_61
    · have hf := ite_f c1 hf
      refine lv_iload hx hb dX7_draw_15 (lv_at hl 3 rfl) ?_
      refine lv_ldcw (v := 1103515245) hx hb hown (hts _ kc_X7_322) dX7_draw_17 ?_
      refine lv_imul hx hb dX7_draw_20 ?_
      refine lv_sipush (v := 12345) hx hb dX7_draw_21 kS_12345 ?_
      refine lv_iadd hx hb dX7_draw_24 ?_
      obtain ⟨x2, ex2, hf⟩ := lt_e hf
      refine lv_nm ex2 ?_
      refine lv_istore (lv' := [(4, .int x2), (0, .ref (zA v 0)), (2, .int x.1), (3, .int x.2.1), (5, .int x.2.2.2.1)]) hx hb dX7_draw_25 hl (by decide) rfl (fun ls hl => ?_)
      refine lv_iload_n hx hb dX7_draw_27 rfl (lv_at hl 3 rfl) ?_
      refine lv_iload hx hb dX7_draw_28 (lv_at hl 0 rfl) ?_
      refine lv_bipush (v := 9) hx hb dX7_draw_30 kB_9 ?_
      refine lv_iushr hx hb dX7_draw_32 rfl ?_
      refine lv_bipush (v := 10) hx hb dX7_draw_33 kB_10 ?_
      refine lv_irem hx hb dX7_draw_35 kz_10 ?_
      refine lv_nm (z := (rmI (((x2).toUInt32 >>> (((9 : Int32)).toUInt32 &&& Int32.toUInt32 31)).toInt32) (10 : Int32))) rfl ?_
      refine lv_iload_n hx hb dX7_draw_36 rfl (lv_at hl 2 rfl) ?_
      refine lv_if_eq (tgt := 50) hx hb dX7_draw_37 (by decide) (fun c3 => ?_) (fun c3 => ?_)
      · have hf := ite_t c3 hf
        refine lv_iconst (v := 1) hx hb dX7_draw_50 kI_1 ?_
        exact wb51 h8 hh8 x.1 x2 x.2.2.2.1 (1 : Int32) (rmI (((x2).toUInt32 >>> (((9 : Int32)).toUInt32 &&& Int32.toUInt32 31)).toInt32) (10 : Int32)) x.2.1 x.2.2.2.2 hf _ _ _ hP hS (lv_sub hl [1, 2, 0, 4] rfl)
      · have hf := ite_f c3 hf
        refine lv_aload_n hx hb dX7_draw_40 rfl (lv_at hl 1 rfl) ?_
        refine va_get (D := zD v) (ci := 6) (v := .ref (zA v 10)) (C := RX7) (T := TX7) (N := 11) hx hb hts iX7 hown hk.1 hP 0 rfl rfl 7 (by decide) (hts _ fl_X7_47) (fun _ h9 => h9) rfl dX7_draw_41 ?_
        refine lv_iload hx hb dX7_draw_44 (lv_at hl 4 rfl) ?_
        obtain ⟨c6, hf⟩ := gd_e hf
        refine va_iald hx hb hk.1 hP 10 0 rfl rfl (inb_in c6) dX7_draw_46 ?_
        refine lv_goto (tgt := 51) hx hb dX7_draw_47 (by decide) ?_
        exact wb51 h8 hh8 x.1 x2 x.2.2.2.1 (x.2.2.2.2 10 (x.2.2.2.1).toNatClampNeg) (rmI (((x2).toUInt32 >>> (((9 : Int32)).toUInt32 &&& Int32.toUInt32 31)).toInt32) (10 : Int32)) x.2.1 x.2.2.2.2 hf _ _ _ hP hS (lv_sub hl [1, 2, 0, 4] rfl)
  unfold x_X7_draw at hf
  refine lv_iconst (v := 0) hx hb dX7_draw_0 kI_0 ?_
  refine lv_istore_n (lv' := [(3, .int (0 : Int32)), (0, .ref (zA v 0)), (1, .int a1), (2, .int a2)]) hx hb dX7_draw_1 rfl hl (by decide) rfl (fun ls hl => ?_)
  refine lv_iload_n hx hb dX7_draw_2 rfl (lv_at hl 2 rfl) ?_
  refine lv_istore (lv' := [(4, .int a1), (3, .int (0 : Int32)), (0, .ref (zA v 0)), (1, .int a1), (2, .int a2)]) hx hb dX7_draw_3 hl (by decide) rfl (fun ls hl => ?_)
  refine lv_iconst (v := 0) hx hb dX7_draw_5 kI_0 ?_
  refine lv_istore (lv' := [(5, .int (0 : Int32)), (4, .int a1), (3, .int (0 : Int32)), (0, .ref (zA v 0)), (1, .int a1), (2, .int a2)]) hx hb dX7_draw_6 hl (by decide) rfl (fun ls hl => ?_)
  exact wL8 N (a2, (0 : Int32), a1, (0 : Int32), g) hf _ _ _ hP hS (lv_sub hl [3, 5, 2, 1, 0] rfl)
abbrev rm_X7_drawn : Room := { frames := 7, cells := 0, slots := 0, locals := 195 }
set_option maxRecDepth 100000 in
theorem t_X7_drawn (l : Launch) (v : Ev) (N : Nat) (a1 : Int32) (g : Sg) (res : Int32 × Sg) (hf : x_X7_drawn N a1 g = some res) : Ci l yX7_drawn cX7_drawn 2 .int rm_X7_drawn pX v [.ref (zA v 0), .int a1] g res := by
  refine ze_i (by decide +kernel) (Nat.le_of_ble_eq_true rfl) ?_
  intro p e s m args below meth c Q ls hcx hret hP hl
  obtain ⟨hx, hb, hml, hown, hts, hk⟩ := hcx
  have hown : s.vm.findClass RX7 = some m.cls := hown
  have hS : va_S (An nX v) s.heap s.heap [] := va_S.rf
  have hl : lv_has ls 2 [(0, .ref (zA v 0)), (1, .int a1)] := hl
  unfold x_X7_drawn at hf
  refine lv_aload_n hx hb dX7_drawn_0 rfl (lv_at hl 0 rfl) ?_
  refine lv_iconst (v := 0) hx hb dX7_drawn_1 kI_0 ?_
  refine lv_aload_n hx hb dX7_drawn_2 rfl (lv_at hl 0 rfl) ?_
  refine va_get (D := zD v) (ci := 6) (v := .ref (zA v 1)) (C := RX7) (T := TX7) (N := 11) hx hb hts iX7 hown hk.1 hP 0 rfl rfl 0 (by decide) (hts _ fl_X7_10) (fun _ h9 => h9) rfl dX7_drawn_3 ?_
  obtain ⟨q1, eq1, hf⟩ := bd_e hf
  refine zki hS (zrV (As := []) (rest := [.int (0 : Int32), .ref (zA v 0)]) okX hx hb hml hown hts hk hP hS (t_X5_shoes l v N g _ eq1) vk_X5_shoes ml_X7_226 rfl rfl ⟨(Nat.le_of_ble_eq_true rfl), (Nat.le_of_ble_eq_true rfl)⟩ (va_recv (q := (RX5, TX5, 10)) hk.1 hP (q0 := 1) (ci := 4) rfl rfl) rfl hl.1 rfl (Nat.le_of_ble_eq_true rfl) dX7_drawn_6) (fun H locs hP hS => ?_)
  obtain ⟨q2, eq2, hf⟩ := bd_e hf
  refine zkv hS (zrV (As := [.int (0 : Int32), .int q1.1]) (rest := []) okX hx hb hml hown hts hk hP hS (t_X7_markFitted l v N (0 : Int32) q1.1 q1.2 _ eq2) vk_X7_markFitted ml_X7_267 rfl rfl ⟨(Nat.le_of_ble_eq_true rfl), (Nat.le_of_ble_eq_true rfl)⟩ (va_recv (q := (RX7, TX7, 11)) hk.1 hP (q0 := 0) (ci := 6) rfl rfl) rfl hl.1 rfl (Nat.le_of_ble_eq_true rfl) dX7_drawn_9) (fun H locs hP hS => ?_)
  refine lv_aload_n hx hb dX7_drawn_12 rfl (lv_at hl 0 rfl) ?_
  refine lv_iload_n hx hb dX7_drawn_13 rfl (lv_at hl 1 rfl) ?_
  refine lv_iconst (v := 1) hx hb dX7_drawn_14 kI_1 ?_
  obtain ⟨q3, eq3, hf⟩ := bd_e hf
  refine zki hS (zrV (As := [.int a1, .int (1 : Int32)]) (rest := []) okX hx hb hml hown hts hk hP hS (t_X7_draw l v N a1 (1 : Int32) q2 _ eq3) vk_X7_draw ml_X7_313 rfl rfl ⟨(Nat.le_of_ble_eq_true rfl), (Nat.le_of_ble_eq_true rfl)⟩ (va_recv (q := (RX7, TX7, 11)) hk.1 hP (q0 := 0) (ci := 6) rfl rfl) rfl hl.1 rfl (Nat.le_of_ble_eq_true rfl) dX7_drawn_15) (fun H locs hP hS => ?_)
  exact hret _ _ _ _ _ _ (Or.inl rfl) (Option.some.inj hf) hP hS dX7_drawn_18
abbrev rm_X7_commonDivisor : Room := { frames := 1, cells := 0, slots := 0, locals := 60 }
set_option maxRecDepth 100000 in
theorem t_X7_commonDivisor (l : Launch) (v : Ev) (N : Nat) (a0 : Int32) (a1 : Int32) (g : Sg) (res : Int32 × Sg) (hf : x_X7_commonDivisor N a0 a1 g = some res) : Ci l yX7_commonDivisor cX7_commonDivisor 3 .int rm_X7_commonDivisor pX v [.int a0, .int a1] g res := by
  refine ze_i (by decide +kernel) (Nat.le_of_ble_eq_true rfl) ?_
  intro p e s m args below meth c Q ls hcx hret hP hl
  obtain ⟨hx, hb, hml, hown, hts, hk⟩ := hcx
  have hown : s.vm.findClass RX7 = some m.cls := hown
  have hS : va_S (An nX v) s.heap s.heap [] := va_S.rf
  have hl : lv_has ls 3 [(0, .int a0), (1, .int a1)] := hl
  have wb21 : ∀ (h2 : Int32 × Int32 × Int32 × Sg → Option (Int32 × Sg)) (hh2 : ∀ x : Int32 × Int32 × Int32 × Sg, h2 x = some res → ∀ (H : Heap) (locs : List Loc) (ls : Array Slot), va_P (zD v) vwCl (pX.1 v x.2.2.2) H → va_S (An nX v) s.heap H locs → lv_has ls 3 [(0, .int x.1), (1, .int x.2.1), (2, .int x.2.2.1)] → W p l e rm_X7_commonDivisor s m args below meth c H locs 0 0 Q (F0 m 2 ls [])) (y0 : Int32) (y1 : Int32) (y2 : Int32) (g : Sg) (hf : x_X7_commonDivisor_b21 N h2 y0 y1 y2 g = some res) (H : Heap) (locs : List Loc) (ls : Array Slot) (hP : va_P (zD v) vwCl (pX.1 v g) H) (hS : va_S (An nX v) s.heap H locs) (hl : lv_has ls 3 [(0, .int y0), (1, .int y1), (2, .int y2)]), W p l e rm_X7_commonDivisor s m args below meth c H locs 0 0 Q (F0 m 21 ls []) := by
    intro h2 hh2 y0 y1 y2 g hf H locs ls hP hS hl
    unfold x_X7_commonDivisor_b21 at hf
    obtain ⟨x4, ex4, hf⟩ := lt_e hf
    refine lv_iinc (v := x4) (lv' := [(2, .int x4), (0, .int y0), (1, .int y1)]) hx hb dX7_commonDivisor_21 hl (k := 2) rfl ((congrArg (fun z => y2 + z) kI_m1).trans ex4.symm) (by decide) rfl (fun ls hl => ?_)
    refine lv_goto (tgt := 2) hx hb dX7_commonDivisor_24 (by decide) ?_
    exact hh2 (y0, y1, x4, g) hf _ _ _ hP hS (lv_sub hl [1, 2, 0] rfl)
  have wL2 : ∀ (n : Nat) (x : Int32 × Int32 × Int32 × Sg), lp (x_X7_commonDivisor_B2 N) n x = some res → ∀ (H : Heap) (locs : List Loc) (ls : Array Slot), va_P (zD v) vwCl (pX.1 v x.2.2.2) H → va_S (An nX v) s.heap H locs → lv_has ls 3 [(0, .int x.1), (1, .int x.2.1), (2, .int x.2.2.1)] → W p l e rm_X7_commonDivisor s m args below meth c H locs 0 0 Q (F0 m 2 ls []) := by
    refine lp_w (P := fun x : Int32 × Int32 × Int32 × Sg => ∀ (H : Heap) (locs : List Loc) (ls : Array Slot), va_P (zD v) vwCl (pX.1 v x.2.2.2) H → va_S (An nX v) s.heap H locs → lv_has ls 3 [(0, .int x.1), (1, .int x.2.1), (2, .int x.2.2.1)] → W p l e rm_X7_commonDivisor s m args below meth c H locs 0 0 Q (F0 m 2 ls [])) ?_
    intro h2 hh2 x hf H locs ls hP hS hl
    unfold x_X7_commonDivisor_B2 at hf
    refine lv_iload_n hx hb dX7_commonDivisor_2 rfl (lv_at hl 2 rfl) ?_
    refine lv_iconst (v := 1) hx hb dX7_commonDivisor_3 kI_1 ?_
    refine lv_icmp_le (tgt := 27) hx hb dX7_commonDivisor_4 (by decide) (fun c1 => ?_) (fun c1 => ?_)
    · have hf := ite_t c1 hf
      refine lv_iconst (v := 1) hx hb dX7_commonDivisor_27 kI_1 ?_
      exact hret _ _ _ _ _ _ (Or.inl rfl) (Option.some.inj hf) hP hS dX7_commonDivisor_28
    · have hf := ite_f c1 hf
      refine lv_iload_n hx hb dX7_commonDivisor_7 rfl (lv_at hl 0 rfl) ?_
      refine lv_iload_n hx hb dX7_commonDivisor_8 rfl (lv_at hl 2 rfl) ?_
      obtain ⟨c2, hf⟩ := gd_n hf
      refine lv_irem hx hb dX7_commonDivisor_9 c2 ?_
      refine lv_nm (z := (rmI x.1 x.2.2.1)) rfl ?_
      refine lv_if_ne (tgt := 21) hx hb dX7_commonDivisor_10 (by decide) (fun c3 => ?_) (fun c3 => ?_)
      · have hf := ite_f c3 hf
        exact wb21 h2 hh2 x.1 x.2.1 x.2.2.1 x.2.2.2 hf _ _ _ hP hS (lv_sub hl [0, 1, 2] rfl)
      · have hf := ite_t c3 hf
        refine lv_iload_n hx hb dX7_commonDivisor_13 rfl (lv_at hl 1 rfl) ?_
        refine lv_iload_n hx hb dX7_commonDivisor_14 rfl (lv_at hl 2 rfl) ?_
        obtain ⟨c5, hf⟩ := gd_n hf
        refine lv_irem hx hb dX7_commonDivisor_15 c5 ?_
        refine lv_nm (z := (rmI x.2.1 x.2.2.1)) rfl ?_
        refine lv_if_ne (tgt := 21) hx hb dX7_commonDivisor_16 (by decide) (fun c6 => ?_) (fun c6 => ?_)
        · have hf := ite_f c6 hf
          exact wb21 h2 hh2 x.1 x.2.1 x.2.2.1 x.2.2.2 hf _ _ _ hP hS (lv_sub hl [0, 1, 2] rfl)
        · have hf := ite_t c6 hf
          refine lv_iload_n hx hb dX7_commonDivisor_19 rfl (lv_at hl 2 rfl) ?_
          exact hret _ _ _ _ _ _ (Or.inl rfl) (Option.some.inj hf) hP hS dX7_commonDivisor_20
  unfold x_X7_commonDivisor at hf
  refine lv_iload_n hx hb dX7_commonDivisor_0 rfl (lv_at hl 1 rfl) ?_
  refine lv_istore_n (lv' := [(2, .int a1), (0, .int a0), (1, .int a1)]) hx hb dX7_commonDivisor_1 rfl hl (by decide) rfl (fun ls hl => ?_)
  exact wL2 N (a0, a1, a1, g) hf _ _ _ hP hS (lv_sub hl [1, 2, 0] rfl)
abbrev rm_X7_chance : Room := { frames := 7, cells := 0, slots := 0, locals := 195 }
set_option maxRecDepth 100000 in
theorem t_X7_chance (l : Launch) (v : Ev) (N : Nat) (a1 : Int32) (a2 : Int32) (a3 : Int32) (g : Sg) (res : Int64 × Sg) (hf : x_X7_chance N a1 a2 a3 g = some res) : Cl l yX7_chance cX7_chance 6 rm_X7_chance pX v [.ref (zA v 0), .int a1, .int a2, .int a3] g res := by
  refine ze_l (by decide +kernel) (Nat.le_of_ble_eq_true rfl) ?_
  intro p e s m args below meth c Q ls hcx hret hP hl
  obtain ⟨hx, hb, hml, hown, hts, hk⟩ := hcx
  have hown : s.vm.findClass RX7 = some m.cls := hown
  have hS : va_S (An nX v) s.heap s.heap [] := va_S.rf
  have hl : lv_has ls 6 [(0, .ref (zA v 0)), (1, .int a1), (2, .int a2), (3, .int a3)] := hl
  have wb78 : ∀ (h42 : Int32 × Int32 × Int32 × Int32 × Int32 × Sg → Option (Int64 × Sg)) (hh42 : ∀ x : Int32 × Int32 × Int32 × Int32 × Int32 × Sg, h42 x = some res → ∀ (H : Heap) (locs : List Loc) (ls : Array Slot), va_P (zD v) vwCl (pX.1 v x.2.2.2.2.2) H → va_S (An nX v) s.heap H locs → lv_has ls 6 [(0, .ref (zA v 0)), (1, .int x.1), (2, .int x.2.1), (3, .int x.2.2.1), (4, .int x.2.2.2.1), (5, .int x.2.2.2.2.1)] → W p l e rm_X7_chance s m args below meth c H locs 0 0 Q (F0 m 42 ls [])) (y1 : Int32) (y2 : Int32) (y3 : Int32) (y5 : Int32) (t0 : Int32) (t1 : Int32) (g : Sg) (hf : x_X7_chance_b78 N h42 y1 y2 y3 y5 t0 t1 g = some res) (H : Heap) (locs : List Loc) (ls : Array Slot) (hP : va_P (zD v) vwCl (pX.1 v g) H) (hS : va_S (An nX v) s.heap H locs) (hl : lv_has ls 6 [(0, .ref (zA v 0)), (1, .int y1), (2, .int y2), (3, .int y3), (5, .int y5)]), W p l e rm_X7_chance s m args below meth c H locs 0 0 Q (F0 m 78 ls [.int t0, .int t1]) := by
    intro h42 hh42 y1 y2 y3 y5 t0 t1 g hf H locs ls hP hS hl
    unfold x_X7_chance_b78 at hf
    refine lv_iadd hx hb dX7_chance_78 ?_
    obtain ⟨x15, ex15, hf⟩ := lt_e hf
    refine lv_nm ex15 ?_
    refine lv_istore (lv' := [(4, .int x15), (0, .ref (zA v 0)), (1, .int y1), (2, .int y2), (3, .int y3), (5, .int y5)]) hx hb dX7_chance_79 hl (by decide) rfl (fun ls hl => ?_)
    obtain ⟨x16, ex16, hf⟩ := lt_e hf
    refine lv_iinc (v := x16) (lv' := [(5, .int x16), (4, .int x15), (0, .ref (zA v 0)), (1, .int y1), (2, .int y2), (3, .int y3)]) hx hb dX7_chance_81 hl (k := 5) rfl ((congrArg (fun z => y5 + z) kI_1).trans ex16.symm) (by decide) rfl (fun ls hl => ?_)
    refine lv_goto (tgt := 42) hx hb dX7_chance_84 (by decide) ?_
    exact hh42 (y1, y2, y3, x15, x16, g) hf _ _ _ hP hS (lv_sub hl [2, 3, 4, 5, 1, 0] rfl)
  have wL42 : ∀ (n : Nat) (x : Int32 × Int32 × Int32 × Int32 × Int32 × Sg), lp (x_X7_chance_B42 N) n x = some res → ∀ (H : Heap) (locs : List Loc) (ls : Array Slot), va_P (zD v) vwCl (pX.1 v x.2.2.2.2.2) H → va_S (An nX v) s.heap H locs → lv_has ls 6 [(0, .ref (zA v 0)), (1, .int x.1), (2, .int x.2.1), (3, .int x.2.2.1), (4, .int x.2.2.2.1), (5, .int x.2.2.2.2.1)] → W p l e rm_X7_chance s m args below meth c H locs 0 0 Q (F0 m 42 ls []) := by
    refine lp_w (P := fun x : Int32 × Int32 × Int32 × Int32 × Int32 × Sg => ∀ (H : Heap) (locs : List Loc) (ls : Array Slot), va_P (zD v) vwCl (pX.1 v x.2.2.2.2.2) H → va_S (An nX v) s.heap H locs → lv_has ls 6 [(0, .ref (zA v 0)), (1, .int x.1), (2, .int x.2.1), (3, .int x.2.2.1), (4, .int x.2.2.2.1), (5, .int x.2.2.2.2.1)] → W p l e rm_X7_chance s m args below meth c H locs 0 0 Q (F0 m 42 ls [])) ?_
    intro h42 hh42 x hf H locs ls hP hS hl
    unfold x_X7_chance_B42 at hf
    refine lv_iload hx hb dX7_chance_42 (lv_at hl 5 rfl) ?_
    refine lv_iload_n hx hb dX7_chance_44 rfl (lv_at hl 2 rfl) ?_
    refine lv_icmp_ge (tgt := 87) hx hb dX7_chance_45 (by decide) (fun c7 => ?_) (fun c7 => ?_)
    · have hf := ite_t c7 hf
      refine lv_iload hx hb dX7_chance_87 (lv_at hl 4 rfl) ?_
      refine lv_iload_n hx hb dX7_chance_89 rfl (lv_at hl 2 rfl) ?_
      obtain ⟨q8, eq8, hf⟩ := bd_e hf
      refine zki hS (zrS (As := [.int x.2.2.2.1, .int x.2.1]) (rest := []) okX hx hb hml hown hts hk hP hS (t_X7_commonDivisor l v N x.2.2.2.1 x.2.1 x.2.2.2.2.2 _ eq8) sk_X7_commonDivisor ml_X7_319 rfl rfl ⟨(Nat.le_of_ble_eq_true rfl), (Nat.le_of_ble_eq_true rfl)⟩ rfl hl.1 rfl (Nat.le_of_ble_eq_true rfl) dX7_chance_90) (fun H locs hP hS => ?_)
      refine lv_istore (lv' := [(5, .int q8.1), (0, .ref (zA v 0)), (1, .int x.1), (2, .int x.2.1), (3, .int x.2.2.1), (4, .int x.2.2.2.1)]) hx hb dX7_chance_93 hl (by decide) rfl (fun ls hl => ?_)
      refine lv_iload_n hx hb dX7_chance_95 rfl (lv_at hl 4 rfl) ?_
      refine lv_if_ne (tgt := 108) hx hb dX7_chance_96 (by decide) (fun c9 => ?_) (fun c9 => ?_)
      · have hf := ite_f c9 hf
        refine lv_iload_n hx hb dX7_chance_108 rfl (lv_at hl 3 rfl) ?_
        refine lv_iload hx hb dX7_chance_109 (lv_at hl 0 rfl) ?_
        obtain ⟨c10, hf⟩ := gd_n hf
        refine lv_idiv hx hb dX7_chance_111 c10 ?_
        refine lv_i2l hx hb dX7_chance_112 rfl ?_
        exact hret _ _ _ _ _ _ (Option.some.inj hf) hP hS dX7_chance_113
      · have hf := ite_t c9 hf
        refine lv_iload hx hb dX7_chance_99 (lv_at hl 5 rfl) ?_
        refine lv_iload hx hb dX7_chance_101 (lv_at hl 0 rfl) ?_
        obtain ⟨c11, hf⟩ := gd_n hf
        refine lv_idiv hx hb dX7_chance_103 c11 ?_
        refine lv_i2l hx hb dX7_chance_104 rfl ?_
        refine lv_goto (tgt := 113) hx hb dX7_chance_105 (by decide) ?_
        exact hret _ _ _ _ _ _ (Option.some.inj hf) hP hS dX7_chance_113
    · have hf := ite_f c7 hf
      refine lv_iload hx hb dX7_chance_48 (lv_at hl 4 rfl) ?_
      refine lv_iconst (v := 2) hx hb dX7_chance_50 kI_2 ?_
      refine lv_aload_n hx hb dX7_chance_51 rfl (lv_at hl 0 rfl) ?_
      refine lv_iload_n hx hb dX7_chance_52 rfl (lv_at hl 1 rfl) ?_
      refine lv_iload hx hb dX7_chance_53 (lv_at hl 5 rfl) ?_
      refine lv_iadd hx hb dX7_chance_55 ?_
      refine lv_iconst (v := 1) hx hb dX7_chance_56 kI_1 ?_
      obtain ⟨q12, eq12, hf⟩ := bd_e hf
      refine zki hS (zrV (As := [.int (x.1 + x.2.2.2.2.1), .int (1 : Int32)]) (rest := [.int (2 : Int32), .int x.2.2.2.1]) okX hx hb hml hown hts hk hP hS (t_X7_draw l v N (x.1 + x.2.2.2.2.1) (1 : Int32) x.2.2.2.2.2 _ eq12) vk_X7_draw ml_X7_313 rfl rfl ⟨(Nat.le_of_ble_eq_true rfl), (Nat.le_of_ble_eq_true rfl)⟩ (va_recv (q := (RX7, TX7, 11)) hk.1 hP (q0 := 0) (ci := 6) rfl rfl) rfl hl.1 rfl (Nat.le_of_ble_eq_true rfl) dX7_chance_57) (fun H locs hP hS => ?_)
      refine lv_imul hx hb dX7_chance_60 ?_
      refine lv_aload_n hx hb dX7_chance_61 rfl (lv_at hl 0 rfl) ?_
      refine lv_iload_n hx hb dX7_chance_62 rfl (lv_at hl 1 rfl) ?_
      refine lv_iload hx hb dX7_chance_63 (lv_at hl 5 rfl) ?_
      refine lv_iadd hx hb dX7_chance_65 ?_
      refine lv_iconst (v := 0) hx hb dX7_chance_66 kI_0 ?_
      obtain ⟨q13, eq13, hf⟩ := bd_e hf
      refine zki hS (zrV (As := [.int (x.1 + x.2.2.2.2.1), .int (0 : Int32)]) (rest := [.int ((2 : Int32) * q12.1), .int x.2.2.2.1]) okX hx hb hml hown hts hk hP hS (t_X7_draw l v N (x.1 + x.2.2.2.2.1) (0 : Int32) q12.2 _ eq13) vk_X7_draw ml_X7_313 rfl rfl ⟨(Nat.le_of_ble_eq_true rfl), (Nat.le_of_ble_eq_true rfl)⟩ (va_recv (q := (RX7, TX7, 11)) hk.1 hP (q0 := 0) (ci := 6) rfl rfl) rfl hl.1 rfl (Nat.le_of_ble_eq_true rfl) dX7_chance_67) (fun H locs hP hS => ?_)
      refine lv_icmp_lt (tgt := 77) hx hb dX7_chance_70 (by decide) (fun c14 => ?_) (fun c14 => ?_)
      · have hf := ite_t c14 hf
        refine lv_iconst (v := 0) hx hb dX7_chance_77 kI_0 ?_
        exact wb78 h42 hh42 x.1 x.2.1 x.2.2.1 x.2.2.2.2.1 (0 : Int32) x.2.2.2.1 q13.2 hf _ _ _ hP hS (lv_sub hl [0, 1, 2, 3, 5] rfl)
      · have hf := ite_f c14 hf
        refine lv_iconst (v := 1) hx hb dX7_chance_73 kI_1 ?_
        refine lv_goto (tgt := 78) hx hb dX7_chance_74 (by decide) ?_
        exact wb78 h42 hh42 x.1 x.2.1 x.2.2.1 x.2.2.2.2.1 (1 : Int32) x.2.2.2.1 q13.2 hf _ _ _ hP hS (lv_sub hl [0, 1, 2, 3, 5] rfl)
  unfold x_X7_chance at hf
  refine lv_iload_n hx hb dX7_chance_0 rfl (lv_at hl 2 rfl) ?_
  refine lv_iconst (v := 1) hx hb dX7_chance_1 kI_1 ?_
  refine lv_icmp_lt (tgt := 20) hx hb dX7_chance_2 (by decide) (fun c1 => ?_) (fun c1 => ?_)
  · have hf := ite_t c1 hf
    refine lv_ldc2 (v := -4611686018427387904) hx hb hown (hts _ kc_X7_317) dX7_chance_20 ?_
    exact hret _ _ _ _ _ _ (Option.some.inj hf) hP hS dX7_chance_23
  · have hf := ite_f c1 hf
    refine lv_iload_n hx hb dX7_chance_5 rfl (lv_at hl 2 rfl) ?_
    refine lv_bipush (v := 20) hx hb dX7_chance_6 kB_20 ?_
    refine lv_icmp_gt (tgt := 20) hx hb dX7_chance_8 (by decide) (fun c2 => ?_) (fun c2 => ?_)
    · have hf := ite_t c2 hf
      refine lv_ldc2 (v := -4611686018427387904) hx hb hown (hts _ kc_X7_317) dX7_chance_20 ?_
      exact hret _ _ _ _ _ _ (Option.some.inj hf) hP hS dX7_chance_23
    · have hf := ite_f c2 hf
      refine lv_iload_n hx hb dX7_chance_11 rfl (lv_at hl 3 rfl) ?_
      refine lv_if_lt (tgt := 20) hx hb dX7_chance_12 (by decide) (fun c3 => ?_) (fun c3 => ?_)
      · have hf := ite_t c3 hf
        refine lv_ldc2 (v := -4611686018427387904) hx hb hown (hts _ kc_X7_317) dX7_chance_20 ?_
        exact hret _ _ _ _ _ _ (Option.some.inj hf) hP hS dX7_chance_23
      · have hf := ite_f c3 hf
        refine lv_iload_n hx hb dX7_chance_15 rfl (lv_at hl 3 rfl) ?_
        refine lv_iconst (v := 1) hx hb dX7_chance_16 kI_1 ?_
        refine lv_icmp_le (tgt := 24) hx hb dX7_chance_17 (by decide) (fun c4 => ?_) (fun c4 => ?_)
        · have hf := ite_t c4 hf
          refine lv_aload_n hx hb dX7_chance_24 rfl (lv_at hl 0 rfl) ?_
          refine lv_iconst (v := 0) hx hb dX7_chance_25 kI_0 ?_
          refine lv_aload_n hx hb dX7_chance_26 rfl (lv_at hl 0 rfl) ?_
          refine va_get (D := zD v) (ci := 6) (v := .ref (zA v 1)) (C := RX7) (T := TX7) (N := 11) hx hb hts iX7 hown hk.1 hP 0 rfl rfl 0 (by decide) (hts _ fl_X7_10) (fun _ h9 => h9) rfl dX7_chance_27 ?_
          obtain ⟨q5, eq5, hf⟩ := bd_e hf
          refine zki hS (zrV (As := []) (rest := [.int (0 : Int32), .ref (zA v 0)]) okX hx hb hml hown hts hk hP hS (t_X5_shoes l v N g _ eq5) vk_X5_shoes ml_X7_226 rfl rfl ⟨(Nat.le_of_ble_eq_true rfl), (Nat.le_of_ble_eq_true rfl)⟩ (va_recv (q := (RX5, TX5, 10)) hk.1 hP (q0 := 1) (ci := 4) rfl rfl) rfl hl.1 rfl (Nat.le_of_ble_eq_true rfl) dX7_chance_30) (fun H locs hP hS => ?_)
          obtain ⟨q6, eq6, hf⟩ := bd_e hf
          refine zkv hS (zrV (As := [.int (0 : Int32), .int q5.1]) (rest := []) okX hx hb hml hown hts hk hP hS (t_X7_markFitted l v N (0 : Int32) q5.1 q5.2 _ eq6) vk_X7_markFitted ml_X7_267 rfl rfl ⟨(Nat.le_of_ble_eq_true rfl), (Nat.le_of_ble_eq_true rfl)⟩ (va_recv (q := (RX7, TX7, 11)) hk.1 hP (q0 := 0) (ci := 6) rfl rfl) rfl hl.1 rfl (Nat.le_of_ble_eq_true rfl) dX7_chance_33) (fun H locs hP hS => ?_)
          refine lv_iconst (v := 0) hx hb dX7_chance_36 kI_0 ?_
          refine lv_istore (lv' := [(4, .int (0 : Int32)), (0, .ref (zA v 0)), (1, .int a1), (2, .int a2), (3, .int a3)]) hx hb dX7_chance_37 hl (by decide) rfl (fun ls hl => ?_)
          refine lv_iconst (v := 0) hx hb dX7_chance_39 kI_0 ?_
          refine lv_istore (lv' := [(5, .int (0 : Int32)), (4, .int (0 : Int32)), (0, .ref (zA v 0)), (1, .int a1), (2, .int a2), (3, .int a3)]) hx hb dX7_chance_40 hl (by decide) rfl (fun ls hl => ?_)
          exact wL42 N (a1, a2, a3, (0 : Int32), (0 : Int32), q6) hf _ _ _ hP hS (lv_sub hl [2, 3, 4, 5, 1, 0] rfl)
        · have hf := ite_f c4 hf
          refine lv_ldc2 (v := -4611686018427387904) hx hb hown (hts _ kc_X7_317) dX7_chance_20 ?_
          exact hret _ _ _ _ _ _ (Option.some.inj hf) hP hS dX7_chance_23
abbrev rm_X7_image : Room := { frames := 2, cells := 0, slots := 0, locals := 141 }
set_option maxRecDepth 100000 in
theorem t_X7_image (l : Launch) (v : Ev) (N : Nat) (g : Sg) (res : Int32 × Sg) (hf : x_X7_image N g = some res) : Ci l yX7_image cX7_image 1 .int rm_X7_image pX v [.ref (zA v 0)] g res := by
  refine ze_i (by decide +kernel) (Nat.le_of_ble_eq_true rfl) ?_
  intro p e s m args below meth c Q ls hcx hret hP hl
  obtain ⟨hx, hb, hml, hown, hts, hk⟩ := hcx
  have hown : s.vm.findClass RX7 = some m.cls := hown
  have hS : va_S (An nX v) s.heap s.heap [] := va_S.rf
  have hl : lv_has ls 1 [(0, .ref (zA v 0))] := hl
  unfold x_X7_image at hf
  refine lv_aload_n hx hb dX7_image_0 rfl (lv_at hl 0 rfl) ?_
  refine va_get (D := zD v) (ci := 6) (v := .ref (zA v 2)) (C := RX7) (T := TX7) (N := 11) hx hb hts iX7 hown hk.1 hP 0 rfl rfl 1 (by decide) (hts _ fl_X7_16) (fun _ h9 => h9) rfl dX7_image_1 ?_
  refine lv_aload_n hx hb dX7_image_4 rfl (lv_at hl 0 rfl) ?_
  refine va_get (D := zD v) (ci := 6) (v := .ref (zA v 1)) (C := RX7) (T := TX7) (N := 11) hx hb hts iX7 hown hk.1 hP 0 rfl rfl 0 (by decide) (hts _ fl_X7_10) (fun _ h9 => h9) rfl dX7_image_5 ?_
  obtain ⟨q1, eq1, hf⟩ := bd_e hf
  refine zkv hS (zrV (As := [.ref (zA v 1)]) (rest := []) okX hx hb hml hown hts hk hP hS (t_X5_takeOver_2 l v N g _ eq1) vk_X5_takeOver ml_X7_323 rfl rfl ⟨(Nat.le_of_ble_eq_true rfl), (Nat.le_of_ble_eq_true rfl)⟩ (va_recv (q := (RX5, TX5, 10)) hk.1 hP (q0 := 2) (ci := 4) rfl rfl) rfl hl.1 rfl (Nat.le_of_ble_eq_true rfl) dX7_image_8) (fun H locs hP hS => ?_)
  refine lv_aload_n hx hb dX7_image_11 rfl (lv_at hl 0 rfl) ?_
  refine lv_iconst (v := 1) hx hb dX7_image_12 kI_1 ?_
  refine va_put (D := zD v) (ci := 6) (v := .int (1 : Int32)) (ty := .boolean) (C := RX7) (T := TX7) (N := 11) hx hb hts iX7 tyX7 tyX7_ok nmX7 hown hk.1 hP (zw_D okX hk _) hS 0 rfl rfl 2 (by decide) (hts _ fl_X7_327) (fun _ h9 => h9) rfl pd_Z rfl rfl (Nat.le_of_ble_eq_true rfl) dX7_image_13 (fun H locs hP1 _ hS => ?_)
  have hP : va_P (zD v) vwCl (pX.1 v (up q1 0 (upd (q1 0) 2 (1 : Int32)))) H := hP1
  obtain ⟨g2, eg2, hf⟩ := lt_e hf
  rw [← eg2] at hP
  refine lv_aload_n hx hb dX7_image_16 rfl (lv_at hl 0 rfl) ?_
  refine va_get (D := zD v) (ci := 6) (v := .ref (zA v 1)) (C := RX7) (T := TX7) (N := 11) hx hb hts iX7 hown hk.1 hP 0 rfl rfl 0 (by decide) (hts _ fl_X7_10) (fun _ h9 => h9) rfl dX7_image_17 ?_
  refine va_get (D := zD v) (ci := 4) (v := .int (g2 1 4)) (C := RX5) (T := TX5) (N := 10) hx hb hts iX5 hown hk.1 hP 1 rfl rfl 4 (by decide) (hts _ fl_X7_120) (fun _ h9 => h9) rfl dX7_image_20 ?_
  exact hret _ _ _ _ _ _ (Or.inl rfl) (Option.some.inj hf) hP hS dX7_image_23
abbrev rm_X7_back : Room := { frames := 2, cells := 0, slots := 0, locals := 141 }
set_option maxRecDepth 100000 in
theorem t_X7_back (l : Launch) (v : Ev) (N : Nat) (g : Sg) (res : Int32 × Sg) (hf : x_X7_back N g = some res) : Ci l yX7_back cX7_back 1 .int rm_X7_back pX v [.ref (zA v 0)] g res := by
  refine ze_i (by decide +kernel) (Nat.le_of_ble_eq_true rfl) ?_
  intro p e s m args below meth c Q ls hcx hret hP hl
  obtain ⟨hx, hb, hml, hown, hts, hk⟩ := hcx
  have hown : s.vm.findClass RX7 = some m.cls := hown
  have hS : va_S (An nX v) s.heap s.heap [] := va_S.rf
  have hl : lv_has ls 1 [(0, .ref (zA v 0))] := hl
  unfold x_X7_back at hf
  refine lv_aload_n hx hb dX7_back_0 rfl (lv_at hl 0 rfl) ?_
  refine va_get (D := zD v) (ci := 6) (v := .int (g 0 2)) (C := RX7) (T := TX7) (N := 11) hx hb hts iX7 hown hk.1 hP 0 rfl rfl 2 (by decide) (hts _ fl_X7_327) (fun _ h9 => h9) rfl dX7_back_1 ?_
  refine lv_if_ne (tgt := 10) hx hb dX7_back_4 (by decide) (fun c1 => ?_) (fun c1 => ?_)
  · have hf := ite_f c1 hf
    refine lv_aload_n hx hb dX7_back_10 rfl (lv_at hl 0 rfl) ?_
    refine va_get (D := zD v) (ci := 6) (v := .ref (zA v 1)) (C := RX7) (T := TX7) (N := 11) hx hb hts iX7 hown hk.1 hP 0 rfl rfl 0 (by decide) (hts _ fl_X7_10) (fun _ h9 => h9) rfl dX7_back_11 ?_
    refine lv_aload_n hx hb dX7_back_14 rfl (lv_at hl 0 rfl) ?_
    refine va_get (D := zD v) (ci := 6) (v := .ref (zA v 2)) (C := RX7) (T := TX7) (N := 11) hx hb hts iX7 hown hk.1 hP 0 rfl rfl 1 (by decide) (hts _ fl_X7_16) (fun _ h9 => h9) rfl dX7_back_15 ?_
    obtain ⟨q2, eq2, hf⟩ := bd_e hf
    refine zkv hS (zrV (As := [.ref (zA v 2)]) (rest := []) okX hx hb hml hown hts hk hP hS (t_X5_takeOver_1 l v N g _ eq2) vk_X5_takeOver ml_X7_323 rfl rfl ⟨(Nat.le_of_ble_eq_true rfl), (Nat.le_of_ble_eq_true rfl)⟩ (va_recv (q := (RX5, TX5, 10)) hk.1 hP (q0 := 1) (ci := 4) rfl rfl) rfl hl.1 rfl (Nat.le_of_ble_eq_true rfl) dX7_back_18) (fun H locs hP hS => ?_)
    refine lv_aload_n hx hb dX7_back_21 rfl (lv_at hl 0 rfl) ?_
    refine va_get (D := zD v) (ci := 6) (v := .ref (zA v 1)) (C := RX7) (T := TX7) (N := 11) hx hb hts iX7 hown hk.1 hP 0 rfl rfl 0 (by decide) (hts _ fl_X7_10) (fun _ h9 => h9) rfl dX7_back_22 ?_
    refine va_get (D := zD v) (ci := 4) (v := .int (q2 1 4)) (C := RX5) (T := TX5) (N := 10) hx hb hts iX5 hown hk.1 hP 1 rfl rfl 4 (by decide) (hts _ fl_X7_120) (fun _ h9 => h9) rfl dX7_back_25 ?_
    exact hret _ _ _ _ _ _ (Or.inl rfl) (Option.some.inj hf) hP hS dX7_back_28
  · have hf := ite_t c1 hf
    refine lv_bipush (v := -3) hx hb dX7_back_7 kB_m3 ?_
    exact hret _ _ _ _ _ _ (Or.inl rfl) (Option.some.inj hf) hP hS dX7_back_9
abbrev rm_X7_count : Room := { frames := 3, cells := 0, slots := 0, locals := 102 }
set_option maxRecDepth 100000 in
theorem t_X7_count (l : Launch) (v : Ev) (N : Nat) (a1 : Int32) (g : Sg) (res : Int32 × Sg) (hf : x_X7_count N a1 g = some res) : Ci l yX7_count cX7_count 2 .int rm_X7_count pX v [.ref (zA v 0), .int a1] g res := by
  refine ze_i (by decide +kernel) (Nat.le_of_ble_eq_true rfl) ?_
  intro p e s m args below meth c Q ls hcx hret hP hl
  obtain ⟨hx, hb, hml, hown, hts, hk⟩ := hcx
  have hown : s.vm.findClass RX7 = some m.cls := hown
  have hS : va_S (An nX v) s.heap s.heap [] := va_S.rf
  have hl : lv_has ls 2 [(0, .ref (zA v 0)), (1, .int a1)] := hl
  unfold x_X7_count at hf
  refine lv_iload_n hx hb dX7_count_0 rfl (lv_at hl 1 rfl) ?_
  by_cases c1 : (a1).toInt < 0 ∨ 5 < (a1).toInt
  · have hf := ite_t c1 hf
    refine lv_tableOut (tgt := 91) hx hb dX7_count_1 c1 (by decide) ?_
    refine lv_bipush (v := -2) hx hb dX7_count_91 kB_m2 ?_
    exact hret _ _ _ _ _ _ (Or.inl rfl) (Option.some.inj hf) hP hS dX7_count_93
  · have hf := ite_f c1 hf
    by_cases c2 : ((a1).toInt - (0)).toNat = 0
    · have hf := ite_t c2 hf
      refine lv_tableIn (tgt := 40) hx hb dX7_count_1 (fun h => c1 (Or.inl h)) (fun h => c1 (Or.inr h)) (by rw [c2]; rfl) (by decide) ?_
      refine lv_aload_n hx hb dX7_count_40 rfl (lv_at hl 0 rfl) ?_
      refine va_get (D := zD v) (ci := 6) (v := .ref (zA v 1)) (C := RX7) (T := TX7) (N := 11) hx hb hts iX7 hown hk.1 hP 0 rfl rfl 0 (by decide) (hts _ fl_X7_10) (fun _ h9 => h9) rfl dX7_count_41 ?_
      refine va_get (D := zD v) (ci := 4) (v := .int (g 1 4)) (C := RX5) (T := TX5) (N := 10) hx hb hts iX5 hown hk.1 hP 1 rfl rfl 4 (by decide) (hts _ fl_X7_120) (fun _ h9 => h9) rfl dX7_count_44 ?_
      exact hret _ _ _ _ _ _ (Or.inl rfl) (Option.some.inj hf) hP hS dX7_count_47
    · have hf := ite_f c2 hf
      by_cases c3 : ((a1).toInt - (0)).toNat = 1
      · have hf := ite_t c3 hf
        refine lv_tableIn (tgt := 48) hx hb dX7_count_1 (fun h => c1 (Or.inl h)) (fun h => c1 (Or.inr h)) (by rw [c3]; rfl) (by decide) ?_
        refine lv_aload_n hx hb dX7_count_48 rfl (lv_at hl 0 rfl) ?_
        refine va_get (D := zD v) (ci := 6) (v := .ref (zA v 1)) (C := RX7) (T := TX7) (N := 11) hx hb hts iX7 hown hk.1 hP 0 rfl rfl 0 (by decide) (hts _ fl_X7_10) (fun _ h9 => h9) rfl dX7_count_49 ?_
        obtain ⟨q4, eq4, hf⟩ := bd_e hf
        refine zki hS (zrV (As := []) (rest := []) okX hx hb hml hown hts hk hP hS (t_X5_stocked l v N g _ eq4) vk_X5_stocked ml_X7_303 rfl rfl ⟨(Nat.le_of_ble_eq_true rfl), (Nat.le_of_ble_eq_true rfl)⟩ (va_recv (q := (RX5, TX5, 10)) hk.1 hP (q0 := 1) (ci := 4) rfl rfl) rfl hl.1 rfl (Nat.le_of_ble_eq_true rfl) dX7_count_52) (fun H locs hP hS => ?_)
        exact hret _ _ _ _ _ _ (Or.inl rfl) (Option.some.inj hf) hP hS dX7_count_55
      · have hf := ite_f c3 hf
        by_cases c5 : ((a1).toInt - (0)).toNat = 2
        · have hf := ite_t c5 hf
          refine lv_tableIn (tgt := 56) hx hb dX7_count_1 (fun h => c1 (Or.inl h)) (fun h => c1 (Or.inr h)) (by rw [c5]; rfl) (by decide) ?_
          refine lv_aload_n hx hb dX7_count_56 rfl (lv_at hl 0 rfl) ?_
          refine va_get (D := zD v) (ci := 6) (v := .ref (zA v 1)) (C := RX7) (T := TX7) (N := 11) hx hb hts iX7 hown hk.1 hP 0 rfl rfl 0 (by decide) (hts _ fl_X7_10) (fun _ h9 => h9) rfl dX7_count_57 ?_
          refine lv_iconst (v := 0) hx hb dX7_count_60 kI_0 ?_
          refine lv_bipush (v := 99) hx hb dX7_count_61 kB_99 ?_
          obtain ⟨q6, eq6, hf⟩ := bd_e hf
          refine zki hS (zrV (As := [.int (0 : Int32), .int (99 : Int32)]) (rest := []) okX hx hb hml hown hts hk hP hS (t_X5_peopleOf l v N (0 : Int32) (99 : Int32) g _ eq6) vk_X5_peopleOf ml_X7_276 rfl rfl ⟨(Nat.le_of_ble_eq_true rfl), (Nat.le_of_ble_eq_true rfl)⟩ (va_recv (q := (RX5, TX5, 10)) hk.1 hP (q0 := 1) (ci := 4) rfl rfl) rfl hl.1 rfl (Nat.le_of_ble_eq_true rfl) dX7_count_63) (fun H locs hP hS => ?_)
          exact hret _ _ _ _ _ _ (Or.inl rfl) (Option.some.inj hf) hP hS dX7_count_66
        · have hf := ite_f c5 hf
          by_cases c7 : ((a1).toInt - (0)).toNat = 3
          · have hf := ite_t c7 hf
            refine lv_tableIn (tgt := 67) hx hb dX7_count_1 (fun h => c1 (Or.inl h)) (fun h => c1 (Or.inr h)) (by rw [c7]; rfl) (by decide) ?_
            refine lv_aload_n hx hb dX7_count_67 rfl (lv_at hl 0 rfl) ?_
            refine va_get (D := zD v) (ci := 6) (v := .ref (zA v 4)) (C := RX7) (T := TX7) (N := 11) hx hb hts iX7 hown hk.1 hP 0 rfl rfl 4 (by decide) (hts _ fl_X7_29) (fun _ h9 => h9) rfl dX7_count_68 ?_
            refine va_get (D := zD v) (ci := 5) (v := .int (g 4 0)) (C := RX6) (T := TX6) (N := 5) hx hb hts iX6 hown hk.1 hP 4 rfl rfl 0 (by decide) (hts _ fl_X7_149) (fun _ h9 => h9) rfl dX7_count_71 ?_
            exact hret _ _ _ _ _ _ (Or.inl rfl) (Option.some.inj hf) hP hS dX7_count_74
          · have hf := ite_f c7 hf
            by_cases c8 : ((a1).toInt - (0)).toNat = 4
            · have hf := ite_t c8 hf
              refine lv_tableIn (tgt := 75) hx hb dX7_count_1 (fun h => c1 (Or.inl h)) (fun h => c1 (Or.inr h)) (by rw [c8]; rfl) (by decide) ?_
              refine lv_aload_n hx hb dX7_count_75 rfl (lv_at hl 0 rfl) ?_
              refine va_get (D := zD v) (ci := 6) (v := .ref (zA v 3)) (C := RX7) (T := TX7) (N := 11) hx hb hts iX7 hown hk.1 hP 0 rfl rfl 3 (by decide) (hts _ fl_X7_22) (fun _ h9 => h9) rfl dX7_count_76 ?_
              refine va_get (D := zD v) (ci := 1) (v := .int (g 3 1)) (C := RX2) (T := TX2) (N := 8) hx hb hts iX2 hown hk.1 hP 3 rfl rfl 1 (by decide) (hts _ fl_X7_331) (fun _ h9 => h9) rfl dX7_count_79 ?_
              exact hret _ _ _ _ _ _ (Or.inl rfl) (Option.some.inj hf) hP hS dX7_count_82
            · have hf := ite_f c8 hf
              by_cases c9 : ((a1).toInt - (0)).toNat = 5
              · have hf := ite_t c9 hf
                refine lv_tableIn (tgt := 83) hx hb dX7_count_1 (fun h => c1 (Or.inl h)) (fun h => c1 (Or.inr h)) (by rw [c9]; rfl) (by decide) ?_
                refine lv_aload_n hx hb dX7_count_83 rfl (lv_at hl 0 rfl) ?_
                refine va_get (D := zD v) (ci := 6) (v := .ref (zA v 1)) (C := RX7) (T := TX7) (N := 11) hx hb hts iX7 hown hk.1 hP 0 rfl rfl 0 (by decide) (hts _ fl_X7_10) (fun _ h9 => h9) rfl dX7_count_84 ?_
                refine va_get (D := zD v) (ci := 4) (v := .int (g 1 3)) (C := RX5) (T := TX5) (N := 10) hx hb hts iX5 hown hk.1 hP 1 rfl rfl 3 (by decide) (hts _ fl_X7_152) (fun _ h9 => h9) rfl dX7_count_87 ?_
                exact hret _ _ _ _ _ _ (Or.inl rfl) (Option.some.inj hf) hP hS dX7_count_90
              · have hf := ite_f c9 hf
                exact nn_e hf
abbrev rm_X7_sheet : Room := { frames := 3, cells := 0, slots := 0, locals := 106 }
set_option maxRecDepth 100000 in
theorem t_X7_sheet (l : Launch) (v : Ev) (N : Nat) (a1 : Int32) (a2 : Int32) (a3 : Int32) (g : Sg) (res : Int32 × Sg) (hf : x_X7_sheet N a1 a2 a3 g = some res) : Ci l yX7_sheet cX7_sheet 4 .int rm_X7_sheet pX v [.ref (zA v 0), .int a1, .int a2, .int a3] g res := by
  refine ze_i (by decide +kernel) (Nat.le_of_ble_eq_true rfl) ?_
  intro p e s m args below meth c Q ls hcx hret hP hl
  obtain ⟨hx, hb, hml, hown, hts, hk⟩ := hcx
  have hown : s.vm.findClass RX7 = some m.cls := hown
  have hS : va_S (An nX v) s.heap s.heap [] := va_S.rf
  have hl : lv_has ls 4 [(0, .ref (zA v 0)), (1, .int a1), (2, .int a2), (3, .int a3)] := hl
  unfold x_X7_sheet at hf
  refine lv_iload_n hx hb dX7_sheet_0 rfl (lv_at hl 1 rfl) ?_
  obtain ⟨q1, eq1, hf⟩ := bd_e hf
  refine zki hS (zrS (As := [.int a1]) (rest := []) okX hx hb hml hown hts hk hP hS (t_X3_isOne l v N a1 g _ eq1) sk_X3_isOne ml_X7_173 rfl rfl ⟨(Nat.le_of_ble_eq_true rfl), (Nat.le_of_ble_eq_true rfl)⟩ rfl hl.1 rfl (Nat.le_of_ble_eq_true rfl) dX7_sheet_1) (fun H locs hP hS => ?_)
  refine lv_if_eq (tgt := 17) hx hb dX7_sheet_4 (by decide) (fun c2 => ?_) (fun c2 => ?_)
  · have hf := ite_t c2 hf
    refine lv_bipush (v := -2) hx hb dX7_sheet_17 kB_m2 ?_
    exact hret _ _ _ _ _ _ (Or.inl rfl) (Option.some.inj hf) hP hS dX7_sheet_19
  · have hf := ite_f c2 hf
    refine lv_iload_n hx hb dX7_sheet_7 rfl (lv_at hl 2 rfl) ?_
    refine lv_iconst (v := -1) hx hb dX7_sheet_8 kI_m1 ?_
    refine lv_icmp_lt (tgt := 17) hx hb dX7_sheet_9 (by decide) (fun c3 => ?_) (fun c3 => ?_)
    · have hf := ite_t c3 hf
      refine lv_bipush (v := -2) hx hb dX7_sheet_17 kB_m2 ?_
      exact hret _ _ _ _ _ _ (Or.inl rfl) (Option.some.inj hf) hP hS dX7_sheet_19
    · have hf := ite_f c3 hf
      refine lv_iload_n hx hb dX7_sheet_12 rfl (lv_at hl 2 rfl) ?_
      refine lv_iconst (v := 2) hx hb dX7_sheet_13 kI_2 ?_
      refine lv_icmp_le (tgt := 20) hx hb dX7_sheet_14 (by decide) (fun c4 => ?_) (fun c4 => ?_)
      · have hf := ite_t c4 hf
        refine lv_iload_n hx hb dX7_sheet_20 rfl (lv_at hl 2 rfl) ?_
        refine lv_iconst (v := -1) hx hb dX7_sheet_21 kI_m1 ?_
        refine lv_icmp_ne (tgt := 37) hx hb dX7_sheet_22 (by decide) (fun c5 => ?_) (fun c5 => ?_)
        · have hf := ite_f c5 hf
          refine lv_iload_n hx hb dX7_sheet_37 rfl (lv_at hl 3 rfl) ?_
          refine lv_bipush (v := 40) hx hb dX7_sheet_38 kB_40 ?_
          refine lv_icmp_le (tgt := 46) hx hb dX7_sheet_40 (by decide) (fun c6 => ?_) (fun c6 => ?_)
          · have hf := ite_t c6 hf
            refine lv_iload_n hx hb dX7_sheet_46 rfl (lv_at hl 3 rfl) ?_
            refine lv_if_ge (tgt := 53) hx hb dX7_sheet_47 (by decide) (fun c7 => ?_) (fun c7 => ?_)
            · have hf := ite_t c7 hf
              refine lv_aload_n hx hb dX7_sheet_53 rfl (lv_at hl 0 rfl) ?_
              refine va_get (D := zD v) (ci := 6) (v := .ref (zA v 5)) (C := RX7) (T := TX7) (N := 11) hx hb hts iX7 hown hk.1 hP 0 rfl rfl 5 (by decide) (hts _ fl_X7_36) (fun _ h9 => h9) rfl dX7_sheet_54 ?_
              refine lv_iload_n hx hb dX7_sheet_57 rfl (lv_at hl 1 rfl) ?_
              refine lv_iload_n hx hb dX7_sheet_58 rfl (lv_at hl 2 rfl) ?_
              refine lv_iload_n hx hb dX7_sheet_59 rfl (lv_at hl 3 rfl) ?_
              obtain ⟨q8, eq8, hf⟩ := bd_e hf
              refine zkv hS (zrV (As := [.int a1, .int a2, .int a3]) (rest := []) okX hx hb hml hown hts hk hP hS (t_X3_become l v N a1 a2 a3 q1.2 _ eq8) vk_X3_become ml_X7_306 rfl rfl ⟨(Nat.le_of_ble_eq_true rfl), (Nat.le_of_ble_eq_true rfl)⟩ (va_recv (q := (RX3, TX3, 3)) hk.1 hP (q0 := 5) (ci := 2) rfl rfl) rfl hl.1 rfl (Nat.le_of_ble_eq_true rfl) dX7_sheet_60) (fun H locs hP hS => ?_)
              refine lv_iconst (v := 1) hx hb dX7_sheet_63 kI_1 ?_
              exact hret _ _ _ _ _ _ (Or.inl rfl) (Option.some.inj hf) hP hS dX7_sheet_64
            · have hf := ite_f c7 hf
              refine lv_bipush (v := -14) hx hb dX7_sheet_50 kB_m14 ?_
              exact hret _ _ _ _ _ _ (Or.inl rfl) (Option.some.inj hf) hP hS dX7_sheet_52
          · have hf := ite_f c6 hf
            refine lv_bipush (v := -2) hx hb dX7_sheet_43 kB_m2 ?_
            exact hret _ _ _ _ _ _ (Or.inl rfl) (Option.some.inj hf) hP hS dX7_sheet_45
        · have hf := ite_t c5 hf
          refine lv_aload_n hx hb dX7_sheet_25 rfl (lv_at hl 0 rfl) ?_
          refine va_get (D := zD v) (ci := 6) (v := .ref (zA v 5)) (C := RX7) (T := TX7) (N := 11) hx hb hts iX7 hown hk.1 hP 0 rfl rfl 5 (by decide) (hts _ fl_X7_36) (fun _ h9 => h9) rfl dX7_sheet_26 ?_
          refine lv_iload_n hx hb dX7_sheet_29 rfl (lv_at hl 1 rfl) ?_
          refine lv_iconst (v := -1) hx hb dX7_sheet_30 kI_m1 ?_
          refine lv_iconst (v := 0) hx hb dX7_sheet_31 kI_0 ?_
          obtain ⟨q9, eq9, hf⟩ := bd_e hf
          refine zkv hS (zrV (As := [.int a1, .int (-1 : Int32), .int (0 : Int32)]) (rest := []) okX hx hb hml hown hts hk hP hS (t_X3_become l v N a1 (-1 : Int32) (0 : Int32) q1.2 _ eq9) vk_X3_become ml_X7_306 rfl rfl ⟨(Nat.le_of_ble_eq_true rfl), (Nat.le_of_ble_eq_true rfl)⟩ (va_recv (q := (RX3, TX3, 3)) hk.1 hP (q0 := 5) (ci := 2) rfl rfl) rfl hl.1 rfl (Nat.le_of_ble_eq_true rfl) dX7_sheet_32) (fun H locs hP hS => ?_)
          refine lv_iconst (v := 1) hx hb dX7_sheet_35 kI_1 ?_
          exact hret _ _ _ _ _ _ (Or.inl rfl) (Option.some.inj hf) hP hS dX7_sheet_36
      · have hf := ite_f c4 hf
        refine lv_bipush (v := -2) hx hb dX7_sheet_17 kB_m2 ?_
        exact hret _ _ _ _ _ _ (Or.inl rfl) (Option.some.inj hf) hP hS dX7_sheet_19
abbrev rm_X7_cell : Room := { frames := 2, cells := 0, slots := 0, locals := 83 }
set_option maxRecDepth 100000 in
theorem t_X7_cell (l : Launch) (v : Ev) (N : Nat) (a1 : Int32) (a2 : Int32) (a3 : Int32) (g : Sg) (res : Int32 × Sg) (hf : x_X7_cell N a1 a2 a3 g = some res) : Ci l yX7_cell cX7_cell 4 .int rm_X7_cell pX v [.ref (zA v 0), .int a1, .int a2, .int a3] g res := by
  refine ze_i (by decide +kernel) (Nat.le_of_ble_eq_true rfl) ?_
  intro p e s m args below meth c Q ls hcx hret hP hl
  obtain ⟨hx, hb, hml, hown, hts, hk⟩ := hcx
  have hown : s.vm.findClass RX7 = some m.cls := hown
  have hS : va_S (An nX v) s.heap s.heap [] := va_S.rf
  have hl : lv_has ls 4 [(0, .ref (zA v 0)), (1, .int a1), (2, .int a2), (3, .int a3)] := hl
  unfold x_X7_cell at hf
  refine lv_iload_n hx hb dX7_cell_0 rfl (lv_at hl 1 rfl) ?_
  obtain ⟨q1, eq1, hf⟩ := bd_e hf
  refine zki hS (zrS (As := [.int a1]) (rest := []) okX hx hb hml hown hts hk hP hS (t_X3_isOne l v N a1 g _ eq1) sk_X3_isOne ml_X7_173 rfl rfl ⟨(Nat.le_of_ble_eq_true rfl), (Nat.le_of_ble_eq_true rfl)⟩ rfl hl.1 rfl (Nat.le_of_ble_eq_true rfl) dX7_cell_1) (fun H locs hP hS => ?_)
  refine lv_if_ne (tgt := 10) hx hb dX7_cell_4 (by decide) (fun c2 => ?_) (fun c2 => ?_)
  · have hf := ite_f c2 hf
    refine lv_aload_n hx hb dX7_cell_10 rfl (lv_at hl 0 rfl) ?_
    refine va_get (D := zD v) (ci := 6) (v := .ref (zA v 5)) (C := RX7) (T := TX7) (N := 11) hx hb hts iX7 hown hk.1 hP 0 rfl rfl 5 (by decide) (hts _ fl_X7_36) (fun _ h9 => h9) rfl dX7_cell_11 ?_
    refine lv_iload_n hx hb dX7_cell_14 rfl (lv_at hl 1 rfl) ?_
    obtain ⟨q3, eq3, hf⟩ := bd_e hf
    refine zki hS (zrV (As := [.int a1]) (rest := []) okX hx hb hml hown hts hk hP hS (t_X3_isMissing l v N a1 q1.2 _ eq3) vk_X3_isMissing ml_X7_207 rfl rfl ⟨(Nat.le_of_ble_eq_true rfl), (Nat.le_of_ble_eq_true rfl)⟩ (va_recv (q := (RX3, TX3, 3)) hk.1 hP (q0 := 5) (ci := 2) rfl rfl) rfl hl.1 rfl (Nat.le_of_ble_eq_true rfl) dX7_cell_15) (fun H locs hP hS => ?_)
    refine lv_if_eq (tgt := 24) hx hb dX7_cell_18 (by decide) (fun c4 => ?_) (fun c4 => ?_)
    · have hf := ite_t c4 hf
      refine lv_iload_n hx hb dX7_cell_24 rfl (lv_at hl 2 rfl) ?_
      refine lv_if_lt (tgt := 41) hx hb dX7_cell_25 (by decide) (fun c5 => ?_) (fun c5 => ?_)
      · have hf := ite_t c5 hf
        refine lv_bipush (v := -12) hx hb dX7_cell_41 kB_m12 ?_
        exact hret _ _ _ _ _ _ (Or.inl rfl) (Option.some.inj hf) hP hS dX7_cell_43
      · have hf := ite_f c5 hf
        refine lv_iload_n hx hb dX7_cell_28 rfl (lv_at hl 2 rfl) ?_
        refine lv_aload_n hx hb dX7_cell_29 rfl (lv_at hl 0 rfl) ?_
        refine va_get (D := zD v) (ci := 6) (v := .ref (zA v 5)) (C := RX7) (T := TX7) (N := 11) hx hb hts iX7 hown hk.1 hP 0 rfl rfl 5 (by decide) (hts _ fl_X7_36) (fun _ h9 => h9) rfl dX7_cell_30 ?_
        refine va_get (D := zD v) (ci := 2) (v := .ref (zA v 31)) (C := RX3) (T := TX3) (N := 3) hx hb hts iX3 hown hk.1 hP 5 rfl rfl 1 (by decide) (hts _ fl_X7_210) (fun _ h9 => h9) rfl dX7_cell_33 ?_
        refine lv_iload_n hx hb dX7_cell_36 rfl (lv_at hl 1 rfl) ?_
        obtain ⟨c6, hf⟩ := gd_e hf
        refine va_iald hx hb hk.1 hP 31 0 rfl rfl (inb_in c6) dX7_cell_37 ?_
        refine lv_icmp_lt (tgt := 44) hx hb dX7_cell_38 (by decide) (fun c7 => ?_) (fun c7 => ?_)
        · have hf := ite_t c7 hf
          refine lv_aload_n hx hb dX7_cell_44 rfl (lv_at hl 0 rfl) ?_
          refine va_get (D := zD v) (ci := 6) (v := .ref (zA v 5)) (C := RX7) (T := TX7) (N := 11) hx hb hts iX7 hown hk.1 hP 0 rfl rfl 5 (by decide) (hts _ fl_X7_36) (fun _ h9 => h9) rfl dX7_cell_45 ?_
          refine lv_iload_n hx hb dX7_cell_48 rfl (lv_at hl 1 rfl) ?_
          refine lv_iload_n hx hb dX7_cell_49 rfl (lv_at hl 2 rfl) ?_
          refine lv_iload_n hx hb dX7_cell_50 rfl (lv_at hl 3 rfl) ?_
          obtain ⟨q8, eq8, hf⟩ := bd_e hf
          refine zkv hS (zrV (As := [.int a1, .int a2, .int a3]) (rest := []) okX hx hb hml hown hts hk hP hS (t_X3_put l v N a1 a2 a3 q3.2 _ eq8) vk_X3_put ml_X7_310 rfl rfl ⟨(Nat.le_of_ble_eq_true rfl), (Nat.le_of_ble_eq_true rfl)⟩ (va_recv (q := (RX3, TX3, 3)) hk.1 hP (q0 := 5) (ci := 2) rfl rfl) rfl hl.1 rfl (Nat.le_of_ble_eq_true rfl) dX7_cell_51) (fun H locs hP hS => ?_)
          refine lv_iconst (v := 1) hx hb dX7_cell_54 kI_1 ?_
          exact hret _ _ _ _ _ _ (Or.inl rfl) (Option.some.inj hf) hP hS dX7_cell_55
        · have hf := ite_f c7 hf
          refine lv_bipush (v := -12) hx hb dX7_cell_41 kB_m12 ?_
          exact hret _ _ _ _ _ _ (Or.inl rfl) (Option.some.inj hf) hP hS dX7_cell_43
    · have hf := ite_f c4 hf
      refine lv_bipush (v := -11) hx hb dX7_cell_21 kB_m11 ?_
      exact hret _ _ _ _ _ _ (Or.inl rfl) (Option.some.inj hf) hP hS dX7_cell_23
  · have hf := ite_t c2 hf
    refine lv_bipush (v := -2) hx hb dX7_cell_7 kB_m2 ?_
    exact hret _ _ _ _ _ _ (Or.inl rfl) (Option.some.inj hf) hP hS dX7_cell_9
abbrev rm_X7_copy : Room := { frames := 2, cells := 0, slots := 0, locals := 120 }
set_option maxRecDepth 100000 in
theorem t_X7_copy (l : Launch) (v : Ev) (N : Nat) (a1 : Int32) (a2 : Int32) (a3 : Int32) (a4 : Int32) (a5 : Int32) (g : Sg) (res : Int32 × Sg) (hf : x_X7_copy N a1 a2 a3 a4 a5 g = some res) : Ci l yX7_copy cX7_copy 6 .int rm_X7_copy pX v [.ref (zA v 0), .int a1, .int a2, .int a3, .int a4, .int a5] g res := by
  refine ze_i (by decide +kernel) (Nat.le_of_ble_eq_true rfl) ?_
  intro p e s m args below meth c Q ls hcx hret hP hl
  obtain ⟨hx, hb, hml, hown, hts, hk⟩ := hcx
  have hown : s.vm.findClass RX7 = some m.cls := hown
  have hS : va_S (An nX v) s.heap s.heap [] := va_S.rf
  have hl : lv_has ls 6 [(0, .ref (zA v 0)), (1, .int a1), (2, .int a2), (3, .int a3), (4, .int a4), (5, .int a5)] := hl
  unfold x_X7_copy at hf
  refine lv_iload_n hx hb dX7_copy_0 rfl (lv_at hl 1 rfl) ?_
  obtain ⟨q1, eq1, hf⟩ := bd_e hf
  refine zki hS (zrS (As := [.int a1]) (rest := []) okX hx hb hml hown hts hk hP hS (t_X3_isOne l v N a1 g _ eq1) sk_X3_isOne ml_X7_173 rfl rfl ⟨(Nat.le_of_ble_eq_true rfl), (Nat.le_of_ble_eq_true rfl)⟩ rfl hl.1 rfl (Nat.le_of_ble_eq_true rfl) dX7_copy_1) (fun H locs hP hS => ?_)
  refine lv_if_eq (tgt := 14) hx hb dX7_copy_4 (by decide) (fun c2 => ?_) (fun c2 => ?_)
  · have hf := ite_t c2 hf
    refine lv_bipush (v := -2) hx hb dX7_copy_14 kB_m2 ?_
    exact hret _ _ _ _ _ _ (Or.inl rfl) (Option.some.inj hf) hP hS dX7_copy_16
  · have hf := ite_f c2 hf
    refine lv_iload_n hx hb dX7_copy_7 rfl (lv_at hl 3 rfl) ?_
    obtain ⟨q3, eq3, hf⟩ := bd_e hf
    refine zki hS (zrS (As := [.int a3]) (rest := []) okX hx hb hml hown hts hk hP hS (t_X3_isOne l v N a3 q1.2 _ eq3) sk_X3_isOne ml_X7_173 rfl rfl ⟨(Nat.le_of_ble_eq_true rfl), (Nat.le_of_ble_eq_true rfl)⟩ rfl hl.1 rfl (Nat.le_of_ble_eq_true rfl) dX7_copy_8) (fun H locs hP hS => ?_)
    refine lv_if_ne (tgt := 17) hx hb dX7_copy_11 (by decide) (fun c4 => ?_) (fun c4 => ?_)
    · have hf := ite_f c4 hf
      refine lv_aload_n hx hb dX7_copy_17 rfl (lv_at hl 0 rfl) ?_
      refine va_get (D := zD v) (ci := 6) (v := .ref (zA v 5)) (C := RX7) (T := TX7) (N := 11) hx hb hts iX7 hown hk.1 hP 0 rfl rfl 5 (by decide) (hts _ fl_X7_36) (fun _ h9 => h9) rfl dX7_copy_18 ?_
      refine lv_iload_n hx hb dX7_copy_21 rfl (lv_at hl 1 rfl) ?_
      obtain ⟨q5, eq5, hf⟩ := bd_e hf
      refine zki hS (zrV (As := [.int a1]) (rest := []) okX hx hb hml hown hts hk hP hS (t_X3_isMissing l v N a1 q3.2 _ eq5) vk_X3_isMissing ml_X7_207 rfl rfl ⟨(Nat.le_of_ble_eq_true rfl), (Nat.le_of_ble_eq_true rfl)⟩ (va_recv (q := (RX3, TX3, 3)) hk.1 hP (q0 := 5) (ci := 2) rfl rfl) rfl hl.1 rfl (Nat.le_of_ble_eq_true rfl) dX7_copy_22) (fun H locs hP hS => ?_)
      refine lv_if_ne (tgt := 39) hx hb dX7_copy_25 (by decide) (fun c6 => ?_) (fun c6 => ?_)
      · have hf := ite_f c6 hf
        refine lv_bipush (v := -11) hx hb dX7_copy_39 kB_m11 ?_
        exact hret _ _ _ _ _ _ (Or.inl rfl) (Option.some.inj hf) hP hS dX7_copy_41
      · have hf := ite_t c6 hf
        refine lv_aload_n hx hb dX7_copy_28 rfl (lv_at hl 0 rfl) ?_
        refine va_get (D := zD v) (ci := 6) (v := .ref (zA v 5)) (C := RX7) (T := TX7) (N := 11) hx hb hts iX7 hown hk.1 hP 0 rfl rfl 5 (by decide) (hts _ fl_X7_36) (fun _ h9 => h9) rfl dX7_copy_29 ?_
        refine lv_iload_n hx hb dX7_copy_32 rfl (lv_at hl 3 rfl) ?_
        obtain ⟨q7, eq7, hf⟩ := bd_e hf
        refine zki hS (zrV (As := [.int a3]) (rest := []) okX hx hb hml hown hts hk hP hS (t_X3_isMissing l v N a3 q5.2 _ eq7) vk_X3_isMissing ml_X7_207 rfl rfl ⟨(Nat.le_of_ble_eq_true rfl), (Nat.le_of_ble_eq_true rfl)⟩ (va_recv (q := (RX3, TX3, 3)) hk.1 hP (q0 := 5) (ci := 2) rfl rfl) rfl hl.1 rfl (Nat.le_of_ble_eq_true rfl) dX7_copy_33) (fun H locs hP hS => ?_)
        refine lv_if_eq (tgt := 42) hx hb dX7_copy_36 (by decide) (fun c8 => ?_) (fun c8 => ?_)
        · have hf := ite_t c8 hf
          refine lv_aload_n hx hb dX7_copy_42 rfl (lv_at hl 0 rfl) ?_
          refine va_get (D := zD v) (ci := 6) (v := .ref (zA v 5)) (C := RX7) (T := TX7) (N := 11) hx hb hts iX7 hown hk.1 hP 0 rfl rfl 5 (by decide) (hts _ fl_X7_36) (fun _ h9 => h9) rfl dX7_copy_43 ?_
          refine va_get (D := zD v) (ci := 2) (v := .ref (zA v 30)) (C := RX3) (T := TX3) (N := 3) hx hb hts iX3 hown hk.1 hP 5 rfl rfl 0 (by decide) (hts _ fl_X7_334) (fun _ h9 => h9) rfl dX7_copy_46 ?_
          refine lv_iload_n hx hb dX7_copy_49 rfl (lv_at hl 1 rfl) ?_
          obtain ⟨c9, hf⟩ := gd_e hf
          refine va_iald hx hb hk.1 hP 30 0 rfl rfl (inb_in c9) dX7_copy_50 ?_
          refine lv_aload_n hx hb dX7_copy_51 rfl (lv_at hl 0 rfl) ?_
          refine va_get (D := zD v) (ci := 6) (v := .ref (zA v 5)) (C := RX7) (T := TX7) (N := 11) hx hb hts iX7 hown hk.1 hP 0 rfl rfl 5 (by decide) (hts _ fl_X7_36) (fun _ h9 => h9) rfl dX7_copy_52 ?_
          refine va_get (D := zD v) (ci := 2) (v := .ref (zA v 30)) (C := RX3) (T := TX3) (N := 3) hx hb hts iX3 hown hk.1 hP 5 rfl rfl 0 (by decide) (hts _ fl_X7_334) (fun _ h9 => h9) rfl dX7_copy_55 ?_
          refine lv_iload_n hx hb dX7_copy_58 rfl (lv_at hl 3 rfl) ?_
          obtain ⟨c10, hf⟩ := gd_e hf
          refine va_iald hx hb hk.1 hP 30 0 rfl rfl (inb_in c10) dX7_copy_59 ?_
          refine lv_icmp_eq (tgt := 66) hx hb dX7_copy_60 (by decide) (fun c11 => ?_) (fun c11 => ?_)
          · have hf := ite_t c11 hf
            refine lv_iload_n hx hb dX7_copy_66 rfl (lv_at hl 2 rfl) ?_
            refine lv_if_lt (tgt := 113) hx hb dX7_copy_67 (by decide) (fun c12 => ?_) (fun c12 => ?_)
            · have hf := ite_t c12 hf
              refine lv_bipush (v := -12) hx hb dX7_copy_113 kB_m12 ?_
              exact hret _ _ _ _ _ _ (Or.inl rfl) (Option.some.inj hf) hP hS dX7_copy_115
            · have hf := ite_f c12 hf
              refine lv_iload hx hb dX7_copy_70 (lv_at hl 4 rfl) ?_
              refine lv_if_lt (tgt := 113) hx hb dX7_copy_72 (by decide) (fun c13 => ?_) (fun c13 => ?_)
              · have hf := ite_t c13 hf
                refine lv_bipush (v := -12) hx hb dX7_copy_113 kB_m12 ?_
                exact hret _ _ _ _ _ _ (Or.inl rfl) (Option.some.inj hf) hP hS dX7_copy_115
              · have hf := ite_f c13 hf
                refine lv_iload hx hb dX7_copy_75 (lv_at hl 5 rfl) ?_
                refine lv_if_lt (tgt := 113) hx hb dX7_copy_77 (by decide) (fun c14 => ?_) (fun c14 => ?_)
                · have hf := ite_t c14 hf
                  refine lv_bipush (v := -12) hx hb dX7_copy_113 kB_m12 ?_
                  exact hret _ _ _ _ _ _ (Or.inl rfl) (Option.some.inj hf) hP hS dX7_copy_115
                · have hf := ite_f c14 hf
                  refine lv_iload hx hb dX7_copy_80 (lv_at hl 5 rfl) ?_
                  refine lv_aload_n hx hb dX7_copy_82 rfl (lv_at hl 0 rfl) ?_
                  refine va_get (D := zD v) (ci := 6) (v := .ref (zA v 5)) (C := RX7) (T := TX7) (N := 11) hx hb hts iX7 hown hk.1 hP 0 rfl rfl 5 (by decide) (hts _ fl_X7_36) (fun _ h9 => h9) rfl dX7_copy_83 ?_
                  refine va_get (D := zD v) (ci := 2) (v := .ref (zA v 31)) (C := RX3) (T := TX3) (N := 3) hx hb hts iX3 hown hk.1 hP 5 rfl rfl 1 (by decide) (hts _ fl_X7_210) (fun _ h9 => h9) rfl dX7_copy_86 ?_
                  refine lv_iload_n hx hb dX7_copy_89 rfl (lv_at hl 1 rfl) ?_
                  obtain ⟨c15, hf⟩ := gd_e hf
                  refine va_iald hx hb hk.1 hP 31 0 rfl rfl (inb_in c15) dX7_copy_90 ?_
                  refine lv_iload_n hx hb dX7_copy_91 rfl (lv_at hl 2 rfl) ?_
                  refine lv_isub hx hb dX7_copy_92 ?_
                  refine lv_icmp_gt (tgt := 113) hx hb dX7_copy_93 (by decide) (fun c16 => ?_) (fun c16 => ?_)
                  · have hf := ite_t c16 hf
                    refine lv_bipush (v := -12) hx hb dX7_copy_113 kB_m12 ?_
                    exact hret _ _ _ _ _ _ (Or.inl rfl) (Option.some.inj hf) hP hS dX7_copy_115
                  · have hf := ite_f c16 hf
                    refine lv_iload hx hb dX7_copy_96 (lv_at hl 5 rfl) ?_
                    refine lv_aload_n hx hb dX7_copy_98 rfl (lv_at hl 0 rfl) ?_
                    refine va_get (D := zD v) (ci := 6) (v := .ref (zA v 5)) (C := RX7) (T := TX7) (N := 11) hx hb hts iX7 hown hk.1 hP 0 rfl rfl 5 (by decide) (hts _ fl_X7_36) (fun _ h9 => h9) rfl dX7_copy_99 ?_
                    refine va_get (D := zD v) (ci := 2) (v := .ref (zA v 31)) (C := RX3) (T := TX3) (N := 3) hx hb hts iX3 hown hk.1 hP 5 rfl rfl 1 (by decide) (hts _ fl_X7_210) (fun _ h9 => h9) rfl dX7_copy_102 ?_
                    refine lv_iload_n hx hb dX7_copy_105 rfl (lv_at hl 3 rfl) ?_
                    obtain ⟨c17, hf⟩ := gd_e hf
                    refine va_iald hx hb hk.1 hP 31 0 rfl rfl (inb_in c17) dX7_copy_106 ?_
                    refine lv_iload hx hb dX7_copy_107 (lv_at hl 4 rfl) ?_
                    refine lv_isub hx hb dX7_copy_109 ?_
                    refine lv_icmp_le (tgt := 116) hx hb dX7_copy_110 (by decide) (fun c18 => ?_) (fun c18 => ?_)
                    · have hf := ite_t c18 hf
                      refine lv_aload_n hx hb dX7_copy_116 rfl (lv_at hl 0 rfl) ?_
                      refine va_get (D := zD v) (ci := 6) (v := .ref (zA v 5)) (C := RX7) (T := TX7) (N := 11) hx hb hts iX7 hown hk.1 hP 0 rfl rfl 5 (by decide) (hts _ fl_X7_36) (fun _ h9 => h9) rfl dX7_copy_117 ?_
                      refine va_get (D := zD v) (ci := 2) (v := .ref (zA v 32)) (C := RX3) (T := TX3) (N := 3) hx hb hts iX3 hown hk.1 hP 5 rfl rfl 2 (by decide) (hts _ fl_X7_212) (fun _ h9 => h9) rfl dX7_copy_120 ?_
                      refine lv_iload_n hx hb dX7_copy_123 rfl (lv_at hl 1 rfl) ?_
                      obtain ⟨c19, hf⟩ := gd_e hf
                      refine za_ld hx hb hk.1 hP 32 2 rfl rfl (inb_in c19) dX7_copy_124 ?_
                      refine lv_iload_n hx hb dX7_copy_125 rfl (lv_at hl 2 rfl) ?_
                      refine lv_aload_n hx hb dX7_copy_126 rfl (lv_at hl 0 rfl) ?_
                      refine va_get (D := zD v) (ci := 6) (v := .ref (zA v 5)) (C := RX7) (T := TX7) (N := 11) hx hb hts iX7 hown hk.1 hP 0 rfl rfl 5 (by decide) (hts _ fl_X7_36) (fun _ h9 => h9) rfl dX7_copy_127 ?_
                      refine va_get (D := zD v) (ci := 2) (v := .ref (zA v 32)) (C := RX3) (T := TX3) (N := 3) hx hb hts iX3 hown hk.1 hP 5 rfl rfl 2 (by decide) (hts _ fl_X7_212) (fun _ h9 => h9) rfl dX7_copy_130 ?_
                      refine lv_iload_n hx hb dX7_copy_133 rfl (lv_at hl 3 rfl) ?_
                      obtain ⟨c20, hf⟩ := gd_e hf
                      refine za_ld hx hb hk.1 hP 32 2 rfl rfl (inb_in c20) dX7_copy_134 ?_
                      refine lv_iload hx hb dX7_copy_135 (lv_at hl 4 rfl) ?_
                      refine lv_iload hx hb dX7_copy_137 (lv_at hl 5 rfl) ?_
                      obtain ⟨c21, hf⟩ := gd_e hf
                      have c21 := acb_e c21
                      refine va_copyi hx hb (hml.trans hl.1.symm) hown (hts _ ml_X7_337) (hts _ mN_ac) (hts _ mS_ac) (hts _ mI_sys) hk.1 hP (zw_D okX hk _) hS (33 + (a1).toNatClampNeg) (33 + (a3).toNatClampNeg) 0 0 (zr_at v q7.2 (inb_lt c19)) (zr_at v q7.2 (inb_lt c20)) rfl rfl rfl c21.1 c21.2.1 c21.2.2.1 c21.2.2.2.1 c21.2.2.2.2 (fun _ _ => rfl) (Nat.le_of_ble_eq_true rfl) (Nat.le_of_ble_eq_true rfl) dX7_copy_139 (fun H locs hP1 _ hS => ?_)
                      have hP : va_P (zD v) vwCl (pX.1 v (up q7.2 (33 + (a3).toNatClampNeg) (va_cpy (q7.2 (33 + (a1).toNatClampNeg)) (q7.2 (33 + (a3).toNatClampNeg)) (a2).toNatClampNeg (a4).toNatClampNeg (a5).toNatClampNeg))) H := by rw [zr_set v q7.2 _ (inb_lt c20)] at hP1; exact hP1
                      obtain ⟨g22, eg22, hf⟩ := lt_e hf
                      rw [← eg22] at hP
                      refine lv_iload hx hb dX7_copy_142 (lv_at hl 5 rfl) ?_
                      exact hret _ _ _ _ _ _ (Or.inl rfl) (Option.some.inj hf) hP hS dX7_copy_144
                    · have hf := ite_f c18 hf
                      refine lv_bipush (v := -12) hx hb dX7_copy_113 kB_m12 ?_
                      exact hret _ _ _ _ _ _ (Or.inl rfl) (Option.some.inj hf) hP hS dX7_copy_115
          · have hf := ite_f c11 hf
            refine lv_bipush (v := -13) hx hb dX7_copy_63 kB_m13 ?_
            exact hret _ _ _ _ _ _ (Or.inl rfl) (Option.some.inj hf) hP hS dX7_copy_65
        · have hf := ite_f c8 hf
          refine lv_bipush (v := -11) hx hb dX7_copy_39 kB_m11 ?_
          exact hret _ _ _ _ _ _ (Or.inl rfl) (Option.some.inj hf) hP hS dX7_copy_41
    · have hf := ite_t c4 hf
      refine lv_bipush (v := -2) hx hb dX7_copy_14 kB_m2 ?_
      exact hret _ _ _ _ _ _ (Or.inl rfl) (Option.some.inj hf) hP hS dX7_copy_16
abbrev rm_X7_town : Room := { frames := 2, cells := 0, slots := 0, locals := 81 }
set_option maxRecDepth 100000 in
theorem t_X7_town (l : Launch) (v : Ev) (N : Nat) (a1 : Int32) (a2 : Int32) (a3 : Int32) (a4 : Int32) (g : Sg) (res : Int32 × Sg) (hf : x_X7_town N a1 a2 a3 a4 g = some res) : Ci l yX7_town cX7_town 9 .int rm_X7_town pX v [.ref (zA v 0), .int a1, .int a2, .int a3, .int a4] g res := by
  refine ze_i (by decide +kernel) (Nat.le_of_ble_eq_true rfl) ?_
  intro p e s m args below meth c Q ls hcx hret hP hl
  obtain ⟨hx, hb, hml, hown, hts, hk⟩ := hcx
  have hown : s.vm.findClass RX7 = some m.cls := hown
  have hS : va_S (An nX v) s.heap s.heap [] := va_S.rf
  have hl : lv_has ls 9 [(0, .ref (zA v 0)), (1, .int a1), (2, .int a2), (3, .int a3), (4, .int a4)] := hl
  have wb174 : ∀ (h67 : Int32 × Int32 × Int32 × Int32 × Int32 × Sg → Option (Int32 × Sg)) (hh67 : ∀ x : Int32 × Int32 × Int32 × Int32 × Int32 × Sg, h67 x = some res → ∀ (H : Heap) (locs : List Loc) (ls : Array Slot), va_P (zD v) vwCl (pX.1 v x.2.2.2.2.2) H → va_S (An nX v) s.heap H locs → lv_has ls 9 [(0, .ref (zA v 0)), (1, .int x.1), (3, .int x.2.1), (4, .int x.2.2.1), (5, .int x.2.2.2.1), (6, .int x.2.2.2.2.1)] → W p l e rm_X7_town s m args below meth c H locs 0 0 Q (F0 m 67 ls [])) (y1 : Int32) (y3 : Int32) (y4 : Int32) (y5 : Int32) (y6 : Int32) (g : Sg) (hf : x_X7_town_b174 N h67 y1 y3 y4 y5 y6 g = some res) (H : Heap) (locs : List Loc) (ls : Array Slot) (hP : va_P (zD v) vwCl (pX.1 v g) H) (hS : va_S (An nX v) s.heap H locs) (hl : lv_has ls 9 [(0, .ref (zA v 0)), (1, .int y1), (3, .int y3), (4, .int y4), (5, .int y5), (6, .int y6)]), W p l e rm_X7_town s m args below meth c H locs 0 0 Q (F0 m 174 ls []) := by
    intro h67 hh67 y1 y3 y4 y5 y6 g hf H locs ls hP hS hl
    unfold x_X7_town_b174 at hf
    obtain ⟨x23, ex23, hf⟩ := lt_e hf
    refine lv_iinc (v := x23) (lv' := [(6, .int x23), (0, .ref (zA v 0)), (1, .int y1), (3, .int y3), (4, .int y4), (5, .int y5)]) hx hb dX7_town_174 hl (k := 5) rfl ((congrArg (fun z => y6 + z) kI_1).trans ex23.symm) (by decide) rfl (fun ls hl => ?_)
    refine lv_goto (tgt := 67) hx hb dX7_town_177 (by decide) ?_
    exact hh67 (y1, y3, y4, y5, x23, g) hf _ _ _ hP hS (lv_sub hl [1, 2, 3, 4, 5, 0] rfl)
  have wL67 : ∀ (n : Nat) (x : Int32 × Int32 × Int32 × Int32 × Int32 × Sg), lp (x_X7_town_B67 N) n x = some res → ∀ (H : Heap) (locs : List Loc) (ls : Array Slot), va_P (zD v) vwCl (pX.1 v x.2.2.2.2.2) H → va_S (An nX v) s.heap H locs → lv_has ls 9 [(0, .ref (zA v 0)), (1, .int x.1), (3, .int x.2.1), (4, .int x.2.2.1), (5, .int x.2.2.2.1), (6, .int x.2.2.2.2.1)] → W p l e rm_X7_town s m args below meth c H locs 0 0 Q (F0 m 67 ls []) := by
    refine lp_w (P := fun x : Int32 × Int32 × Int32 × Int32 × Int32 × Sg => ∀ (H : Heap) (locs : List Loc) (ls : Array Slot), va_P (zD v) vwCl (pX.1 v x.2.2.2.2.2) H → va_S (An nX v) s.heap H locs → lv_has ls 9 [(0, .ref (zA v 0)), (1, .int x.1), (3, .int x.2.1), (4, .int x.2.2.1), (5, .int x.2.2.2.1), (6, .int x.2.2.2.2.1)] → W p l e rm_X7_town s m args below meth c H locs 0 0 Q (F0 m 67 ls [])) ?_
    intro h67 hh67 x hf H locs ls hP hS hl
    unfold x_X7_town_B67 at hf
    refine lv_iload hx hb dX7_town_67 (lv_at hl 5 rfl) ?_
    refine lv_iload hx hb dX7_town_69 (lv_at hl 3 rfl) ?_
    refine lv_icmp_ge (tgt := 180) hx hb dX7_town_71 (by decide) (fun c11 => ?_) (fun c11 => ?_)
    · have hf := ite_t c11 hf
      refine lv_iload hx hb dX7_town_180 (lv_at hl 4 rfl) ?_
      exact hret _ _ _ _ _ _ (Or.inl rfl) (Option.some.inj hf) hP hS dX7_town_182
    · have hf := ite_f c11 hf
      refine lv_iload_n hx hb dX7_town_74 rfl (lv_at hl 2 rfl) ?_
      refine lv_if_lt (tgt := 98) hx hb dX7_town_75 (by decide) (fun c12 => ?_) (fun c12 => ?_)
      · have hf := ite_t c12 hf
        refine lv_bipush (v := -12) hx hb dX7_town_98 kB_m12 ?_
        exact hret _ _ _ _ _ _ (Or.inl rfl) (Option.some.inj hf) hP hS dX7_town_100
      · have hf := ite_f c12 hf
        refine lv_iload_n hx hb dX7_town_78 rfl (lv_at hl 2 rfl) ?_
        refine lv_aload_n hx hb dX7_town_79 rfl (lv_at hl 0 rfl) ?_
        refine va_get (D := zD v) (ci := 6) (v := .ref (zA v 5)) (C := RX7) (T := TX7) (N := 11) hx hb hts iX7 hown hk.1 hP 0 rfl rfl 5 (by decide) (hts _ fl_X7_36) (fun _ h9 => h9) rfl dX7_town_80 ?_
        refine va_get (D := zD v) (ci := 2) (v := .ref (zA v 31)) (C := RX3) (T := TX3) (N := 3) hx hb hts iX3 hown hk.1 hP 5 rfl rfl 1 (by decide) (hts _ fl_X7_210) (fun _ h9 => h9) rfl dX7_town_83 ?_
        refine lv_iload_n hx hb dX7_town_86 rfl (lv_at hl 1 rfl) ?_
        obtain ⟨c13, hf⟩ := gd_e hf
        refine va_iald hx hb hk.1 hP 31 0 rfl rfl (inb_in c13) dX7_town_87 ?_
        refine lv_iconst (v := 2) hx hb dX7_town_88 kI_2 ?_
        refine lv_iload hx hb dX7_town_89 (lv_at hl 5 rfl) ?_
        refine lv_imul hx hb dX7_town_91 ?_
        refine lv_isub hx hb dX7_town_92 ?_
        refine lv_iconst (v := 1) hx hb dX7_town_93 kI_1 ?_
        refine lv_isub hx hb dX7_town_94 ?_
        refine lv_icmp_lt (tgt := 101) hx hb dX7_town_95 (by decide) (fun c14 => ?_) (fun c14 => ?_)
        · have hf := ite_t c14 hf
          refine lv_aload_n hx hb dX7_town_101 rfl (lv_at hl 0 rfl) ?_
          refine va_get (D := zD v) (ci := 6) (v := .ref (zA v 5)) (C := RX7) (T := TX7) (N := 11) hx hb hts iX7 hown hk.1 hP 0 rfl rfl 5 (by decide) (hts _ fl_X7_36) (fun _ h9 => h9) rfl dX7_town_102 ?_
          refine va_get (D := zD v) (ci := 2) (v := .ref (zA v 32)) (C := RX3) (T := TX3) (N := 3) hx hb hts iX3 hown hk.1 hP 5 rfl rfl 2 (by decide) (hts _ fl_X7_212) (fun _ h9 => h9) rfl dX7_town_105 ?_
          refine lv_iload_n hx hb dX7_town_108 rfl (lv_at hl 1 rfl) ?_
          obtain ⟨c15, hf⟩ := gd_e hf
          refine za_ld hx hb hk.1 hP 32 2 rfl rfl (inb_in c15) dX7_town_109 ?_
          refine lv_iload_n hx hb dX7_town_110 rfl (lv_at hl 2 rfl) ?_
          refine lv_iconst (v := 2) hx hb dX7_town_111 kI_2 ?_
          refine lv_iload hx hb dX7_town_112 (lv_at hl 5 rfl) ?_
          refine lv_imul hx hb dX7_town_114 ?_
          refine lv_iadd hx hb dX7_town_115 ?_
          obtain ⟨c16, hf⟩ := gd_e hf
          refine va_iald hx hb hk.1 hP (33 + (x.1).toNatClampNeg) 0 (zr_at v x.2.2.2.2.2 (inb_lt c15)) rfl (inb_in c16) dX7_town_116 ?_
          obtain ⟨x17, ex17, hf⟩ := lt_e hf
          refine lv_nm ex17 ?_
          refine lv_istore (lv' := [(7, .int x17), (0, .ref (zA v 0)), (1, .int x.1), (3, .int x.2.1), (4, .int x.2.2.1), (5, .int x.2.2.2.1), (6, .int x.2.2.2.2.1)]) hx hb dX7_town_117 hl (by decide) rfl (fun ls hl => ?_)
          refine lv_aload_n hx hb dX7_town_119 rfl (lv_at hl 1 rfl) ?_
          refine va_get (D := zD v) (ci := 6) (v := .ref (zA v 5)) (C := RX7) (T := TX7) (N := 11) hx hb hts iX7 hown hk.1 hP 0 rfl rfl 5 (by decide) (hts _ fl_X7_36) (fun _ h9 => h9) rfl dX7_town_120 ?_
          refine va_get (D := zD v) (ci := 2) (v := .ref (zA v 32)) (C := RX3) (T := TX3) (N := 3) hx hb hts iX3 hown hk.1 hP 5 rfl rfl 2 (by decide) (hts _ fl_X7_212) (fun _ h9 => h9) rfl dX7_town_123 ?_
          refine lv_iload_n hx hb dX7_town_126 rfl (lv_at hl 2 rfl) ?_
          obtain ⟨c18, hf⟩ := gd_e hf
          refine za_ld hx hb hk.1 hP 32 2 rfl rfl (inb_in c18) dX7_town_127 ?_
          refine lv_iload_n hx hb dX7_town_128 rfl (lv_at hl 3 rfl) ?_
          refine lv_iconst (v := 2) hx hb dX7_town_129 kI_2 ?_
          refine lv_iload hx hb dX7_town_130 (lv_at hl 6 rfl) ?_
          refine lv_imul hx hb dX7_town_132 ?_
          refine lv_iadd hx hb dX7_town_133 ?_
          refine lv_iconst (v := 1) hx hb dX7_town_134 kI_1 ?_
          refine lv_iadd hx hb dX7_town_135 ?_
          obtain ⟨c19, hf⟩ := gd_e hf
          refine va_iald hx hb hk.1 hP (33 + (x.1).toNatClampNeg) 0 (zr_at v x.2.2.2.2.2 (inb_lt c18)) rfl (inb_in c19) dX7_town_136 ?_
          obtain ⟨x20, ex20, hf⟩ := lt_e hf
          refine lv_nm ex20 ?_
          refine lv_istore (lv' := [(8, .int x20), (7, .int x17), (0, .ref (zA v 0)), (1, .int x.1), (3, .int x.2.1), (4, .int x.2.2.1), (5, .int x.2.2.2.1), (6, .int x.2.2.2.2.1)]) hx hb dX7_town_137 hl (by decide) rfl (fun ls hl => ?_)
          refine lv_iload hx hb dX7_town_139 (lv_at hl 1 rfl) ?_
          obtain ⟨q21, eq21, hf⟩ := bd_e hf
          refine zki hS (zrS (As := [.int x17]) (rest := []) okX hx hb hml hown hts hk hP hS (t_X7_isFoot l v N x17 x.2.2.2.2.2 _ eq21) sk_X7_isFoot ml_X7_126 rfl rfl ⟨(Nat.le_of_ble_eq_true rfl), (Nat.le_of_ble_eq_true rfl)⟩ rfl hl.1 rfl (Nat.le_of_ble_eq_true rfl) dX7_town_141) (fun H locs hP hS => ?_)
          refine lv_if_eq (tgt := 174) hx hb dX7_town_144 (by decide) (fun c22 => ?_) (fun c22 => ?_)
          · have hf := ite_t c22 hf
            exact wb174 h67 hh67 x.1 x.2.1 x.2.2.1 x.2.2.2.1 x.2.2.2.2.1 q21.2 hf _ _ _ hP hS (lv_sub hl [2, 3, 4, 5, 6, 7] rfl)
          · have hf := ite_f c22 hf
            refine lv_iload hx hb dX7_town_147 (lv_at hl 0 rfl) ?_
            refine lv_if_lt (tgt := 174) hx hb dX7_town_149 (by decide) (fun c24 => ?_) (fun c24 => ?_)
            · have hf := ite_t c24 hf
              exact wb174 h67 hh67 x.1 x.2.1 x.2.2.1 x.2.2.2.1 x.2.2.2.2.1 q21.2 hf _ _ _ hP hS (lv_sub hl [2, 3, 4, 5, 6, 7] rfl)
            · have hf := ite_f c24 hf
              refine lv_iload hx hb dX7_town_152 (lv_at hl 0 rfl) ?_
              refine lv_bipush (v := 9) hx hb dX7_town_154 kB_9 ?_
              refine lv_icmp_gt (tgt := 174) hx hb dX7_town_156 (by decide) (fun c25 => ?_) (fun c25 => ?_)
              · have hf := ite_t c25 hf
                exact wb174 h67 hh67 x.1 x.2.1 x.2.2.1 x.2.2.2.1 x.2.2.2.2.1 q21.2 hf _ _ _ hP hS (lv_sub hl [2, 3, 4, 5, 6, 7] rfl)
              · have hf := ite_f c25 hf
                refine lv_aload_n hx hb dX7_town_159 rfl (lv_at hl 2 rfl) ?_
                refine va_get (D := zD v) (ci := 6) (v := .ref (zA v 1)) (C := RX7) (T := TX7) (N := 11) hx hb hts iX7 hown hk.1 hP 0 rfl rfl 0 (by decide) (hts _ fl_X7_10) (fun _ h9 => h9) rfl dX7_town_160 ?_
                refine va_get (D := zD v) (ci := 4) (v := .ref (zA v 11)) (C := RX5) (T := TX5) (N := 10) hx hb hts iX5 hown hk.1 hP 1 rfl rfl 5 (by decide) (hts _ fl_X7_107) (fun _ h9 => h9) rfl dX7_town_163 ?_
                refine lv_iload hx hb dX7_town_166 (lv_at hl 1 rfl) ?_
                refine lv_iload hx hb dX7_town_168 (lv_at hl 0 rfl) ?_
                obtain ⟨c26, hf⟩ := gd_e hf
                refine va_iast hx hb hk.1 hP (zw_D okX hk _) hS 11 0 rfl rfl (inb_in c26) dX7_town_170 (fun H locs hP1 _ hS => ?_)
                have hP : va_P (zD v) vwCl (pX.1 v (up q21.2 11 (upd (q21.2 11) (x17).toNatClampNeg x20))) H := hP1
                obtain ⟨g27, eg27, hf⟩ := lt_e hf
                rw [← eg27] at hP
                obtain ⟨x28, ex28, hf⟩ := lt_e hf
                refine lv_iinc (v := x28) (lv' := [(5, .int x28), (8, .int x20), (7, .int x17), (0, .ref (zA v 0)), (1, .int x.1), (3, .int x.2.1), (4, .int x.2.2.1), (6, .int x.2.2.2.2.1)]) hx hb dX7_town_171 hl (k := 6) rfl ((congrArg (fun z => x.2.2.2.1 + z) kI_1).trans ex28.symm) (by decide) rfl (fun ls hl => ?_)
                exact wb174 h67 hh67 x.1 x.2.1 x.2.2.1 x28 x.2.2.2.2.1 g27 hf _ _ _ hP hS (lv_sub hl [3, 4, 5, 6, 0, 7] rfl)
        · have hf := ite_f c14 hf
          refine lv_bipush (v := -12) hx hb dX7_town_98 kB_m12 ?_
          exact hret _ _ _ _ _ _ (Or.inl rfl) (Option.some.inj hf) hP hS dX7_town_100
  unfold x_X7_town at hf
  refine lv_iload_n hx hb dX7_town_0 rfl (lv_at hl 1 rfl) ?_
  obtain ⟨q1, eq1, hf⟩ := bd_e hf
  refine zki hS (zrS (As := [.int a1]) (rest := []) okX hx hb hml hown hts hk hP hS (t_X3_isOne l v N a1 g _ eq1) sk_X3_isOne ml_X7_173 rfl rfl ⟨(Nat.le_of_ble_eq_true rfl), (Nat.le_of_ble_eq_true rfl)⟩ rfl hl.1 rfl (Nat.le_of_ble_eq_true rfl) dX7_town_1) (fun H locs hP hS => ?_)
  refine lv_if_eq (tgt := 28) hx hb dX7_town_4 (by decide) (fun c2 => ?_) (fun c2 => ?_)
  · have hf := ite_t c2 hf
    refine lv_bipush (v := -2) hx hb dX7_town_28 kB_m2 ?_
    exact hret _ _ _ _ _ _ (Or.inl rfl) (Option.some.inj hf) hP hS dX7_town_30
  · have hf := ite_f c2 hf
    refine lv_iload_n hx hb dX7_town_7 rfl (lv_at hl 2 rfl) ?_
    refine lv_if_lt (tgt := 28) hx hb dX7_town_8 (by decide) (fun c3 => ?_) (fun c3 => ?_)
    · have hf := ite_t c3 hf
      refine lv_bipush (v := -2) hx hb dX7_town_28 kB_m2 ?_
      exact hret _ _ _ _ _ _ (Or.inl rfl) (Option.some.inj hf) hP hS dX7_town_30
    · have hf := ite_f c3 hf
      refine lv_iload_n hx hb dX7_town_11 rfl (lv_at hl 2 rfl) ?_
      refine lv_iconst (v := 2) hx hb dX7_town_12 kI_2 ?_
      refine lv_icmp_gt (tgt := 28) hx hb dX7_town_13 (by decide) (fun c4 => ?_) (fun c4 => ?_)
      · have hf := ite_t c4 hf
        refine lv_bipush (v := -2) hx hb dX7_town_28 kB_m2 ?_
        exact hret _ _ _ _ _ _ (Or.inl rfl) (Option.some.inj hf) hP hS dX7_town_30
      · have hf := ite_f c4 hf
        refine lv_iload hx hb dX7_town_16 (lv_at hl 4 rfl) ?_
        refine lv_if_lt (tgt := 28) hx hb dX7_town_18 (by decide) (fun c5 => ?_) (fun c5 => ?_)
        · have hf := ite_t c5 hf
          refine lv_bipush (v := -2) hx hb dX7_town_28 kB_m2 ?_
          exact hret _ _ _ _ _ _ (Or.inl rfl) (Option.some.inj hf) hP hS dX7_town_30
        · have hf := ite_f c5 hf
          refine lv_iload hx hb dX7_town_21 (lv_at hl 4 rfl) ?_
          refine lv_bipush (v := 20) hx hb dX7_town_23 kB_20 ?_
          refine lv_icmp_le (tgt := 31) hx hb dX7_town_25 (by decide) (fun c6 => ?_) (fun c6 => ?_)
          · have hf := ite_t c6 hf
            refine lv_aload_n hx hb dX7_town_31 rfl (lv_at hl 0 rfl) ?_
            refine va_get (D := zD v) (ci := 6) (v := .ref (zA v 5)) (C := RX7) (T := TX7) (N := 11) hx hb hts iX7 hown hk.1 hP 0 rfl rfl 5 (by decide) (hts _ fl_X7_36) (fun _ h9 => h9) rfl dX7_town_32 ?_
            refine lv_iload_n hx hb dX7_town_35 rfl (lv_at hl 1 rfl) ?_
            obtain ⟨q7, eq7, hf⟩ := bd_e hf
            refine zki hS (zrV (As := [.int a1]) (rest := []) okX hx hb hml hown hts hk hP hS (t_X3_isMissing l v N a1 q1.2 _ eq7) vk_X3_isMissing ml_X7_207 rfl rfl ⟨(Nat.le_of_ble_eq_true rfl), (Nat.le_of_ble_eq_true rfl)⟩ (va_recv (q := (RX3, TX3, 3)) hk.1 hP (q0 := 5) (ci := 2) rfl rfl) rfl hl.1 rfl (Nat.le_of_ble_eq_true rfl) dX7_town_36) (fun H locs hP hS => ?_)
            refine lv_if_eq (tgt := 45) hx hb dX7_town_39 (by decide) (fun c8 => ?_) (fun c8 => ?_)
            · have hf := ite_t c8 hf
              refine lv_aload_n hx hb dX7_town_45 rfl (lv_at hl 0 rfl) ?_
              refine va_get (D := zD v) (ci := 6) (v := .ref (zA v 5)) (C := RX7) (T := TX7) (N := 11) hx hb hts iX7 hown hk.1 hP 0 rfl rfl 5 (by decide) (hts _ fl_X7_36) (fun _ h9 => h9) rfl dX7_town_46 ?_
              refine va_get (D := zD v) (ci := 2) (v := .ref (zA v 30)) (C := RX3) (T := TX3) (N := 3) hx hb hts iX3 hown hk.1 hP 5 rfl rfl 0 (by decide) (hts _ fl_X7_334) (fun _ h9 => h9) rfl dX7_town_49 ?_
              refine lv_iload_n hx hb dX7_town_52 rfl (lv_at hl 1 rfl) ?_
              obtain ⟨c9, hf⟩ := gd_e hf
              refine va_iald hx hb hk.1 hP 30 0 rfl rfl (inb_in c9) dX7_town_53 ?_
              refine lv_iload_n hx hb dX7_town_54 rfl (lv_at hl 2 rfl) ?_
              refine lv_icmp_eq (tgt := 61) hx hb dX7_town_55 (by decide) (fun c10 => ?_) (fun c10 => ?_)
              · have hf := ite_t c10 hf
                refine lv_iconst (v := 0) hx hb dX7_town_61 kI_0 ?_
                refine lv_istore (lv' := [(5, .int (0 : Int32)), (0, .ref (zA v 0)), (1, .int a1), (2, .int a2), (3, .int a3), (4, .int a4)]) hx hb dX7_town_62 hl (by decide) rfl (fun ls hl => ?_)
                refine lv_iconst (v := 0) hx hb dX7_town_64 kI_0 ?_
                refine lv_istore (lv' := [(6, .int (0 : Int32)), (5, .int (0 : Int32)), (0, .ref (zA v 0)), (1, .int a1), (2, .int a2), (3, .int a3), (4, .int a4)]) hx hb dX7_town_65 hl (by decide) rfl (fun ls hl => ?_)
                exact wL67 N (a1, a3, a4, (0 : Int32), (0 : Int32), q7.2) hf _ _ _ hP hS (lv_sub hl [2, 3, 5, 6, 1, 0] rfl)
              · have hf := ite_f c10 hf
                refine lv_bipush (v := -13) hx hb dX7_town_58 kB_m13 ?_
                exact hret _ _ _ _ _ _ (Or.inl rfl) (Option.some.inj hf) hP hS dX7_town_60
            · have hf := ite_f c8 hf
              refine lv_bipush (v := -11) hx hb dX7_town_42 kB_m11 ?_
              exact hret _ _ _ _ _ _ (Or.inl rfl) (Option.some.inj hf) hP hS dX7_town_44
          · have hf := ite_f c6 hf
            refine lv_bipush (v := -2) hx hb dX7_town_28 kB_m2 ?_
            exact hret _ _ _ _ _ _ (Or.inl rfl) (Option.some.inj hf) hP hS dX7_town_30
abbrev rm_X7_taken : Room := { frames := 2, cells := 0, slots := 0, locals := 83 }
set_option maxRecDepth 100000 in
theorem t_X7_taken (l : Launch) (v : Ev) (N : Nat) (a1 : Int32) (a2 : Int32) (g : Sg) (res : Int32 × Sg) (hf : x_X7_taken N a1 a2 g = some res) : Ci l yX7_taken cX7_taken 3 .int rm_X7_taken pX v [.ref (zA v 0), .int a1, .int a2] g res := by
  refine ze_i (by decide +kernel) (Nat.le_of_ble_eq_true rfl) ?_
  intro p e s m args below meth c Q ls hcx hret hP hl
  obtain ⟨hx, hb, hml, hown, hts, hk⟩ := hcx
  have hown : s.vm.findClass RX7 = some m.cls := hown
  have hS : va_S (An nX v) s.heap s.heap [] := va_S.rf
  have hl : lv_has ls 3 [(0, .ref (zA v 0)), (1, .int a1), (2, .int a2)] := hl
  unfold x_X7_taken at hf
  refine lv_iload_n hx hb dX7_taken_0 rfl (lv_at hl 2 rfl) ?_
  refine lv_if_lt (tgt := 10) hx hb dX7_taken_1 (by decide) (fun c1 => ?_) (fun c1 => ?_)
  · have hf := ite_t c1 hf
    refine lv_bipush (v := -2) hx hb dX7_taken_10 kB_m2 ?_
    exact hret _ _ _ _ _ _ (Or.inl rfl) (Option.some.inj hf) hP hS dX7_taken_12
  · have hf := ite_f c1 hf
    refine lv_iload_n hx hb dX7_taken_4 rfl (lv_at hl 2 rfl) ?_
    refine lv_bipush (v := 6) hx hb dX7_taken_5 kB_6 ?_
    refine lv_icmp_lt (tgt := 13) hx hb dX7_taken_7 (by decide) (fun c2 => ?_) (fun c2 => ?_)
    · have hf := ite_t c2 hf
      refine lv_aload_n hx hb dX7_taken_13 rfl (lv_at hl 0 rfl) ?_
      refine va_get (D := zD v) (ci := 6) (v := .ref (zA v 1)) (C := RX7) (T := TX7) (N := 11) hx hb hts iX7 hown hk.1 hP 0 rfl rfl 0 (by decide) (hts _ fl_X7_10) (fun _ h9 => h9) rfl dX7_taken_14 ?_
      refine lv_iload_n hx hb dX7_taken_17 rfl (lv_at hl 1 rfl) ?_
      obtain ⟨q3, eq3, hf⟩ := bd_e hf
      refine zki hS (zrV (As := [.int a1]) (rest := []) okX hx hb hml hown hts hk hP hS (t_X5_hasMake l v N a1 g _ eq3) vk_X5_hasMake ml_X7_130 rfl rfl ⟨(Nat.le_of_ble_eq_true rfl), (Nat.le_of_ble_eq_true rfl)⟩ (va_recv (q := (RX5, TX5, 10)) hk.1 hP (q0 := 1) (ci := 4) rfl rfl) rfl hl.1 rfl (Nat.le_of_ble_eq_true rfl) dX7_taken_18) (fun H locs hP hS => ?_)
      refine lv_if_ne (tgt := 27) hx hb dX7_taken_21 (by decide) (fun c4 => ?_) (fun c4 => ?_)
      · have hf := ite_f c4 hf
        refine lv_aload_n hx hb dX7_taken_27 rfl (lv_at hl 0 rfl) ?_
        refine va_get (D := zD v) (ci := 6) (v := .ref (zA v 1)) (C := RX7) (T := TX7) (N := 11) hx hb hts iX7 hown hk.1 hP 0 rfl rfl 0 (by decide) (hts _ fl_X7_10) (fun _ h9 => h9) rfl dX7_taken_28 ?_
        refine va_get (D := zD v) (ci := 4) (v := .ref (zA v 12)) (C := RX5) (T := TX5) (N := 10) hx hb hts iX5 hown hk.1 hP 1 rfl rfl 6 (by decide) (hts _ fl_X7_123) (fun _ h9 => h9) rfl dX7_taken_31 ?_
        refine lv_iload_n hx hb dX7_taken_34 rfl (lv_at hl 1 rfl) ?_
        obtain ⟨c5, hf⟩ := gd_e hf
        refine va_iald hx hb hk.1 hP 12 0 rfl rfl (inb_in c5) dX7_taken_35 ?_
        refine lv_iload_n hx hb dX7_taken_36 rfl (lv_at hl 2 rfl) ?_
        obtain ⟨q6, eq6, hf⟩ := bd_e hf
        refine zki hS (zrS (As := [.int (q3.2 12 (a1).toNatClampNeg), .int a2]) (rest := []) okX hx hb hml hown hts hk hP hS (t_X0_isUnder l v N (q3.2 12 (a1).toNatClampNeg) a2 q3.2 _ eq6) sk_X0_isUnder ml_X7_343 rfl rfl ⟨(Nat.le_of_ble_eq_true rfl), (Nat.le_of_ble_eq_true rfl)⟩ rfl hl.1 rfl (Nat.le_of_ble_eq_true rfl) dX7_taken_37) (fun H locs hP hS => ?_)
        refine lv_if_eq (tgt := 55) hx hb dX7_taken_40 (by decide) (fun c7 => ?_) (fun c7 => ?_)
        · have hf := ite_t c7 hf
          refine lv_bipush (v := -13) hx hb dX7_taken_55 kB_m13 ?_
          exact hret _ _ _ _ _ _ (Or.inl rfl) (Option.some.inj hf) hP hS dX7_taken_57
        · have hf := ite_f c7 hf
          refine lv_aload_n hx hb dX7_taken_43 rfl (lv_at hl 0 rfl) ?_
          refine va_get (D := zD v) (ci := 6) (v := .ref (zA v 1)) (C := RX7) (T := TX7) (N := 11) hx hb hts iX7 hown hk.1 hP 0 rfl rfl 0 (by decide) (hts _ fl_X7_10) (fun _ h9 => h9) rfl dX7_taken_44 ?_
          refine va_get (D := zD v) (ci := 4) (v := .ref (zA v 13)) (C := RX5) (T := TX5) (N := 10) hx hb hts iX5 hown hk.1 hP 1 rfl rfl 7 (by decide) (hts _ fl_X7_110) (fun _ h9 => h9) rfl dX7_taken_47 ?_
          refine lv_iload_n hx hb dX7_taken_50 rfl (lv_at hl 1 rfl) ?_
          obtain ⟨c8, hf⟩ := gd_e hf
          refine va_iald hx hb hk.1 hP 13 0 rfl rfl (inb_in c8) dX7_taken_51 ?_
          refine lv_goto (tgt := 57) hx hb dX7_taken_52 (by decide) ?_
          exact hret _ _ _ _ _ _ (Or.inl rfl) (Option.some.inj hf) hP hS dX7_taken_57
      · have hf := ite_t c4 hf
        refine lv_bipush (v := -11) hx hb dX7_taken_24 kB_m11 ?_
        exact hret _ _ _ _ _ _ (Or.inl rfl) (Option.some.inj hf) hP hS dX7_taken_26
    · have hf := ite_f c2 hf
      refine lv_bipush (v := -2) hx hb dX7_taken_10 kB_m2 ?_
      exact hret _ _ _ _ _ _ (Or.inl rfl) (Option.some.inj hf) hP hS dX7_taken_12
