theorem fl_X8_17 : Cond.fieldLink RX8 17 "HalfASizeModel" "textSize" "[I" ∈ WL := wl (by decide +kernel) rfl
theorem kB_119 : (Int8.ofInt (119)).toInt32 = (119 : Int32) := by decide +kernel
theorem kB_108 : (Int8.ofInt (108)).toInt32 = (108 : Int32) := by decide +kernel
theorem vk_X8_part : VOK yX8_part cX8_part 3 (some .int) 1 := vok_of (by decide +kernel)
theorem ml_X8_263 : Cond.methodLink RX8 263 yX8_part ∈ WL := wl (by decide +kernel) rfl
theorem fl_X8_29 : Cond.fieldLink RX8 29 "HalfASizeModel" "hourNow" "I" ∈ WL := wl (by decide +kernel) rfl
theorem fl_X8_26 : Cond.fieldLink RX8 26 "HalfASizeModel" "right" "I" ∈ WL := wl (by decide +kernel) rfl
theorem fl_X8_270 : Cond.fieldLink RX8 270 "HalfASizeModel" "rule" "I" ∈ WL := wl (by decide +kernel) rfl
theorem vk_X8_read : VOK yX8_read cX8_read 6 (some .int) 2 := vok_of (by decide +kernel)
theorem ml_X8_267 : Cond.methodLink RX8 267 yX8_read ∈ WL := wl (by decide +kernel) rfl
theorem sk_X8_within : SOK yX8_within cX8_within 3 (some .int) 3 := sok_of (by decide +kernel)
theorem ml_X8_273 : Cond.methodLink RX8 273 yX8_within ∈ WL := wl (by decide +kernel) rfl
theorem fl_X8_23 : Cond.fieldLink RX8 23 "HalfASizeModel" "left" "I" ∈ WL := wl (by decide +kernel) rfl
theorem kc_X8_121 : Cond.constantLong RX8 121 (9) ∈ WL := wl (by decide +kernel) rfl
theorem kc_X8_131 : Cond.constantLong RX8 131 (4) ∈ WL := wl (by decide +kernel) rfl
theorem kc_X8_133 : Cond.constantLong RX8 133 (7) ∈ WL := wl (by decide +kernel) rfl
theorem fl_X8_35 : Cond.fieldLink RX8 35 "HalfASizeModel" "kinds" "[I" ∈ WL := wl (by decide +kernel) rfl
theorem fl_X8_44 : Cond.fieldLink RX8 44 "HalfASizeModel" "stocks" "[I" ∈ WL := wl (by decide +kernel) rfl
theorem fl_X8_41 : Cond.fieldLink RX8 41 "HalfASizeModel" "runRow" "[I" ∈ WL := wl (by decide +kernel) rfl
theorem fl_X8_38 : Cond.fieldLink RX8 38 "HalfASizeModel" "numbers" "[I" ∈ WL := wl (by decide +kernel) rfl
theorem vk_X8_footNow : VOK yX8_footNow cX8_footNow 3 (some .int) 1 := vok_of (by decide +kernel)
theorem ml_X8_135 : Cond.methodLink RX8 135 yX8_footNow ∈ WL := wl (by decide +kernel) rfl
theorem fl_X8_32 : Cond.fieldLink RX8 32 "HalfASizeModel" "town" "[I" ∈ WL := wl (by decide +kernel) rfl
theorem vk_X8_isMake : VOK yX8_isMake cX8_isMake 2 (some .boolean) 1 := vok_of (by decide +kernel)
theorem ml_X8_112 : Cond.methodLink RX8 112 yX8_isMake ∈ WL := wl (by decide +kernel) rfl
theorem sk_X8_isFoot : SOK yX8_isFoot cX8_isFoot 1 (some .boolean) 1 := sok_of (by decide +kernel)
theorem ml_X8_108 : Cond.methodLink RX8 108 yX8_isFoot ∈ WL := wl (by decide +kernel) rfl
theorem kc_X8_106 : Cond.constantLong RX8 106 (6) ∈ WL := wl (by decide +kernel) rfl
theorem vk_X8_told : VOK yX8_told cX8_told 3 (some .int) 2 := vok_of (by decide +kernel)
theorem ml_X8_123 : Cond.methodLink RX8 123 yX8_told ∈ WL := wl (by decide +kernel) rfl
theorem kc_X8_119 : Cond.constantLong RX8 119 (1048575) ∈ WL := wl (by decide +kernel) rfl
theorem kc_X8_117 : Cond.constantLong RX8 117 (23) ∈ WL := wl (by decide +kernel) rfl
theorem kc_X8_115 : Cond.constantLong RX8 115 (-9) ∈ WL := wl (by decide +kernel) rfl
theorem kc_X8_127 : Cond.constantLong RX8 127 (5) ∈ WL := wl (by decide +kernel) rfl
theorem kc_X8_129 : Cond.constantLong RX8 129 (918) ∈ WL := wl (by decide +kernel) rfl
theorem kB_18 : (Int8.ofInt (18)).toInt32 = (18 : Int32) := by decide +kernel
theorem vk_X8_longOf : VOK yX8_longOf cX8_longOf 6 (some .int) 1 := vok_of (by decide +kernel)
theorem ml_X8_139 : Cond.methodLink RX8 139 yX8_longOf ∈ WL := wl (by decide +kernel) rfl
theorem sk_X8_plainly : SOK yX8_plainly cX8_plainly 1 (some .int) 1 := sok_of (by decide +kernel)
theorem ml_X8_142 : Cond.methodLink RX8 142 yX8_plainly ∈ WL := wl (by decide +kernel) rfl
theorem vk_X8_isShoe : VOK yX8_isShoe cX8_isShoe 2 (some .boolean) 1 := vok_of (by decide +kernel)
theorem ml_X8_145 : Cond.methodLink RX8 145 yX8_isShoe ∈ WL := wl (by decide +kernel) rfl
theorem vk_X8_saysOf : VOK yX8_saysOf cX8_saysOf 7 (some .int) 2 := vok_of (by decide +kernel)
theorem ml_X8_148 : Cond.methodLink RX8 148 yX8_saysOf ∈ WL := wl (by decide +kernel) rfl
theorem kc_X8_151 : Cond.constantLong RX8 151 (255) ∈ WL := wl (by decide +kernel) rfl
theorem fl_X8_153 : Cond.fieldLink RX8 153 "HalfASizeModel" "taped" "I" ∈ WL := wl (by decide +kernel) rfl
theorem fl_X8_20 : Cond.fieldLink RX8 20 "HalfASizeModel" "tape" "[I" ∈ WL := wl (by decide +kernel) rfl
theorem fl_X8_94 : Cond.fieldLink RX8 94 "HalfASizeModel" "textCount" "I" ∈ WL := wl (by decide +kernel) rfl
theorem vk_X8_isStock : VOK yX8_isStock cX8_isStock 2 (some .boolean) 1 := vok_of (by decide +kernel)
theorem ml_X8_277 : Cond.methodLink RX8 277 yX8_isStock ∈ WL := wl (by decide +kernel) rfl
theorem fl_X8_47 : Cond.fieldLink RX8 47 "HalfASizeModel" "table" "[I" ∈ WL := wl (by decide +kernel) rfl
theorem kc_X8_370 : Cond.constantLong RX8 370 (3) ∈ WL := wl (by decide +kernel) rfl
theorem sk_X8_isSheet : SOK yX8_isSheet cX8_isSheet 1 (some .boolean) 1 := sok_of (by decide +kernel)
theorem ml_X8_280 : Cond.methodLink RX8 280 yX8_isSheet ∈ WL := wl (by decide +kernel) rfl
theorem fl_X8_78 : Cond.fieldLink RX8 78 "HalfASizeModel" "isThere" "[Z" ∈ WL := wl (by decide +kernel) rfl
theorem fl_X8_84 : Cond.fieldLink RX8 84 "HalfASizeModel" "sheetSize" "[I" ∈ WL := wl (by decide +kernel) rfl
theorem fl_X8_87 : Cond.fieldLink RX8 87 "HalfASizeModel" "items" "[I" ∈ WL := wl (by decide +kernel) rfl
theorem kc_X8_283 : Cond.constantLong RX8 283 (-2) ∈ WL := wl (by decide +kernel) rfl
theorem kc_X8_285 : Cond.constantLong RX8 285 (2) ∈ WL := wl (by decide +kernel) rfl
theorem fl_X8_50 : Cond.fieldLink RX8 50 "HalfASizeModel" "can" "[Z" ∈ WL := wl (by decide +kernel) rfl
theorem vk_X8_isSo : VOK yX8_isSo cX8_isSo 6 (some .boolean) 3 := vok_of (by decide +kernel)
theorem ml_X8_287 : Cond.methodLink RX8 287 yX8_isSo ∈ WL := wl (by decide +kernel) rfl
theorem vk_X8_canBad : VOK yX8_canBad cX8_canBad 3 (some .int) 1 := vok_of (by decide +kernel)
theorem ml_X8_291 : Cond.methodLink RX8 291 yX8_canBad ∈ WL := wl (by decide +kernel) rfl
theorem vk_X8_canMany : VOK yX8_canMany cX8_canMany 4 (some .int) 1 := vok_of (by decide +kernel)
theorem ml_X8_294 : Cond.methodLink RX8 294 yX8_canMany ∈ WL := wl (by decide +kernel) rfl
theorem fl_X8_54 : Cond.fieldLink RX8 54 "HalfASizeModel" "answers" "[I" ∈ WL := wl (by decide +kernel) rfl
theorem fl_X8_297 : Cond.fieldLink RX8 297 "HalfASizeModel" "alikeMost" "I" ∈ WL := wl (by decide +kernel) rfl
theorem vk_X8_alikeOf : VOK yX8_alikeOf cX8_alikeOf 4 (some .int) 1 := vok_of (by decide +kernel)
theorem ml_X8_300 : Cond.methodLink RX8 300 yX8_alikeOf ∈ WL := wl (by decide +kernel) rfl
theorem kL_1 : Int64.ofNat (1 : Fin 2) = (1 : Int64) := by decide +kernel
theorem vk_X8_gathers : VOK yX8_gathers cX8_gathers 3 none 0 := vok_of (by decide +kernel)
theorem ml_X8_303 : Cond.methodLink RX8 303 yX8_gathers ∈ WL := wl (by decide +kernel) rfl
theorem vk_X8_fetches : VOK yX8_fetches cX8_fetches 4 (some .int) 0 := vok_of (by decide +kernel)
theorem ml_X8_306 : Cond.methodLink RX8 306 yX8_fetches ∈ WL := wl (by decide +kernel) rfl
theorem fl_X8_60 : Cond.fieldLink RX8 60 "HalfASizeModel" "groupOf" "[I" ∈ WL := wl (by decide +kernel) rfl
theorem vk_X8_isAnyFit : VOK yX8_isAnyFit cX8_isAnyFit 3 (some .boolean) 0 := vok_of (by decide +kernel)
theorem ml_X8_309 : Cond.methodLink RX8 309 yX8_isAnyFit ∈ WL := wl (by decide +kernel) rfl
theorem fl_X8_312 : Cond.fieldLink RX8 312 "HalfASizeModel" "groups" "I" ∈ WL := wl (by decide +kernel) rfl
theorem vk_X8_hasAny : VOK yX8_hasAny cX8_hasAny 3 (some .boolean) 1 := vok_of (by decide +kernel)
theorem ml_X8_315 : Cond.methodLink RX8 315 yX8_hasAny ∈ WL := wl (by decide +kernel) rfl
theorem vk_X8_splits : VOK yX8_splits cX8_splits 7 none 2 := vok_of (by decide +kernel)
theorem ml_X8_318 : Cond.methodLink RX8 318 yX8_splits ∈ WL := wl (by decide +kernel) rfl
theorem fl_X8_57 : Cond.fieldLink RX8 57 "HalfASizeModel" "goesRow" "[I" ∈ WL := wl (by decide +kernel) rfl
theorem vk_X8_findsAll : VOK yX8_findsAll cX8_findsAll 2 none 0 := vok_of (by decide +kernel)
theorem ml_X8_322 : Cond.methodLink RX8 322 yX8_findsAll ∈ WL := wl (by decide +kernel) rfl
abbrev rm_X8_part : Room := { frames := 69, cells := 0, slots := 0, locals := 4422 }
set_option maxRecDepth 100000 in
theorem t_X8_part (l : Launch) (v : Ev) (N : Nat) (a1 : Int32) (g : SM) (res : Int32 × SM) (hf : x_X8_part N a1 g = some res) : Ci l yX8_part cX8_part 3 .int rm_X8_part pM v [.ref (zA v 0), .int a1] g res := by
  refine ze_i (by decide +kernel) (Nat.le_of_ble_eq_true rfl) ?_
  intro p e s m args below meth c Q ls hcx hret hP hl
  obtain ⟨hx, hb, hml, hown, hts, hk⟩ := hcx
  have hown : s.vm.findClass RX8 = some m.cls := hown
  have hS : va_S (An nM v) s.heap s.heap [] := va_S.rf
  have hl : lv_has ls 3 [(0, .ref (zA v 0)), (1, .int a1)] := hl
  have wb48 : ∀ (y2 : Int32) (g : SM) (hf : x_X8_part_b48 N y2 g = some res) (H : Heap) (locs : List Loc) (ls : Array Slot) (hP : va_P (zD v) vwCl (pM.1 v g) H) (hS : va_S (An nM v) s.heap H locs) (hl : lv_has ls 3 [(0, .ref (zA v 0)), (2, .int y2)]), W p l e rm_X8_part s m args below meth c H locs 0 0 Q (F0 m 48 ls []) := by
    intro y2 g hf H locs ls hP hS hl
    unfold x_X8_part_b48 at hf
    refine lv_aload_n hx hb dX8_part_48 rfl (lv_at hl 0 rfl) ?_
    refine va_get (D := zD v) (ci := 7) (v := .int (g.1 0 29)) (C := RX8) (T := TX8) (N := 55) hx hb hts iX8 hown hk.1 hP 0 rfl rfl 29 (by decide) (hts _ fl_X8_188) (fun _ h9 => h9) rfl dX8_part_49 ?_
    refine lv_if_ne (tgt := 59) hx hb dX8_part_52 (by decide) (fun c7 => ?_) (fun c7 => ?_)
    · have hf := ite_f c7 hf
      refine lv_iload_n hx hb dX8_part_59 rfl (lv_at hl 1 rfl) ?_
      exact hret _ _ _ _ _ _ (Or.inl rfl) (Option.some.inj hf) hP hS dX8_part_60
    · have hf := ite_t c7 hf
      refine lv_aload_n hx hb dX8_part_55 rfl (lv_at hl 0 rfl) ?_
      obtain ⟨q8, eq8, hf⟩ := bd_e hf
      refine zkv hS (zrV (As := []) (rest := []) okM hx hb hml hown hts hk hP hS (t_X8_next l v N g _ eq8) vk_X8_next ml_X8_205 rfl rfl ⟨(Nat.le_of_ble_eq_true rfl), (Nat.le_of_ble_eq_true rfl)⟩ (va_recv (q := (RX8, TX8, 55)) hk.1 hP (q0 := 0) (ci := 7) rfl rfl) rfl hl.1 rfl (Nat.le_of_ble_eq_true rfl) dX8_part_56) (fun H locs hP hS => ?_)
      refine lv_iload_n hx hb dX8_part_59 rfl (lv_at hl 1 rfl) ?_
      exact hret _ _ _ _ _ _ (Or.inl rfl) (Option.some.inj hf) hP hS dX8_part_60
  have wb34 : ∀ (t0 : Int32) (g : SM) (hf : x_X8_part_b34 N t0 g = some res) (H : Heap) (locs : List Loc) (ls : Array Slot) (hP : va_P (zD v) vwCl (pM.1 v g) H) (hS : va_S (An nM v) s.heap H locs) (hl : lv_has ls 3 [(0, .ref (zA v 0))]), W p l e rm_X8_part s m args below meth c H locs 0 0 Q (F0 m 34 ls [.int t0]) := by
    intro t0 g hf H locs ls hP hS hl
    unfold x_X8_part_b34 at hf
    refine lv_istore_n (lv' := [(2, .int t0), (0, .ref (zA v 0))]) hx hb dX8_part_34 rfl hl (by decide) rfl (fun ls hl => ?_)
    refine lv_aload_n hx hb dX8_part_35 rfl (lv_at hl 1 rfl) ?_
    refine lv_bipush (v := 59) hx hb dX8_part_36 kB_59 ?_
    obtain ⟨q5, eq5, hf⟩ := bd_e hf
    refine zki hS (zrV (As := [.int (59 : Int32)]) (rest := []) okM hx hb hml hown hts hk hP hS (t_X8_isSign l v N (59 : Int32) g _ eq5) vk_X8_isSign ml_X8_230 rfl rfl ⟨(Nat.le_of_ble_eq_true rfl), (Nat.le_of_ble_eq_true rfl)⟩ (va_recv (q := (RX8, TX8, 55)) hk.1 hP (q0 := 0) (ci := 7) rfl rfl) rfl hl.1 rfl (Nat.le_of_ble_eq_true rfl) dX8_part_38) (fun H locs hP hS => ?_)
    refine lv_if_ne (tgt := 48) hx hb dX8_part_41 (by decide) (fun c6 => ?_) (fun c6 => ?_)
    · have hf := ite_f c6 hf
      exact wb48 t0 q5.2 hf _ _ _ hP hS (lv_sub hl [1, 0] rfl)
    · have hf := ite_t c6 hf
      refine lv_aload_n hx hb dX8_part_44 rfl (lv_at hl 1 rfl) ?_
      obtain ⟨q9, eq9, hf⟩ := bd_e hf
      refine zkv hS (zrV (As := []) (rest := []) okM hx hb hml hown hts hk hP hS (t_X8_fail l v N q5.2 _ eq9) vk_X8_fail ml_X8_202 rfl rfl ⟨(Nat.le_of_ble_eq_true rfl), (Nat.le_of_ble_eq_true rfl)⟩ (va_recv (q := (RX8, TX8, 55)) hk.1 hP (q0 := 0) (ci := 7) rfl rfl) rfl hl.1 rfl (Nat.le_of_ble_eq_true rfl) dX8_part_45) (fun H locs hP hS => ?_)
      exact wb48 t0 q9 hf _ _ _ hP hS (lv_sub hl [1, 0] rfl)
  have wb19 : ∀ (g : SM) (hf : x_X8_part_b19 N g = some res) (H : Heap) (locs : List Loc) (ls : Array Slot) (hP : va_P (zD v) vwCl (pM.1 v g) H) (hS : va_S (An nM v) s.heap H locs) (hl : lv_has ls 3 [(0, .ref (zA v 0))]), W p l e rm_X8_part s m args below meth c H locs 0 0 Q (F0 m 19 ls []) := by
    intro g hf H locs ls hP hS hl
    unfold x_X8_part_b19 at hf
    refine lv_aload_n hx hb dX8_part_19 rfl (lv_at hl 0 rfl) ?_
    refine va_get (D := zD v) (ci := 7) (v := .int (g.1 0 29)) (C := RX8) (T := TX8) (N := 55) hx hb hts iX8 hown hk.1 hP 0 rfl rfl 29 (by decide) (hts _ fl_X8_188) (fun _ h9 => h9) rfl dX8_part_20 ?_
    refine lv_if_eq (tgt := 30) hx hb dX8_part_23 (by decide) (fun c3 => ?_) (fun c3 => ?_)
    · have hf := ite_t c3 hf
      refine lv_aload_n hx hb dX8_part_30 rfl (lv_at hl 0 rfl) ?_
      obtain ⟨q4, eq4, hf⟩ := bd_e hf
      refine zki hS (zrV (As := []) (rest := []) okM hx hb hml hown hts hk hP hS (tg_X8_either l v N 60 g _ eq4) vk_X8_either ml_X8_241 rfl rfl ⟨(Nat.le_of_ble_eq_true rfl), (Nat.le_of_ble_eq_true rfl)⟩ (va_recv (q := (RX8, TX8, 55)) hk.1 hP (q0 := 0) (ci := 7) rfl rfl) rfl hl.1 rfl (Nat.le_of_ble_eq_true rfl) dX8_part_31) (fun H locs hP hS => ?_)
      exact wb34 q4.1 q4.2 hf _ _ _ hP hS (lv_sub hl [0] rfl)
    · have hf := ite_f c3 hf
      refine lv_iconst (v := 0) hx hb dX8_part_26 kI_0 ?_
      refine lv_goto (tgt := 34) hx hb dX8_part_27 (by decide) ?_
      exact wb34 (0 : Int32) g hf _ _ _ hP hS (lv_sub hl [0] rfl)
  have wb8 : ∀ (g : SM) (hf : x_X8_part_b8 N g = some res) (H : Heap) (locs : List Loc) (ls : Array Slot) (hP : va_P (zD v) vwCl (pM.1 v g) H) (hS : va_S (An nM v) s.heap H locs) (hl : lv_has ls 3 [(0, .ref (zA v 0))]), W p l e rm_X8_part s m args below meth c H locs 0 0 Q (F0 m 8 ls []) := by
    intro g hf H locs ls hP hS hl
    unfold x_X8_part_b8 at hf
    refine lv_aload_n hx hb dX8_part_8 rfl (lv_at hl 0 rfl) ?_
    refine va_get (D := zD v) (ci := 7) (v := .int (g.1 0 29)) (C := RX8) (T := TX8) (N := 55) hx hb hts iX8 hown hk.1 hP 0 rfl rfl 29 (by decide) (hts _ fl_X8_188) (fun _ h9 => h9) rfl dX8_part_9 ?_
    refine lv_if_ne (tgt := 19) hx hb dX8_part_12 (by decide) (fun c2 => ?_) (fun c2 => ?_)
    · have hf := ite_f c2 hf
      exact wb19 g hf _ _ _ hP hS (lv_sub hl [0] rfl)
    · have hf := ite_t c2 hf
      refine lv_aload_n hx hb dX8_part_15 rfl (lv_at hl 0 rfl) ?_
      obtain ⟨q10, eq10, hf⟩ := bd_e hf
      refine zkv hS (zrV (As := []) (rest := []) okM hx hb hml hown hts hk hP hS (t_X8_next l v N g _ eq10) vk_X8_next ml_X8_205 rfl rfl ⟨(Nat.le_of_ble_eq_true rfl), (Nat.le_of_ble_eq_true rfl)⟩ (va_recv (q := (RX8, TX8, 55)) hk.1 hP (q0 := 0) (ci := 7) rfl rfl) rfl hl.1 rfl (Nat.le_of_ble_eq_true rfl) dX8_part_16) (fun H locs hP hS => ?_)
      exact wb19 q10 hf _ _ _ hP hS (lv_sub hl [0] rfl)
  unfold x_X8_part at hf
  refine lv_iload_n hx hb dX8_part_0 rfl (lv_at hl 1 rfl) ?_
  refine lv_if_ne (tgt := 8) hx hb dX8_part_1 (by decide) (fun c1 => ?_) (fun c1 => ?_)
  · have hf := ite_f c1 hf
    exact wb8 g hf _ _ _ hP hS (lv_sub hl [0] rfl)
  · have hf := ite_t c1 hf
    refine lv_aload_n hx hb dX8_part_4 rfl (lv_at hl 0 rfl) ?_
    obtain ⟨q11, eq11, hf⟩ := bd_e hf
    refine zkv hS (zrV (As := []) (rest := []) okM hx hb hml hown hts hk hP hS (t_X8_fail l v N g _ eq11) vk_X8_fail ml_X8_202 rfl rfl ⟨(Nat.le_of_ble_eq_true rfl), (Nat.le_of_ble_eq_true rfl)⟩ (va_recv (q := (RX8, TX8, 55)) hk.1 hP (q0 := 0) (ci := 7) rfl rfl) rfl hl.1 rfl (Nat.le_of_ble_eq_true rfl) dX8_part_5) (fun H locs hP hS => ?_)
    exact wb8 q11 hf _ _ _ hP hS (lv_sub hl [0] rfl)
abbrev rm_X8_read : Room := { frames := 70, cells := 0, slots := 0, locals := 4444 }
set_option maxRecDepth 100000 in
theorem t_X8_read (l : Launch) (v : Ev) (N : Nat) (a1 : Int32) (a2 : Int32) (g : SM) (res : Int32 × SM) (hf : x_X8_read N a1 a2 g = some res) : Ci l yX8_read cX8_read 6 .int rm_X8_read pM v [.ref (zA v 0), .int a1, .int a2] g res := by
  refine ze_i (by decide +kernel) (Nat.le_of_ble_eq_true rfl) ?_
  intro p e s m args below meth c Q ls hcx hret hP hl
  obtain ⟨hx, hb, hml, hown, hts, hk⟩ := hcx
  have hown : s.vm.findClass RX8 = some m.cls := hown
  have hS : va_S (An nM v) s.heap s.heap [] := va_S.rf
  have hl : lv_has ls 6 [(0, .ref (zA v 0)), (1, .int a1), (2, .int a2)] := hl
  have wb146 : ∀ (y2 : Int32) (y3 : Int32) (y4 : Int32) (y5 : Int32) (g : SM) (hf : x_X8_read_b146 N y2 y3 y4 y5 g = some res) (H : Heap) (locs : List Loc) (ls : Array Slot) (hP : va_P (zD v) vwCl (pM.1 v g) H) (hS : va_S (An nM v) s.heap H locs) (hl : lv_has ls 6 [(2, .int y2), (3, .int y3), (4, .int y4), (5, .int y5)]), W p l e rm_X8_read s m args below meth c H locs 0 0 Q (F0 m 146 ls []) := by
    intro y2 y3 y4 y5 g hf H locs ls hP hS hl
    unfold x_X8_read_b146 at hf
    refine lv_iload_n hx hb dX8_read_146 rfl (lv_at hl 0 rfl) ?_
    refine lv_if_ne (tgt := 154) hx hb dX8_read_147 (by decide) (fun c17 => ?_) (fun c17 => ?_)
    · have hf := ite_f c17 hf
      refine lv_iload_n hx hb dX8_read_154 rfl (lv_at hl 0 rfl) ?_
      refine lv_iconst (v := 1) hx hb dX8_read_155 kI_1 ?_
      refine lv_icmp_ne (tgt := 164) hx hb dX8_read_156 (by decide) (fun c18 => ?_) (fun c18 => ?_)
      · have hf := ite_f c18 hf
        refine lv_iload hx hb dX8_read_164 (lv_at hl 3 rfl) ?_
        exact hret _ _ _ _ _ _ (Or.inl rfl) (Option.some.inj hf) hP hS dX8_read_166
      · have hf := ite_t c18 hf
        refine lv_iload hx hb dX8_read_159 (lv_at hl 2 rfl) ?_
        refine lv_goto (tgt := 166) hx hb dX8_read_161 (by decide) ?_
        exact hret _ _ _ _ _ _ (Or.inl rfl) (Option.some.inj hf) hP hS dX8_read_166
    · have hf := ite_t c17 hf
      refine lv_iload_n hx hb dX8_read_150 rfl (lv_at hl 1 rfl) ?_
      refine lv_goto (tgt := 166) hx hb dX8_read_151 (by decide) ?_
      exact hret _ _ _ _ _ _ (Or.inl rfl) (Option.some.inj hf) hP hS dX8_read_166
  have wb126 : ∀ (y2 : Int32) (y3 : Int32) (y4 : Int32) (t0 : Int32) (g : SM) (hf : x_X8_read_b126 N y2 y3 y4 t0 g = some res) (H : Heap) (locs : List Loc) (ls : Array Slot) (hP : va_P (zD v) vwCl (pM.1 v g) H) (hS : va_S (An nM v) s.heap H locs) (hl : lv_has ls 6 [(0, .ref (zA v 0)), (2, .int y2), (3, .int y3), (4, .int y4)]), W p l e rm_X8_read s m args below meth c H locs 0 0 Q (F0 m 126 ls [.int t0]) := by
    intro y2 y3 y4 t0 g hf H locs ls hP hS hl
    unfold x_X8_read_b126 at hf
    refine lv_istore (lv' := [(5, .int t0), (0, .ref (zA v 0)), (2, .int y2), (3, .int y3), (4, .int y4)]) hx hb dX8_read_126 hl (by decide) rfl (fun ls hl => ?_)
    refine lv_aload_n hx hb dX8_read_128 rfl (lv_at hl 1 rfl) ?_
    refine va_get (D := zD v) (ci := 7) (v := .int (g.1 0 29)) (C := RX8) (T := TX8) (N := 55) hx hb hts iX8 hown hk.1 hP 0 rfl rfl 29 (by decide) (hts _ fl_X8_188) (fun _ h9 => h9) rfl dX8_read_129 ?_
    refine lv_if_ne (tgt := 146) hx hb dX8_read_132 (by decide) (fun c16 => ?_) (fun c16 => ?_)
    · have hf := ite_f c16 hf
      exact wb146 y2 y3 y4 t0 g hf _ _ _ hP hS (lv_sub hl [2, 3, 4, 0] rfl)
    · have hf := ite_t c16 hf
      refine lv_aload_n hx hb dX8_read_135 rfl (lv_at hl 1 rfl) ?_
      refine va_get (D := zD v) (ci := 7) (v := .int (g.1 0 25)) (C := RX8) (T := TX8) (N := 55) hx hb hts iX8 hown hk.1 hP 0 rfl rfl 25 (by decide) (hts _ fl_X8_171) (fun _ h9 => h9) rfl dX8_read_136 ?_
      refine lv_if_eq (tgt := 146) hx hb dX8_read_139 (by decide) (fun c19 => ?_) (fun c19 => ?_)
      · have hf := ite_t c19 hf
        exact wb146 y2 y3 y4 t0 g hf _ _ _ hP hS (lv_sub hl [2, 3, 4, 0] rfl)
      · have hf := ite_f c19 hf
        refine lv_aload_n hx hb dX8_read_142 rfl (lv_at hl 1 rfl) ?_
        obtain ⟨q20, eq20, hf⟩ := bd_e hf
        refine zkv hS (zrV (As := []) (rest := []) okM hx hb hml hown hts hk hP hS (t_X8_fail l v N g _ eq20) vk_X8_fail ml_X8_202 rfl rfl ⟨(Nat.le_of_ble_eq_true rfl), (Nat.le_of_ble_eq_true rfl)⟩ (va_recv (q := (RX8, TX8, 55)) hk.1 hP (q0 := 0) (ci := 7) rfl rfl) rfl hl.1 rfl (Nat.le_of_ble_eq_true rfl) dX8_read_143) (fun H locs hP hS => ?_)
        exact wb146 y2 y3 y4 t0 q20 hf _ _ _ hP hS (lv_sub hl [2, 3, 4, 0] rfl)
  have wb92 : ∀ (y2 : Int32) (y3 : Int32) (t0 : Int32) (g : SM) (hf : x_X8_read_b92 N y2 y3 t0 g = some res) (H : Heap) (locs : List Loc) (ls : Array Slot) (hP : va_P (zD v) vwCl (pM.1 v g) H) (hS : va_S (An nM v) s.heap H locs) (hl : lv_has ls 6 [(0, .ref (zA v 0)), (2, .int y2), (3, .int y3)]), W p l e rm_X8_read s m args below meth c H locs 0 0 Q (F0 m 92 ls [.int t0]) := by
    intro y2 y3 t0 g hf H locs ls hP hS hl
    unfold x_X8_read_b92 at hf
    refine lv_istore (lv' := [(4, .int t0), (0, .ref (zA v 0)), (2, .int y2), (3, .int y3)]) hx hb dX8_read_92 hl (by decide) rfl (fun ls hl => ?_)
    refine lv_aload_n hx hb dX8_read_94 rfl (lv_at hl 1 rfl) ?_
    refine va_get (D := zD v) (ci := 7) (v := .int (g.1 0 29)) (C := RX8) (T := TX8) (N := 55) hx hb hts iX8 hown hk.1 hP 0 rfl rfl 29 (by decide) (hts _ fl_X8_188) (fun _ h9 => h9) rfl dX8_read_95 ?_
    refine lv_if_eq (tgt := 105) hx hb dX8_read_98 (by decide) (fun c13 => ?_) (fun c13 => ?_)
    · have hf := ite_t c13 hf
      refine lv_aload_n hx hb dX8_read_105 rfl (lv_at hl 1 rfl) ?_
      refine lv_aload_n hx hb dX8_read_106 rfl (lv_at hl 1 rfl) ?_
      refine lv_bipush (v := 112) hx hb dX8_read_107 kB_112 ?_
      refine lv_bipush (v := 114) hx hb dX8_read_109 kB_114 ?_
      refine lv_bipush (v := 105) hx hb dX8_read_111 kB_105 ?_
      refine lv_bipush (v := 99) hx hb dX8_read_113 kB_99 ?_
      refine lv_bipush (v := 101) hx hb dX8_read_115 kB_101 ?_
      refine lv_iconst (v := 0) hx hb dX8_read_117 kI_0 ?_
      refine lv_iconst (v := 0) hx hb dX8_read_118 kI_0 ?_
      refine lv_iconst (v := 0) hx hb dX8_read_119 kI_0 ?_
      obtain ⟨q14, eq14, hf⟩ := bd_e hf
      refine zki hS (zrV (As := [.int (112 : Int32), .int (114 : Int32), .int (105 : Int32), .int (99 : Int32), .int (101 : Int32), .int (0 : Int32), .int (0 : Int32), .int (0 : Int32)]) (rest := [.ref (zA v 0)]) okM hx hb hml hown hts hk hP hS (t_X8_isWord l v N (112 : Int32) (114 : Int32) (105 : Int32) (99 : Int32) (101 : Int32) (0 : Int32) (0 : Int32) (0 : Int32) g _ eq14) vk_X8_isWord ml_X8_208 rfl rfl ⟨(Nat.le_of_ble_eq_true rfl), (Nat.le_of_ble_eq_true rfl)⟩ (va_recv (q := (RX8, TX8, 55)) hk.1 hP (q0 := 0) (ci := 7) rfl rfl) rfl hl.1 rfl (Nat.le_of_ble_eq_true rfl) dX8_read_120) (fun H locs hP hS => ?_)
      obtain ⟨q15, eq15, hf⟩ := bd_e hf
      refine zki hS (zrV (As := [.int q14.1]) (rest := []) okM hx hb hml hown hts hk hP hS (t_X8_part l v N q14.1 q14.2 _ eq15) vk_X8_part ml_X8_263 rfl rfl ⟨(Nat.le_of_ble_eq_true rfl), (Nat.le_of_ble_eq_true rfl)⟩ (va_recv (q := (RX8, TX8, 55)) hk.1 hP (q0 := 0) (ci := 7) rfl rfl) rfl hl.1 rfl (Nat.le_of_ble_eq_true rfl) dX8_read_123) (fun H locs hP hS => ?_)
      exact wb126 y2 y3 t0 q15.1 q15.2 hf _ _ _ hP hS (lv_sub hl [1, 2, 3, 0] rfl)
    · have hf := ite_f c13 hf
      refine lv_iconst (v := 0) hx hb dX8_read_101 kI_0 ?_
      refine lv_goto (tgt := 126) hx hb dX8_read_102 (by decide) ?_
      exact wb126 y2 y3 t0 (0 : Int32) g hf _ _ _ hP hS (lv_sub hl [1, 2, 3, 0] rfl)
  unfold x_X8_read at hf
  refine lv_aload_n hx hb dX8_read_0 rfl (lv_at hl 0 rfl) ?_
  refine lv_sipush (v := 160) hx hb dX8_read_1 kS_160 ?_
  refine lv_iload_n hx hb dX8_read_4 rfl (lv_at hl 1 rfl) ?_
  refine lv_imul hx hb dX8_read_5 ?_
  refine va_put (D := zD v) (ci := 7) (v := .int ((160 : Int32) * a1)) (ty := .int) (C := RX8) (T := TX8) (N := 55) hx hb hts iX8 tyX8 tyX8_ok nmX8 hown hk.1 hP (zw_D okM hk _) hS 0 rfl rfl 22 (by decide) (hts _ fl_X8_159) (fun _ h9 => h9) rfl pd_I rfl rfl (Nat.le_of_ble_eq_true rfl) dX8_read_6 (fun H locs hP1 _ hS => ?_)
  have hP : va_P (zD v) vwCl (pM.1 v (up g.1 0 (upd (g.1 0) 22 ((160 : Int32) * a1)), g.2)) H := hP1
  obtain ⟨g1, eg1, hf⟩ := lt_e hf
  rw [← eg1] at hP
  refine lv_aload_n hx hb dX8_read_9 rfl (lv_at hl 0 rfl) ?_
  refine lv_aload_n hx hb dX8_read_10 rfl (lv_at hl 0 rfl) ?_
  refine va_get (D := zD v) (ci := 7) (v := .ref (zA v 2)) (C := RX8) (T := TX8) (N := 55) hx hb hts iX8 hown hk.1 hP 0 rfl rfl 2 (by decide) (hts _ fl_X8_17) (fun _ h9 => h9) rfl dX8_read_11 ?_
  refine lv_iload_n hx hb dX8_read_14 rfl (lv_at hl 1 rfl) ?_
  obtain ⟨c2, hf⟩ := gd_e hf
  refine va_iald hx hb hk.1 hP 2 0 rfl rfl (inb_in c2) dX8_read_15 ?_
  refine va_put (D := zD v) (ci := 7) (v := .int (g1.1 2 (a1).toNatClampNeg)) (ty := .int) (C := RX8) (T := TX8) (N := 55) hx hb hts iX8 tyX8 tyX8_ok nmX8 hown hk.1 hP (zw_D okM hk _) hS 0 rfl rfl 23 (by decide) (hts _ fl_X8_156) (fun _ h9 => h9) rfl pd_I rfl rfl (Nat.le_of_ble_eq_true rfl) dX8_read_16 (fun H locs hP1 _ hS => ?_)
  have hP : va_P (zD v) vwCl (pM.1 v (up g1.1 0 (upd (g1.1 0) 23 (g1.1 2 (a1).toNatClampNeg)), g1.2)) H := hP1
  obtain ⟨g3, eg3, hf⟩ := lt_e hf
  rw [← eg3] at hP
  refine lv_aload_n hx hb dX8_read_19 rfl (lv_at hl 0 rfl) ?_
  refine lv_iconst (v := 0) hx hb dX8_read_20 kI_0 ?_
  refine va_put (D := zD v) (ci := 7) (v := .int (0 : Int32)) (ty := .int) (C := RX8) (T := TX8) (N := 55) hx hb hts iX8 tyX8 tyX8_ok nmX8 hown hk.1 hP (zw_D okM hk _) hS 0 rfl rfl 24 (by decide) (hts _ fl_X8_162) (fun _ h9 => h9) rfl pd_I rfl rfl (Nat.le_of_ble_eq_true rfl) dX8_read_21 (fun H locs hP1 _ hS => ?_)
  have hP : va_P (zD v) vwCl (pM.1 v (up g3.1 0 (upd (g3.1 0) 24 (0 : Int32)), g3.2)) H := hP1
  obtain ⟨g4, eg4, hf⟩ := lt_e hf
  rw [← eg4] at hP
  refine lv_aload_n hx hb dX8_read_24 rfl (lv_at hl 0 rfl) ?_
  refine lv_iconst (v := 0) hx hb dX8_read_25 kI_0 ?_
  refine va_put (D := zD v) (ci := 7) (v := .int (0 : Int32)) (ty := .int) (C := RX8) (T := TX8) (N := 55) hx hb hts iX8 tyX8 tyX8_ok nmX8 hown hk.1 hP (zw_D okM hk _) hS 0 rfl rfl 28 (by decide) (hts _ fl_X8_199) (fun _ h9 => h9) rfl pd_I rfl rfl (Nat.le_of_ble_eq_true rfl) dX8_read_26 (fun H locs hP1 _ hS => ?_)
  have hP : va_P (zD v) vwCl (pM.1 v (up g4.1 0 (upd (g4.1 0) 28 (0 : Int32)), g4.2)) H := hP1
  obtain ⟨g5, eg5, hf⟩ := lt_e hf
  rw [← eg5] at hP
  refine lv_aload_n hx hb dX8_read_29 rfl (lv_at hl 0 rfl) ?_
  refine lv_iconst (v := 0) hx hb dX8_read_30 kI_0 ?_
  refine va_put (D := zD v) (ci := 7) (v := .int (0 : Int32)) (ty := .boolean) (C := RX8) (T := TX8) (N := 55) hx hb hts iX8 tyX8 tyX8_ok nmX8 hown hk.1 hP (zw_D okM hk _) hS 0 rfl rfl 29 (by decide) (hts _ fl_X8_188) (fun _ h9 => h9) rfl pd_Z rfl rfl (Nat.le_of_ble_eq_true rfl) dX8_read_31 (fun H locs hP1 _ hS => ?_)
  have hP : va_P (zD v) vwCl (pM.1 v (up g5.1 0 (upd (g5.1 0) 29 (0 : Int32)), g5.2)) H := hP1
  obtain ⟨g6, eg6, hf⟩ := lt_e hf
  rw [← eg6] at hP
  refine lv_aload_n hx hb dX8_read_34 rfl (lv_at hl 0 rfl) ?_
  obtain ⟨q7, eq7, hf⟩ := bd_e hf
  refine zkv hS (zrV (As := []) (rest := []) okM hx hb hml hown hts hk hP hS (t_X8_next l v N g6 _ eq7) vk_X8_next ml_X8_205 rfl rfl ⟨(Nat.le_of_ble_eq_true rfl), (Nat.le_of_ble_eq_true rfl)⟩ (va_recv (q := (RX8, TX8, 55)) hk.1 hP (q0 := 0) (ci := 7) rfl rfl) rfl hl.1 rfl (Nat.le_of_ble_eq_true rfl) dX8_read_35) (fun H locs hP hS => ?_)
  refine lv_aload_n hx hb dX8_read_38 rfl (lv_at hl 0 rfl) ?_
  refine lv_aload_n hx hb dX8_read_39 rfl (lv_at hl 0 rfl) ?_
  refine lv_bipush (v := 115) hx hb dX8_read_40 kB_115 ?_
  refine lv_bipush (v := 119) hx hb dX8_read_42 kB_119 ?_
  refine lv_bipush (v := 101) hx hb dX8_read_44 kB_101 ?_
  refine lv_bipush (v := 108) hx hb dX8_read_46 kB_108 ?_
  refine lv_bipush (v := 108) hx hb dX8_read_48 kB_108 ?_
  refine lv_bipush (v := 115) hx hb dX8_read_50 kB_115 ?_
  refine lv_iconst (v := 0) hx hb dX8_read_52 kI_0 ?_
  refine lv_iconst (v := 0) hx hb dX8_read_53 kI_0 ?_
  obtain ⟨q8, eq8, hf⟩ := bd_e hf
  refine zki hS (zrV (As := [.int (115 : Int32), .int (119 : Int32), .int (101 : Int32), .int (108 : Int32), .int (108 : Int32), .int (115 : Int32), .int (0 : Int32), .int (0 : Int32)]) (rest := [.ref (zA v 0)]) okM hx hb hml hown hts hk hP hS (t_X8_isWord l v N (115 : Int32) (119 : Int32) (101 : Int32) (108 : Int32) (108 : Int32) (115 : Int32) (0 : Int32) (0 : Int32) q7 _ eq8) vk_X8_isWord ml_X8_208 rfl rfl ⟨(Nat.le_of_ble_eq_true rfl), (Nat.le_of_ble_eq_true rfl)⟩ (va_recv (q := (RX8, TX8, 55)) hk.1 hP (q0 := 0) (ci := 7) rfl rfl) rfl hl.1 rfl (Nat.le_of_ble_eq_true rfl) dX8_read_54) (fun H locs hP hS => ?_)
  obtain ⟨q9, eq9, hf⟩ := bd_e hf
  refine zki hS (zrV (As := [.int q8.1]) (rest := []) okM hx hb hml hown hts hk hP hS (t_X8_part l v N q8.1 q8.2 _ eq9) vk_X8_part ml_X8_263 rfl rfl ⟨(Nat.le_of_ble_eq_true rfl), (Nat.le_of_ble_eq_true rfl)⟩ (va_recv (q := (RX8, TX8, 55)) hk.1 hP (q0 := 0) (ci := 7) rfl rfl) rfl hl.1 rfl (Nat.le_of_ble_eq_true rfl) dX8_read_57) (fun H locs hP hS => ?_)
  refine lv_istore_n (lv' := [(3, .int q9.1), (0, .ref (zA v 0)), (1, .int a1), (2, .int a2)]) hx hb dX8_read_60 rfl hl (by decide) rfl (fun ls hl => ?_)
  refine lv_aload_n hx hb dX8_read_61 rfl (lv_at hl 1 rfl) ?_
  refine va_get (D := zD v) (ci := 7) (v := .int (q9.2.1 0 29)) (C := RX8) (T := TX8) (N := 55) hx hb hts iX8 hown hk.1 hP 0 rfl rfl 29 (by decide) (hts _ fl_X8_188) (fun _ h9 => h9) rfl dX8_read_62 ?_
  refine lv_if_eq (tgt := 72) hx hb dX8_read_65 (by decide) (fun c10 => ?_) (fun c10 => ?_)
  · have hf := ite_t c10 hf
    refine lv_aload_n hx hb dX8_read_72 rfl (lv_at hl 1 rfl) ?_
    refine lv_aload_n hx hb dX8_read_73 rfl (lv_at hl 1 rfl) ?_
    refine lv_bipush (v := 114) hx hb dX8_read_74 kB_114 ?_
    refine lv_bipush (v := 117) hx hb dX8_read_76 kB_117 ?_
    refine lv_bipush (v := 98) hx hb dX8_read_78 kB_98 ?_
    refine lv_bipush (v := 115) hx hb dX8_read_80 kB_115 ?_
    refine lv_iconst (v := 0) hx hb dX8_read_82 kI_0 ?_
    refine lv_iconst (v := 0) hx hb dX8_read_83 kI_0 ?_
    refine lv_iconst (v := 0) hx hb dX8_read_84 kI_0 ?_
    refine lv_iconst (v := 0) hx hb dX8_read_85 kI_0 ?_
    obtain ⟨q11, eq11, hf⟩ := bd_e hf
    refine zki hS (zrV (As := [.int (114 : Int32), .int (117 : Int32), .int (98 : Int32), .int (115 : Int32), .int (0 : Int32), .int (0 : Int32), .int (0 : Int32), .int (0 : Int32)]) (rest := [.ref (zA v 0)]) okM hx hb hml hown hts hk hP hS (t_X8_isWord l v N (114 : Int32) (117 : Int32) (98 : Int32) (115 : Int32) (0 : Int32) (0 : Int32) (0 : Int32) (0 : Int32) q9.2 _ eq11) vk_X8_isWord ml_X8_208 rfl rfl ⟨(Nat.le_of_ble_eq_true rfl), (Nat.le_of_ble_eq_true rfl)⟩ (va_recv (q := (RX8, TX8, 55)) hk.1 hP (q0 := 0) (ci := 7) rfl rfl) rfl hl.1 rfl (Nat.le_of_ble_eq_true rfl) dX8_read_86) (fun H locs hP hS => ?_)
    obtain ⟨q12, eq12, hf⟩ := bd_e hf
    refine zki hS (zrV (As := [.int q11.1]) (rest := []) okM hx hb hml hown hts hk hP hS (t_X8_part l v N q11.1 q11.2 _ eq12) vk_X8_part ml_X8_263 rfl rfl ⟨(Nat.le_of_ble_eq_true rfl), (Nat.le_of_ble_eq_true rfl)⟩ (va_recv (q := (RX8, TX8, 55)) hk.1 hP (q0 := 0) (ci := 7) rfl rfl) rfl hl.1 rfl (Nat.le_of_ble_eq_true rfl) dX8_read_89) (fun H locs hP hS => ?_)
    exact wb92 a2 q9.1 q12.1 q12.2 hf _ _ _ hP hS (lv_sub hl [1, 3, 0] rfl)
  · have hf := ite_f c10 hf
    refine lv_iconst (v := 0) hx hb dX8_read_68 kI_0 ?_
    refine lv_goto (tgt := 92) hx hb dX8_read_69 (by decide) ?_
    exact wb92 a2 q9.1 (0 : Int32) q9.2 hf _ _ _ hP hS (lv_sub hl [1, 3, 0] rfl)
abbrev rm_X8_footNow : Room := { frames := 71, cells := 0, slots := 0, locals := 4469 }
set_option maxRecDepth 100000 in
theorem t_X8_footNow (l : Launch) (v : Ev) (N : Nat) (a1 : Int32) (g : SM) (res : Int32 × SM) (hf : x_X8_footNow N a1 g = some res) : Ci l yX8_footNow cX8_footNow 3 .int rm_X8_footNow pM v [.ref (zA v 0), .int a1] g res := by
  refine ze_i (by decide +kernel) (Nat.le_of_ble_eq_true rfl) ?_
  intro p e s m args below meth c Q ls hcx hret hP hl
  obtain ⟨hx, hb, hml, hown, hts, hk⟩ := hcx
  have hown : s.vm.findClass RX8 = some m.cls := hown
  have hS : va_S (An nM v) s.heap s.heap [] := va_S.rf
  have hl : lv_has ls 3 [(0, .ref (zA v 0)), (1, .int a1)] := hl
  have wb48 : ∀ (t0 : Int32) (g : SM) (hf : x_X8_footNow_b48 N t0 g = some res) (H : Heap) (locs : List Loc) (ls : Array Slot) (hP : va_P (zD v) vwCl (pM.1 v g) H) (hS : va_S (An nM v) s.heap H locs) (hl : lv_has ls 3 [(0, .ref (zA v 0))]), W p l e rm_X8_footNow s m args below meth c H locs 0 0 Q (F0 m 48 ls [.int t0]) := by
    intro t0 g hf H locs ls hP hS hl
    unfold x_X8_footNow_b48 at hf
    refine lv_aload_n hx hb dX8_footNow_48 rfl (lv_at hl 0 rfl) ?_
    refine lv_aload_n hx hb dX8_footNow_49 rfl (lv_at hl 0 rfl) ?_
    refine va_get (D := zD v) (ci := 7) (v := .int (g.1 0 4)) (C := RX8) (T := TX8) (N := 55) hx hb hts iX8 hown hk.1 hP 0 rfl rfl 4 (by decide) (hts _ fl_X8_270) (fun _ h9 => h9) rfl dX8_footNow_50 ?_
    refine lv_iconst (v := 0) hx hb dX8_footNow_53 kI_0 ?_
    obtain ⟨q8, eq8, hf⟩ := bd_e hf
    refine zki hS (zrV (As := [.int (g.1 0 4), .int (0 : Int32)]) (rest := [.int t0]) okM hx hb hml hown hts hk hP hS (t_X8_read l v N (g.1 0 4) (0 : Int32) g _ eq8) vk_X8_read ml_X8_267 rfl rfl ⟨(Nat.le_of_ble_eq_true rfl), (Nat.le_of_ble_eq_true rfl)⟩ (va_recv (q := (RX8, TX8, 55)) hk.1 hP (q0 := 0) (ci := 7) rfl rfl) rfl hl.1 rfl (Nat.le_of_ble_eq_true rfl) dX8_footNow_54) (fun H locs hP hS => ?_)
    refine lv_iconst (v := 0) hx hb dX8_footNow_57 kI_0 ?_
    refine lv_bipush (v := 20) hx hb dX8_footNow_58 kB_20 ?_
    obtain ⟨q9, eq9, hf⟩ := bd_e hf
    refine zki hS (zrS (As := [.int q8.1, .int (0 : Int32), .int (20 : Int32)]) (rest := [.int t0]) okM hx hb hml hown hts hk hP hS (t_X8_within l v N q8.1 (0 : Int32) (20 : Int32) q8.2 _ eq9) sk_X8_within ml_X8_273 rfl rfl ⟨(Nat.le_of_ble_eq_true rfl), (Nat.le_of_ble_eq_true rfl)⟩ rfl hl.1 rfl (Nat.le_of_ble_eq_true rfl) dX8_footNow_60) (fun H locs hP hS => ?_)
    refine lv_iadd hx hb dX8_footNow_63 ?_
    obtain ⟨x10, ex10, hf⟩ := lt_e hf
    refine lv_nm ex10 ?_
    refine lv_istore_n (lv' := [(2, .int x10), (0, .ref (zA v 0))]) hx hb dX8_footNow_64 rfl hl (by decide) rfl (fun ls hl => ?_)
    refine lv_iload_n hx hb dX8_footNow_65 rfl (lv_at hl 0 rfl) ?_
    refine lv_bipush (v := 99) hx hb dX8_footNow_66 kB_99 ?_
    refine lv_icmp_le (tgt := 76) hx hb dX8_footNow_68 (by decide) (fun c11 => ?_) (fun c11 => ?_)
    · have hf := ite_t c11 hf
      refine lv_iload_n hx hb dX8_footNow_76 rfl (lv_at hl 0 rfl) ?_
      exact hret _ _ _ _ _ _ (Or.inl rfl) (Option.some.inj hf) hP hS dX8_footNow_77
    · have hf := ite_f c11 hf
      refine lv_bipush (v := 99) hx hb dX8_footNow_71 kB_99 ?_
      refine lv_goto (tgt := 77) hx hb dX8_footNow_73 (by decide) ?_
      exact hret _ _ _ _ _ _ (Or.inl rfl) (Option.some.inj hf) hP hS dX8_footNow_77
  unfold x_X8_footNow at hf
  refine lv_aload_n hx hb dX8_footNow_0 rfl (lv_at hl 0 rfl) ?_
  refine lv_iconst (v := 0) hx hb dX8_footNow_1 kI_0 ?_
  refine va_put (D := zD v) (ci := 7) (v := .int (0 : Int32)) (ty := .int) (C := RX8) (T := TX8) (N := 55) hx hb hts iX8 tyX8 tyX8_ok nmX8 hown hk.1 hP (zw_D okM hk _) hS 0 rfl rfl 16 (by decide) (hts _ fl_X8_212) (fun _ h9 => h9) rfl pd_I rfl rfl (Nat.le_of_ble_eq_true rfl) dX8_footNow_2 (fun H locs hP1 _ hS => ?_)
  have hP : va_P (zD v) vwCl (pM.1 v (up g.1 0 (upd (g.1 0) 16 (0 : Int32)), g.2)) H := hP1
  obtain ⟨g1, eg1, hf⟩ := lt_e hf
  rw [← eg1] at hP
  refine lv_aload_n hx hb dX8_footNow_5 rfl (lv_at hl 0 rfl) ?_
  refine lv_iconst (v := 0) hx hb dX8_footNow_6 kI_0 ?_
  refine va_put (D := zD v) (ci := 7) (v := .int (0 : Int32)) (ty := .int) (C := RX8) (T := TX8) (N := 55) hx hb hts iX8 tyX8 tyX8_ok nmX8 hown hk.1 hP (zw_D okM hk _) hS 0 rfl rfl 17 (by decide) (hts _ fl_X8_215) (fun _ h9 => h9) rfl pd_I rfl rfl (Nat.le_of_ble_eq_true rfl) dX8_footNow_7 (fun H locs hP1 _ hS => ?_)
  have hP : va_P (zD v) vwCl (pM.1 v (up g1.1 0 (upd (g1.1 0) 17 (0 : Int32)), g1.2)) H := hP1
  obtain ⟨g2, eg2, hf⟩ := lt_e hf
  rw [← eg2] at hP
  refine lv_aload_n hx hb dX8_footNow_10 rfl (lv_at hl 0 rfl) ?_
  refine lv_iconst (v := 0) hx hb dX8_footNow_11 kI_0 ?_
  refine va_put (D := zD v) (ci := 7) (v := .int (0 : Int32)) (ty := .int) (C := RX8) (T := TX8) (N := 55) hx hb hts iX8 tyX8 tyX8_ok nmX8 hown hk.1 hP (zw_D okM hk _) hS 0 rfl rfl 18 (by decide) (hts _ fl_X8_218) (fun _ h9 => h9) rfl pd_I rfl rfl (Nat.le_of_ble_eq_true rfl) dX8_footNow_12 (fun H locs hP1 _ hS => ?_)
  have hP : va_P (zD v) vwCl (pM.1 v (up g2.1 0 (upd (g2.1 0) 18 (0 : Int32)), g2.2)) H := hP1
  obtain ⟨g3, eg3, hf⟩ := lt_e hf
  rw [← eg3] at hP
  refine lv_aload_n hx hb dX8_footNow_15 rfl (lv_at hl 0 rfl) ?_
  refine lv_iconst (v := 0) hx hb dX8_footNow_16 kI_0 ?_
  refine va_put (D := zD v) (ci := 7) (v := .int (0 : Int32)) (ty := .int) (C := RX8) (T := TX8) (N := 55) hx hb hts iX8 tyX8 tyX8_ok nmX8 hown hk.1 hP (zw_D okM hk _) hS 0 rfl rfl 19 (by decide) (hts _ fl_X8_221) (fun _ h9 => h9) rfl pd_I rfl rfl (Nat.le_of_ble_eq_true rfl) dX8_footNow_17 (fun H locs hP1 _ hS => ?_)
  have hP : va_P (zD v) vwCl (pM.1 v (up g3.1 0 (upd (g3.1 0) 19 (0 : Int32)), g3.2)) H := hP1
  obtain ⟨g4, eg4, hf⟩ := lt_e hf
  rw [← eg4] at hP
  refine lv_aload_n hx hb dX8_footNow_20 rfl (lv_at hl 0 rfl) ?_
  refine lv_iload_n hx hb dX8_footNow_21 rfl (lv_at hl 1 rfl) ?_
  refine va_put (D := zD v) (ci := 7) (v := .int a1) (ty := .int) (C := RX8) (T := TX8) (N := 55) hx hb hts iX8 tyX8 tyX8_ok nmX8 hown hk.1 hP (zw_D okM hk _) hS 0 rfl rfl 20 (by decide) (hts _ fl_X8_224) (fun _ h9 => h9) rfl pd_I rfl rfl (Nat.le_of_ble_eq_true rfl) dX8_footNow_22 (fun H locs hP1 _ hS => ?_)
  have hP : va_P (zD v) vwCl (pM.1 v (up g4.1 0 (upd (g4.1 0) 20 a1), g4.2)) H := hP1
  obtain ⟨g5, eg5, hf⟩ := lt_e hf
  rw [← eg5] at hP
  refine lv_aload_n hx hb dX8_footNow_25 rfl (lv_at hl 0 rfl) ?_
  refine lv_aload_n hx hb dX8_footNow_26 rfl (lv_at hl 0 rfl) ?_
  refine va_get (D := zD v) (ci := 7) (v := .int (g5.1 0 9)) (C := RX8) (T := TX8) (N := 55) hx hb hts iX8 hown hk.1 hP 0 rfl rfl 9 (by decide) (hts _ fl_X8_29) (fun _ h9 => h9) rfl dX8_footNow_27 ?_
  refine va_put (D := zD v) (ci := 7) (v := .int (g5.1 0 9)) (ty := .int) (C := RX8) (T := TX8) (N := 55) hx hb hts iX8 tyX8 tyX8_ok nmX8 hown hk.1 hP (zw_D okM hk _) hS 0 rfl rfl 21 (by decide) (hts _ fl_X8_227) (fun _ h9 => h9) rfl pd_I rfl rfl (Nat.le_of_ble_eq_true rfl) dX8_footNow_30 (fun H locs hP1 _ hS => ?_)
  have hP : va_P (zD v) vwCl (pM.1 v (up g5.1 0 (upd (g5.1 0) 21 (g5.1 0 9)), g5.2)) H := hP1
  obtain ⟨g6, eg6, hf⟩ := lt_e hf
  rw [← eg6] at hP
  refine lv_iload_n hx hb dX8_footNow_33 rfl (lv_at hl 1 rfl) ?_
  refine lv_if_ne (tgt := 44) hx hb dX8_footNow_34 (by decide) (fun c7 => ?_) (fun c7 => ?_)
  · have hf := ite_f c7 hf
    refine lv_aload_n hx hb dX8_footNow_44 rfl (lv_at hl 0 rfl) ?_
    refine va_get (D := zD v) (ci := 7) (v := .int (g6.1 0 8)) (C := RX8) (T := TX8) (N := 55) hx hb hts iX8 hown hk.1 hP 0 rfl rfl 8 (by decide) (hts _ fl_X8_26) (fun _ h9 => h9) rfl dX8_footNow_45 ?_
    exact wb48 (g6.1 0 8) g6 hf _ _ _ hP hS (lv_sub hl [0] rfl)
  · have hf := ite_t c7 hf
    refine lv_aload_n hx hb dX8_footNow_37 rfl (lv_at hl 0 rfl) ?_
    refine va_get (D := zD v) (ci := 7) (v := .int (g6.1 0 7)) (C := RX8) (T := TX8) (N := 55) hx hb hts iX8 hown hk.1 hP 0 rfl rfl 7 (by decide) (hts _ fl_X8_23) (fun _ h9 => h9) rfl dX8_footNow_38 ?_
    refine lv_goto (tgt := 48) hx hb dX8_footNow_41 (by decide) ?_
    exact wb48 (g6.1 0 7) g6 hf _ _ _ hP hS (lv_sub hl [0] rfl)
abbrev rm_X8_told : Room := { frames := 72, cells := 0, slots := 0, locals := 4491 }
set_option maxRecDepth 100000 in
theorem t_X8_told (l : Launch) (v : Ev) (N : Nat) (a1 : Int32) (a2 : Int32) (g : SM) (res : Int32 × SM) (hf : x_X8_told N a1 a2 g = some res) : Ci l yX8_told cX8_told 3 .int rm_X8_told pM v [.ref (zA v 0), .int a1, .int a2] g res := by
  refine ze_i (by decide +kernel) (Nat.le_of_ble_eq_true rfl) ?_
  intro p e s m args below meth c Q ls hcx hret hP hl
  obtain ⟨hx, hb, hml, hown, hts, hk⟩ := hcx
  have hown : s.vm.findClass RX8 = some m.cls := hown
  have hS : va_S (An nM v) s.heap s.heap [] := va_S.rf
  have hl : lv_has ls 3 [(0, .ref (zA v 0)), (1, .int a1), (2, .int a2)] := hl
  have wb49 : ∀ (y1 : Int32) (y2 : Int32) (g : SM) (hf : x_X8_told_b49 N y1 y2 g = some res) (H : Heap) (locs : List Loc) (ls : Array Slot) (hP : va_P (zD v) vwCl (pM.1 v g) H) (hS : va_S (An nM v) s.heap H locs) (hl : lv_has ls 3 [(0, .ref (zA v 0)), (1, .int y1), (2, .int y2)]), W p l e rm_X8_told s m args below meth c H locs 0 0 Q (F0 m 49 ls []) := by
    intro y1 y2 g hf H locs ls hP hS hl
    unfold x_X8_told_b49 at hf
    refine lv_iload_n hx hb dX8_told_49 rfl (lv_at hl 2 rfl) ?_
    refine lv_iconst (v := 4) hx hb dX8_told_50 kI_4 ?_
    refine lv_icmp_ge (tgt := 96) hx hb dX8_told_51 (by decide) (fun c6 => ?_) (fun c6 => ?_)
    · have hf := ite_t c6 hf
      refine lv_iload_n hx hb dX8_told_96 rfl (lv_at hl 2 rfl) ?_
      refine lv_bipush (v := 7) hx hb dX8_told_97 kB_7 ?_
      refine lv_icmp_le (tgt := 111) hx hb dX8_told_99 (by decide) (fun c7 => ?_) (fun c7 => ?_)
      · have hf := ite_t c7 hf
        refine lv_iload_n hx hb dX8_told_111 rfl (lv_at hl 2 rfl) ?_
        refine lv_iconst (v := 4) hx hb dX8_told_112 kI_4 ?_
        refine lv_icmp_ne (tgt := 125) hx hb dX8_told_113 (by decide) (fun c8 => ?_) (fun c8 => ?_)
        · have hf := ite_f c8 hf
          refine lv_iload_n hx hb dX8_told_125 rfl (lv_at hl 2 rfl) ?_
          refine lv_iconst (v := 5) hx hb dX8_told_126 kI_5 ?_
          refine lv_icmp_ne (tgt := 139) hx hb dX8_told_127 (by decide) (fun c9 => ?_) (fun c9 => ?_)
          · have hf := ite_f c9 hf
            refine lv_iload_n hx hb dX8_told_139 rfl (lv_at hl 2 rfl) ?_
            refine lv_bipush (v := 6) hx hb dX8_told_140 kB_6 ?_
            refine lv_icmp_ne (tgt := 154) hx hb dX8_told_142 (by decide) (fun c10 => ?_) (fun c10 => ?_)
            · have hf := ite_f c10 hf
              refine lv_aload_n hx hb dX8_told_154 rfl (lv_at hl 0 rfl) ?_
              refine va_get (D := zD v) (ci := 7) (v := .ref (zA v 5)) (C := RX8) (T := TX8) (N := 55) hx hb hts iX8 hown hk.1 hP 0 rfl rfl 11 (by decide) (hts _ fl_X8_35) (fun _ h9 => h9) rfl dX8_told_155 ?_
              refine lv_iload_n hx hb dX8_told_158 rfl (lv_at hl 1 rfl) ?_
              obtain ⟨c11, hf⟩ := gd_e hf
              refine va_iald hx hb hk.1 hP 5 0 rfl rfl (inb_in c11) dX8_told_159 ?_
              exact hret _ _ _ _ _ _ (Or.inl rfl) (Option.some.inj hf) hP hS dX8_told_160
            · have hf := ite_t c10 hf
              refine lv_aload_n hx hb dX8_told_145 rfl (lv_at hl 0 rfl) ?_
              refine va_get (D := zD v) (ci := 7) (v := .ref (zA v 8)) (C := RX8) (T := TX8) (N := 55) hx hb hts iX8 hown hk.1 hP 0 rfl rfl 14 (by decide) (hts _ fl_X8_44) (fun _ h9 => h9) rfl dX8_told_146 ?_
              refine lv_iload_n hx hb dX8_told_149 rfl (lv_at hl 1 rfl) ?_
              obtain ⟨c12, hf⟩ := gd_e hf
              refine va_iald hx hb hk.1 hP 8 0 rfl rfl (inb_in c12) dX8_told_150 ?_
              refine lv_goto (tgt := 160) hx hb dX8_told_151 (by decide) ?_
              exact hret _ _ _ _ _ _ (Or.inl rfl) (Option.some.inj hf) hP hS dX8_told_160
          · have hf := ite_t c9 hf
            refine lv_aload_n hx hb dX8_told_130 rfl (lv_at hl 0 rfl) ?_
            refine va_get (D := zD v) (ci := 7) (v := .ref (zA v 7)) (C := RX8) (T := TX8) (N := 55) hx hb hts iX8 hown hk.1 hP 0 rfl rfl 13 (by decide) (hts _ fl_X8_41) (fun _ h9 => h9) rfl dX8_told_131 ?_
            refine lv_iload_n hx hb dX8_told_134 rfl (lv_at hl 1 rfl) ?_
            obtain ⟨c13, hf⟩ := gd_e hf
            refine va_iald hx hb hk.1 hP 7 0 rfl rfl (inb_in c13) dX8_told_135 ?_
            refine lv_goto (tgt := 160) hx hb dX8_told_136 (by decide) ?_
            exact hret _ _ _ _ _ _ (Or.inl rfl) (Option.some.inj hf) hP hS dX8_told_160
        · have hf := ite_t c8 hf
          refine lv_aload_n hx hb dX8_told_116 rfl (lv_at hl 0 rfl) ?_
          refine va_get (D := zD v) (ci := 7) (v := .ref (zA v 6)) (C := RX8) (T := TX8) (N := 55) hx hb hts iX8 hown hk.1 hP 0 rfl rfl 12 (by decide) (hts _ fl_X8_38) (fun _ h9 => h9) rfl dX8_told_117 ?_
          refine lv_iload_n hx hb dX8_told_120 rfl (lv_at hl 1 rfl) ?_
          obtain ⟨c14, hf⟩ := gd_e hf
          refine va_iald hx hb hk.1 hP 6 0 rfl rfl (inb_in c14) dX8_told_121 ?_
          refine lv_goto (tgt := 160) hx hb dX8_told_122 (by decide) ?_
          exact hret _ _ _ _ _ _ (Or.inl rfl) (Option.some.inj hf) hP hS dX8_told_160
      · have hf := ite_f c7 hf
        refine lv_aload_n hx hb dX8_told_102 rfl (lv_at hl 0 rfl) ?_
        refine lv_iload_n hx hb dX8_told_103 rfl (lv_at hl 2 rfl) ?_
        refine lv_bipush (v := 8) hx hb dX8_told_104 kB_8 ?_
        refine lv_isub hx hb dX8_told_106 ?_
        obtain ⟨q15, eq15, hf⟩ := bd_e hf
        refine zki hS (zrV (As := [.int (y2 - (8 : Int32))]) (rest := []) okM hx hb hml hown hts hk hP hS (t_X8_footNow l v N (y2 - (8 : Int32)) g _ eq15) vk_X8_footNow ml_X8_135 rfl rfl ⟨(Nat.le_of_ble_eq_true rfl), (Nat.le_of_ble_eq_true rfl)⟩ (va_recv (q := (RX8, TX8, 55)) hk.1 hP (q0 := 0) (ci := 7) rfl rfl) rfl hl.1 rfl (Nat.le_of_ble_eq_true rfl) dX8_told_107) (fun H locs hP hS => ?_)
        exact hret _ _ _ _ _ _ (Or.inl rfl) (Option.some.inj hf) hP hS dX8_told_110
    · have hf := ite_f c6 hf
      refine lv_iload_n hx hb dX8_told_54 rfl (lv_at hl 2 rfl) ?_
      refine lv_if_ne (tgt := 65) hx hb dX8_told_55 (by decide) (fun c16 => ?_) (fun c16 => ?_)
      · have hf := ite_f c16 hf
        refine lv_iload_n hx hb dX8_told_65 rfl (lv_at hl 2 rfl) ?_
        refine lv_iconst (v := 1) hx hb dX8_told_66 kI_1 ?_
        refine lv_icmp_ne (tgt := 77) hx hb dX8_told_67 (by decide) (fun c17 => ?_) (fun c17 => ?_)
        · have hf := ite_f c17 hf
          refine lv_iload_n hx hb dX8_told_77 rfl (lv_at hl 2 rfl) ?_
          refine lv_iconst (v := 2) hx hb dX8_told_78 kI_2 ?_
          refine lv_icmp_ne (tgt := 89) hx hb dX8_told_79 (by decide) (fun c18 => ?_) (fun c18 => ?_)
          · have hf := ite_f c18 hf
            refine lv_aload_n hx hb dX8_told_89 rfl (lv_at hl 0 rfl) ?_
            refine va_get (D := zD v) (ci := 7) (v := .ref (zA v 4)) (C := RX8) (T := TX8) (N := 55) hx hb hts iX8 hown hk.1 hP 0 rfl rfl 10 (by decide) (hts _ fl_X8_32) (fun _ h9 => h9) rfl dX8_told_90 ?_
            refine lv_iload_n hx hb dX8_told_93 rfl (lv_at hl 1 rfl) ?_
            obtain ⟨c19, hf⟩ := gd_e hf
            refine va_iald hx hb hk.1 hP 4 0 rfl rfl (inb_in c19) dX8_told_94 ?_
            exact hret _ _ _ _ _ _ (Or.inl rfl) (Option.some.inj hf) hP hS dX8_told_95
          · have hf := ite_t c18 hf
            refine lv_aload_n hx hb dX8_told_82 rfl (lv_at hl 0 rfl) ?_
            refine va_get (D := zD v) (ci := 7) (v := .int (g.1 0 9)) (C := RX8) (T := TX8) (N := 55) hx hb hts iX8 hown hk.1 hP 0 rfl rfl 9 (by decide) (hts _ fl_X8_29) (fun _ h9 => h9) rfl dX8_told_83 ?_
            refine lv_goto (tgt := 95) hx hb dX8_told_86 (by decide) ?_
            exact hret _ _ _ _ _ _ (Or.inl rfl) (Option.some.inj hf) hP hS dX8_told_95
        · have hf := ite_t c17 hf
          refine lv_aload_n hx hb dX8_told_70 rfl (lv_at hl 0 rfl) ?_
          refine va_get (D := zD v) (ci := 7) (v := .int (g.1 0 8)) (C := RX8) (T := TX8) (N := 55) hx hb hts iX8 hown hk.1 hP 0 rfl rfl 8 (by decide) (hts _ fl_X8_26) (fun _ h9 => h9) rfl dX8_told_71 ?_
          refine lv_goto (tgt := 95) hx hb dX8_told_74 (by decide) ?_
          exact hret _ _ _ _ _ _ (Or.inl rfl) (Option.some.inj hf) hP hS dX8_told_95
      · have hf := ite_t c16 hf
        refine lv_aload_n hx hb dX8_told_58 rfl (lv_at hl 0 rfl) ?_
        refine va_get (D := zD v) (ci := 7) (v := .int (g.1 0 7)) (C := RX8) (T := TX8) (N := 55) hx hb hts iX8 hown hk.1 hP 0 rfl rfl 7 (by decide) (hts _ fl_X8_23) (fun _ h9 => h9) rfl dX8_told_59 ?_
        refine lv_goto (tgt := 95) hx hb dX8_told_62 (by decide) ?_
        exact hret _ _ _ _ _ _ (Or.inl rfl) (Option.some.inj hf) hP hS dX8_told_95
  have wb24 : ∀ (y1 : Int32) (y2 : Int32) (g : SM) (hf : x_X8_told_b24 N y1 y2 g = some res) (H : Heap) (locs : List Loc) (ls : Array Slot) (hP : va_P (zD v) vwCl (pM.1 v g) H) (hS : va_S (An nM v) s.heap H locs) (hl : lv_has ls 3 [(0, .ref (zA v 0)), (1, .int y1), (2, .int y2)]), W p l e rm_X8_told s m args below meth c H locs 0 0 Q (F0 m 24 ls []) := by
    intro y1 y2 g hf H locs ls hP hS hl
    unfold x_X8_told_b24 at hf
    refine lv_iload_n hx hb dX8_told_24 rfl (lv_at hl 2 rfl) ?_
    refine lv_i2l hx hb dX8_told_25 rfl ?_
    refine lv_ldc2 (v := 4) hx hb hown (hts _ kc_X8_131) dX8_told_26 ?_
    refine lv_ldc2 (v := 7) hx hb hown (hts _ kc_X8_133) dX8_told_29 ?_
    obtain ⟨q4, eq4, hf⟩ := bd_e hf
    refine zki hS (zrS (As := [.long ((y2).toInt64), .long (4 : Int64), .long (7 : Int64)]) (rest := []) okM hx hb hml hown hts hk hP hS (t_X8_in l v N ((y2).toInt64) (4 : Int64) (7 : Int64) g _ eq4) sk_X8_in ml_X8_100 rfl rfl ⟨(Nat.le_of_ble_eq_true rfl), (Nat.le_of_ble_eq_true rfl)⟩ rfl hl.1 rfl (Nat.le_of_ble_eq_true rfl) dX8_told_32) (fun H locs hP hS => ?_)
    refine lv_if_eq (tgt := 49) hx hb dX8_told_35 (by decide) (fun c5 => ?_) (fun c5 => ?_)
    · have hf := ite_t c5 hf
      exact wb49 y1 y2 q4.2 hf _ _ _ hP hS (lv_sub hl [0, 1, 2] rfl)
    · have hf := ite_f c5 hf
      refine lv_aload_n hx hb dX8_told_38 rfl (lv_at hl 0 rfl) ?_
      refine lv_iload_n hx hb dX8_told_39 rfl (lv_at hl 1 rfl) ?_
      obtain ⟨q20, eq20, hf⟩ := bd_e hf
      refine zki hS (zrV (As := [.int y1]) (rest := []) okM hx hb hml hown hts hk hP hS (t_X8_isMake l v N y1 q4.2 _ eq20) vk_X8_isMake ml_X8_112 rfl rfl ⟨(Nat.le_of_ble_eq_true rfl), (Nat.le_of_ble_eq_true rfl)⟩ (va_recv (q := (RX8, TX8, 55)) hk.1 hP (q0 := 0) (ci := 7) rfl rfl) rfl hl.1 rfl (Nat.le_of_ble_eq_true rfl) dX8_told_40) (fun H locs hP hS => ?_)
      refine lv_if_ne (tgt := 49) hx hb dX8_told_43 (by decide) (fun c21 => ?_) (fun c21 => ?_)
      · have hf := ite_f c21 hf
        exact wb49 y1 y2 q20.2 hf _ _ _ hP hS (lv_sub hl [0, 1, 2] rfl)
      · have hf := ite_t c21 hf
        refine lv_bipush (v := -100) hx hb dX8_told_46 kB_m100 ?_
        exact hret _ _ _ _ _ _ (Or.inl rfl) (Option.some.inj hf) hP hS dX8_told_48
  unfold x_X8_told at hf
  refine lv_iload_n hx hb dX8_told_0 rfl (lv_at hl 2 rfl) ?_
  refine lv_i2l hx hb dX8_told_1 rfl ?_
  refine lv_lconst (v := 0) hx hb dX8_told_2 kL_0 ?_
  refine lv_ldc2 (v := 9) hx hb hown (hts _ kc_X8_121) dX8_told_3 ?_
  obtain ⟨q1, eq1, hf⟩ := bd_e hf
  refine zki hS (zrS (As := [.long ((a2).toInt64), .long (0 : Int64), .long (9 : Int64)]) (rest := []) okM hx hb hml hown hts hk hP hS (t_X8_in l v N ((a2).toInt64) (0 : Int64) (9 : Int64) g _ eq1) sk_X8_in ml_X8_100 rfl rfl ⟨(Nat.le_of_ble_eq_true rfl), (Nat.le_of_ble_eq_true rfl)⟩ rfl hl.1 rfl (Nat.le_of_ble_eq_true rfl) dX8_told_6) (fun H locs hP hS => ?_)
  refine lv_if_eq (tgt := 46) hx hb dX8_told_9 (by decide) (fun c2 => ?_) (fun c2 => ?_)
  · have hf := ite_t c2 hf
    refine lv_bipush (v := -100) hx hb dX8_told_46 kB_m100 ?_
    exact hret _ _ _ _ _ _ (Or.inl rfl) (Option.some.inj hf) hP hS dX8_told_48
  · have hf := ite_f c2 hf
    refine lv_iload_n hx hb dX8_told_12 rfl (lv_at hl 2 rfl) ?_
    refine lv_iconst (v := 3) hx hb dX8_told_13 kI_3 ?_
    refine lv_icmp_ne (tgt := 24) hx hb dX8_told_14 (by decide) (fun c3 => ?_) (fun c3 => ?_)
    · have hf := ite_f c3 hf
      exact wb24 a1 a2 q1.2 hf _ _ _ hP hS (lv_sub hl [0, 1, 2] rfl)
    · have hf := ite_t c3 hf
      refine lv_iload_n hx hb dX8_told_17 rfl (lv_at hl 1 rfl) ?_
      obtain ⟨q22, eq22, hf⟩ := bd_e hf
      refine zki hS (zrS (As := [.int a1]) (rest := []) okM hx hb hml hown hts hk hP hS (t_X8_isFoot l v N a1 q1.2 _ eq22) sk_X8_isFoot ml_X8_108 rfl rfl ⟨(Nat.le_of_ble_eq_true rfl), (Nat.le_of_ble_eq_true rfl)⟩ rfl hl.1 rfl (Nat.le_of_ble_eq_true rfl) dX8_told_18) (fun H locs hP hS => ?_)
      refine lv_if_eq (tgt := 46) hx hb dX8_told_21 (by decide) (fun c23 => ?_) (fun c23 => ?_)
      · have hf := ite_t c23 hf
        refine lv_bipush (v := -100) hx hb dX8_told_46 kB_m100 ?_
        exact hret _ _ _ _ _ _ (Or.inl rfl) (Option.some.inj hf) hP hS dX8_told_48
      · have hf := ite_f c23 hf
        exact wb24 a1 a2 q22.2 hf _ _ _ hP hS (lv_sub hl [0, 1, 2] rfl)
abbrev rm_X8_set : Room := { frames := 73, cells := 0, slots := 0, locals := 4513 }
set_option maxRecDepth 100000 in
theorem t_X8_set (l : Launch) (v : Ev) (N : Nat) (a1 : Int32) (a2 : Int32) (a3 : Int32) (g : SM) (res : Int32 × SM) (hf : x_X8_set N a1 a2 a3 g = some res) : Ci l yX8_set cX8_set 5 .int rm_X8_set pM v [.ref (zA v 0), .int a1, .int a2, .int a3] g res := by
  refine ze_i (by decide +kernel) (Nat.le_of_ble_eq_true rfl) ?_
  intro p e s m args below meth c Q ls hcx hret hP hl
  obtain ⟨hx, hb, hml, hown, hts, hk⟩ := hcx
  have hown : s.vm.findClass RX8 = some m.cls := hown
  have hS : va_S (An nM v) s.heap s.heap [] := va_S.rf
  have hl : lv_has ls 5 [(0, .ref (zA v 0)), (1, .int a1), (2, .int a2), (3, .int a3)] := hl
  have wb91 : ∀ (y1 : Int32) (y2 : Int32) (y3 : Int32) (t0 : Int64) (t1 : Int64) (t2 : Int64) (g : SM) (hf : x_X8_set_b91 N y1 y2 y3 t0 t1 t2 g = some res) (H : Heap) (locs : List Loc) (ls : Array Slot) (hP : va_P (zD v) vwCl (pM.1 v g) H) (hS : va_S (An nM v) s.heap H locs) (hl : lv_has ls 5 [(0, .ref (zA v 0)), (1, .int y1), (2, .int y2), (3, .int y3)]), W p l e rm_X8_set s m args below meth c H locs 0 0 Q (F0 m 91 ls [.long t0, .long t1, .long t2]) := by
    intro y1 y2 y3 t0 t1 t2 g hf H locs ls hP hS hl
    unfold x_X8_set_b91 at hf
    obtain ⟨q9, eq9, hf⟩ := bd_e hf
    refine zki hS (zrS (As := [.long t2, .long t1, .long t0]) (rest := []) okM hx hb hml hown hts hk hP hS (t_X8_in l v N t2 t1 t0 g _ eq9) sk_X8_in ml_X8_100 rfl rfl ⟨(Nat.le_of_ble_eq_true rfl), (Nat.le_of_ble_eq_true rfl)⟩ rfl hl.1 rfl (Nat.le_of_ble_eq_true rfl) dX8_set_91) (fun H locs hP hS => ?_)
    refine lv_if_ne (tgt := 100) hx hb dX8_set_94 (by decide) (fun c10 => ?_) (fun c10 => ?_)
    · have hf := ite_f c10 hf
      refine lv_aload_n hx hb dX8_set_100 rfl (lv_at hl 0 rfl) ?_
      refine lv_iload_n hx hb dX8_set_101 rfl (lv_at hl 2 rfl) ?_
      refine lv_iload_n hx hb dX8_set_102 rfl (lv_at hl 1 rfl) ?_
      obtain ⟨q11, eq11, hf⟩ := bd_e hf
      refine zki hS (zrV (As := [.int y2, .int y1]) (rest := []) okM hx hb hml hown hts hk hP hS (t_X8_told l v N y2 y1 q9.2 _ eq11) vk_X8_told ml_X8_123 rfl rfl ⟨(Nat.le_of_ble_eq_true rfl), (Nat.le_of_ble_eq_true rfl)⟩ (va_recv (q := (RX8, TX8, 55)) hk.1 hP (q0 := 0) (ci := 7) rfl rfl) rfl hl.1 rfl (Nat.le_of_ble_eq_true rfl) dX8_set_103) (fun H locs hP hS => ?_)
      refine lv_istore (lv' := [(4, .int q11.1), (0, .ref (zA v 0)), (1, .int y1), (2, .int y2), (3, .int y3)]) hx hb dX8_set_106 hl (by decide) rfl (fun ls hl => ?_)
      refine lv_iload_n hx hb dX8_set_108 rfl (lv_at hl 2 rfl) ?_
      refine lv_if_ne (tgt := 120) hx hb dX8_set_109 (by decide) (fun c12 => ?_) (fun c12 => ?_)
      · have hf := ite_f c12 hf
        refine lv_iload_n hx hb dX8_set_120 rfl (lv_at hl 2 rfl) ?_
        refine lv_iconst (v := 1) hx hb dX8_set_121 kI_1 ?_
        refine lv_icmp_ne (tgt := 133) hx hb dX8_set_122 (by decide) (fun c13 => ?_) (fun c13 => ?_)
        · have hf := ite_f c13 hf
          refine lv_iload_n hx hb dX8_set_133 rfl (lv_at hl 2 rfl) ?_
          refine lv_iconst (v := 2) hx hb dX8_set_134 kI_2 ?_
          refine lv_icmp_ne (tgt := 146) hx hb dX8_set_135 (by decide) (fun c14 => ?_) (fun c14 => ?_)
          · have hf := ite_f c14 hf
            refine lv_iload_n hx hb dX8_set_146 rfl (lv_at hl 2 rfl) ?_
            refine lv_iconst (v := 3) hx hb dX8_set_147 kI_3 ?_
            refine lv_icmp_ne (tgt := 161) hx hb dX8_set_148 (by decide) (fun c15 => ?_) (fun c15 => ?_)
            · have hf := ite_f c15 hf
              refine lv_iload_n hx hb dX8_set_161 rfl (lv_at hl 2 rfl) ?_
              refine lv_iconst (v := 4) hx hb dX8_set_162 kI_4 ?_
              refine lv_icmp_ne (tgt := 176) hx hb dX8_set_163 (by decide) (fun c16 => ?_) (fun c16 => ?_)
              · have hf := ite_f c16 hf
                refine lv_iload_n hx hb dX8_set_176 rfl (lv_at hl 2 rfl) ?_
                refine lv_iconst (v := 5) hx hb dX8_set_177 kI_5 ?_
                refine lv_icmp_ne (tgt := 191) hx hb dX8_set_178 (by decide) (fun c17 => ?_) (fun c17 => ?_)
                · have hf := ite_f c17 hf
                  refine lv_aload_n hx hb dX8_set_191 rfl (lv_at hl 1 rfl) ?_
                  refine va_get (D := zD v) (ci := 7) (v := .ref (zA v 8)) (C := RX8) (T := TX8) (N := 55) hx hb hts iX8 hown hk.1 hP 0 rfl rfl 14 (by decide) (hts _ fl_X8_44) (fun _ h9 => h9) rfl dX8_set_192 ?_
                  refine lv_iload_n hx hb dX8_set_195 rfl (lv_at hl 3 rfl) ?_
                  refine lv_iload_n hx hb dX8_set_196 rfl (lv_at hl 4 rfl) ?_
                  obtain ⟨c18, hf⟩ := gd_e hf
                  refine va_iast hx hb hk.1 hP (zw_D okM hk _) hS 8 0 rfl rfl (inb_in c18) dX8_set_197 (fun H locs hP1 _ hS => ?_)
                  have hP : va_P (zD v) vwCl (pM.1 v (up q11.2.1 8 (upd (q11.2.1 8) (y2).toNatClampNeg y3), q11.2.2)) H := hP1
                  obtain ⟨g19, eg19, hf⟩ := lt_e hf
                  rw [← eg19] at hP
                  refine lv_iload hx hb dX8_set_198 (lv_at hl 0 rfl) ?_
                  exact hret _ _ _ _ _ _ (Or.inl rfl) (Option.some.inj hf) hP hS dX8_set_200
                · have hf := ite_t c17 hf
                  refine lv_aload_n hx hb dX8_set_181 rfl (lv_at hl 1 rfl) ?_
                  refine va_get (D := zD v) (ci := 7) (v := .ref (zA v 7)) (C := RX8) (T := TX8) (N := 55) hx hb hts iX8 hown hk.1 hP 0 rfl rfl 13 (by decide) (hts _ fl_X8_41) (fun _ h9 => h9) rfl dX8_set_182 ?_
                  refine lv_iload_n hx hb dX8_set_185 rfl (lv_at hl 3 rfl) ?_
                  refine lv_iload_n hx hb dX8_set_186 rfl (lv_at hl 4 rfl) ?_
                  obtain ⟨c20, hf⟩ := gd_e hf
                  refine va_iast hx hb hk.1 hP (zw_D okM hk _) hS 7 0 rfl rfl (inb_in c20) dX8_set_187 (fun H locs hP1 _ hS => ?_)
                  have hP : va_P (zD v) vwCl (pM.1 v (up q11.2.1 7 (upd (q11.2.1 7) (y2).toNatClampNeg y3), q11.2.2)) H := hP1
                  obtain ⟨g21, eg21, hf⟩ := lt_e hf
                  rw [← eg21] at hP
                  refine lv_goto (tgt := 198) hx hb dX8_set_188 (by decide) ?_
                  refine lv_iload hx hb dX8_set_198 (lv_at hl 0 rfl) ?_
                  exact hret _ _ _ _ _ _ (Or.inl rfl) (Option.some.inj hf) hP hS dX8_set_200
              · have hf := ite_t c16 hf
                refine lv_aload_n hx hb dX8_set_166 rfl (lv_at hl 1 rfl) ?_
                refine va_get (D := zD v) (ci := 7) (v := .ref (zA v 6)) (C := RX8) (T := TX8) (N := 55) hx hb hts iX8 hown hk.1 hP 0 rfl rfl 12 (by decide) (hts _ fl_X8_38) (fun _ h9 => h9) rfl dX8_set_167 ?_
                refine lv_iload_n hx hb dX8_set_170 rfl (lv_at hl 3 rfl) ?_
                refine lv_iload_n hx hb dX8_set_171 rfl (lv_at hl 4 rfl) ?_
                obtain ⟨c22, hf⟩ := gd_e hf
                refine va_iast hx hb hk.1 hP (zw_D okM hk _) hS 6 0 rfl rfl (inb_in c22) dX8_set_172 (fun H locs hP1 _ hS => ?_)
                have hP : va_P (zD v) vwCl (pM.1 v (up q11.2.1 6 (upd (q11.2.1 6) (y2).toNatClampNeg y3), q11.2.2)) H := hP1
                obtain ⟨g23, eg23, hf⟩ := lt_e hf
                rw [← eg23] at hP
                refine lv_goto (tgt := 198) hx hb dX8_set_173 (by decide) ?_
                refine lv_iload hx hb dX8_set_198 (lv_at hl 0 rfl) ?_
                exact hret _ _ _ _ _ _ (Or.inl rfl) (Option.some.inj hf) hP hS dX8_set_200
            · have hf := ite_t c15 hf
              refine lv_aload_n hx hb dX8_set_151 rfl (lv_at hl 1 rfl) ?_
              refine va_get (D := zD v) (ci := 7) (v := .ref (zA v 4)) (C := RX8) (T := TX8) (N := 55) hx hb hts iX8 hown hk.1 hP 0 rfl rfl 10 (by decide) (hts _ fl_X8_32) (fun _ h9 => h9) rfl dX8_set_152 ?_
              refine lv_iload_n hx hb dX8_set_155 rfl (lv_at hl 3 rfl) ?_
              refine lv_iload_n hx hb dX8_set_156 rfl (lv_at hl 4 rfl) ?_
              obtain ⟨c24, hf⟩ := gd_e hf
              refine va_iast hx hb hk.1 hP (zw_D okM hk _) hS 4 0 rfl rfl (inb_in c24) dX8_set_157 (fun H locs hP1 _ hS => ?_)
              have hP : va_P (zD v) vwCl (pM.1 v (up q11.2.1 4 (upd (q11.2.1 4) (y2).toNatClampNeg y3), q11.2.2)) H := hP1
              obtain ⟨g25, eg25, hf⟩ := lt_e hf
              rw [← eg25] at hP
              refine lv_goto (tgt := 198) hx hb dX8_set_158 (by decide) ?_
              refine lv_iload hx hb dX8_set_198 (lv_at hl 0 rfl) ?_
              exact hret _ _ _ _ _ _ (Or.inl rfl) (Option.some.inj hf) hP hS dX8_set_200
          · have hf := ite_t c14 hf
            refine lv_aload_n hx hb dX8_set_138 rfl (lv_at hl 1 rfl) ?_
            refine lv_iload_n hx hb dX8_set_139 rfl (lv_at hl 4 rfl) ?_
            refine va_put (D := zD v) (ci := 7) (v := .int y3) (ty := .int) (C := RX8) (T := TX8) (N := 55) hx hb hts iX8 tyX8 tyX8_ok nmX8 hown hk.1 hP (zw_D okM hk _) hS 0 rfl rfl 9 (by decide) (hts _ fl_X8_29) (fun _ h9 => h9) rfl pd_I rfl rfl (Nat.le_of_ble_eq_true rfl) dX8_set_140 (fun H locs hP1 _ hS => ?_)
            have hP : va_P (zD v) vwCl (pM.1 v (up q11.2.1 0 (upd (q11.2.1 0) 9 y3), q11.2.2)) H := hP1
            obtain ⟨g26, eg26, hf⟩ := lt_e hf
            rw [← eg26] at hP
            refine lv_goto (tgt := 198) hx hb dX8_set_143 (by decide) ?_
            refine lv_iload hx hb dX8_set_198 (lv_at hl 0 rfl) ?_
            exact hret _ _ _ _ _ _ (Or.inl rfl) (Option.some.inj hf) hP hS dX8_set_200
        · have hf := ite_t c13 hf
          refine lv_aload_n hx hb dX8_set_125 rfl (lv_at hl 1 rfl) ?_
          refine lv_iload_n hx hb dX8_set_126 rfl (lv_at hl 4 rfl) ?_
          refine va_put (D := zD v) (ci := 7) (v := .int y3) (ty := .int) (C := RX8) (T := TX8) (N := 55) hx hb hts iX8 tyX8 tyX8_ok nmX8 hown hk.1 hP (zw_D okM hk _) hS 0 rfl rfl 8 (by decide) (hts _ fl_X8_26) (fun _ h9 => h9) rfl pd_I rfl rfl (Nat.le_of_ble_eq_true rfl) dX8_set_127 (fun H locs hP1 _ hS => ?_)
          have hP : va_P (zD v) vwCl (pM.1 v (up q11.2.1 0 (upd (q11.2.1 0) 8 y3), q11.2.2)) H := hP1
          obtain ⟨g27, eg27, hf⟩ := lt_e hf
          rw [← eg27] at hP
          refine lv_goto (tgt := 198) hx hb dX8_set_130 (by decide) ?_
          refine lv_iload hx hb dX8_set_198 (lv_at hl 0 rfl) ?_
          exact hret _ _ _ _ _ _ (Or.inl rfl) (Option.some.inj hf) hP hS dX8_set_200
      · have hf := ite_t c12 hf
        refine lv_aload_n hx hb dX8_set_112 rfl (lv_at hl 1 rfl) ?_
        refine lv_iload_n hx hb dX8_set_113 rfl (lv_at hl 4 rfl) ?_
        refine va_put (D := zD v) (ci := 7) (v := .int y3) (ty := .int) (C := RX8) (T := TX8) (N := 55) hx hb hts iX8 tyX8 tyX8_ok nmX8 hown hk.1 hP (zw_D okM hk _) hS 0 rfl rfl 7 (by decide) (hts _ fl_X8_23) (fun _ h9 => h9) rfl pd_I rfl rfl (Nat.le_of_ble_eq_true rfl) dX8_set_114 (fun H locs hP1 _ hS => ?_)
        have hP : va_P (zD v) vwCl (pM.1 v (up q11.2.1 0 (upd (q11.2.1 0) 7 y3), q11.2.2)) H := hP1
        obtain ⟨g28, eg28, hf⟩ := lt_e hf
        rw [← eg28] at hP
        refine lv_goto (tgt := 198) hx hb dX8_set_117 (by decide) ?_
        refine lv_iload hx hb dX8_set_198 (lv_at hl 0 rfl) ?_
        exact hret _ _ _ _ _ _ (Or.inl rfl) (Option.some.inj hf) hP hS dX8_set_200
    · have hf := ite_t c10 hf
      refine lv_bipush (v := -100) hx hb dX8_set_97 kB_m100 ?_
      exact hret _ _ _ _ _ _ (Or.inl rfl) (Option.some.inj hf) hP hS dX8_set_99
  have wb54 : ∀ (y1 : Int32) (y2 : Int32) (y3 : Int32) (t0 : Int64) (t1 : Int64) (g : SM) (hf : x_X8_set_b54 N y1 y2 y3 t0 t1 g = some res) (H : Heap) (locs : List Loc) (ls : Array Slot) (hP : va_P (zD v) vwCl (pM.1 v g) H) (hS : va_S (An nM v) s.heap H locs) (hl : lv_has ls 5 [(0, .ref (zA v 0)), (1, .int y1), (2, .int y2), (3, .int y3)]), W p l e rm_X8_set s m args below meth c H locs 0 0 Q (F0 m 54 ls [.long t0, .long t1]) := by
    intro y1 y2 y3 t0 t1 g hf H locs ls hP hS hl
    unfold x_X8_set_b54 at hf
    refine lv_iload_n hx hb dX8_set_54 rfl (lv_at hl 1 rfl) ?_
    refine lv_iconst (v := 2) hx hb dX8_set_55 kI_2 ?_
    refine lv_icmp_ge (tgt := 65) hx hb dX8_set_56 (by decide) (fun c6 => ?_) (fun c6 => ?_)
    · have hf := ite_t c6 hf
      refine lv_iload_n hx hb dX8_set_65 rfl (lv_at hl 1 rfl) ?_
      refine lv_iconst (v := 2) hx hb dX8_set_66 kI_2 ?_
      refine lv_icmp_ne (tgt := 76) hx hb dX8_set_67 (by decide) (fun c7 => ?_) (fun c7 => ?_)
      · have hf := ite_f c7 hf
        refine lv_iload_n hx hb dX8_set_76 rfl (lv_at hl 1 rfl) ?_
        refine lv_bipush (v := 6) hx hb dX8_set_77 kB_6 ?_
        refine lv_icmp_ne (tgt := 88) hx hb dX8_set_79 (by decide) (fun c8 => ?_) (fun c8 => ?_)
        · have hf := ite_f c8 hf
          refine lv_ldc2 (v := 9) hx hb hown (hts _ kc_X8_121) dX8_set_88 ?_
          exact wb91 y1 y2 y3 (9 : Int64) t0 t1 g hf _ _ _ hP hS (lv_sub hl [0, 1, 2, 3] rfl)
        · have hf := ite_t c8 hf
          refine lv_ldc2 (v := 1048575) hx hb hown (hts _ kc_X8_119) dX8_set_82 ?_
          refine lv_goto (tgt := 91) hx hb dX8_set_85 (by decide) ?_
          exact wb91 y1 y2 y3 (1048575 : Int64) t0 t1 g hf _ _ _ hP hS (lv_sub hl [0, 1, 2, 3] rfl)
      · have hf := ite_t c7 hf
        refine lv_ldc2 (v := 23) hx hb hown (hts _ kc_X8_117) dX8_set_70 ?_
        refine lv_goto (tgt := 91) hx hb dX8_set_73 (by decide) ?_
        exact wb91 y1 y2 y3 (23 : Int64) t0 t1 g hf _ _ _ hP hS (lv_sub hl [0, 1, 2, 3] rfl)
    · have hf := ite_f c6 hf
      refine lv_ldc2 (v := 99) hx hb hown (hts _ kc_X8_104) dX8_set_59 ?_
      refine lv_goto (tgt := 91) hx hb dX8_set_62 (by decide) ?_
      exact wb91 y1 y2 y3 (99 : Int64) t0 t1 g hf _ _ _ hP hS (lv_sub hl [0, 1, 2, 3] rfl)
  have wb40 : ∀ (y1 : Int32) (y2 : Int32) (y3 : Int32) (g : SM) (hf : x_X8_set_b40 N y1 y2 y3 g = some res) (H : Heap) (locs : List Loc) (ls : Array Slot) (hP : va_P (zD v) vwCl (pM.1 v g) H) (hS : va_S (An nM v) s.heap H locs) (hl : lv_has ls 5 [(0, .ref (zA v 0)), (1, .int y1), (2, .int y2), (3, .int y3)]), W p l e rm_X8_set s m args below meth c H locs 0 0 Q (F0 m 40 ls []) := by
    intro y1 y2 y3 g hf H locs ls hP hS hl
    unfold x_X8_set_b40 at hf
    refine lv_iload_n hx hb dX8_set_40 rfl (lv_at hl 3 rfl) ?_
    refine lv_i2l hx hb dX8_set_41 rfl ?_
    refine lv_iload_n hx hb dX8_set_42 rfl (lv_at hl 1 rfl) ?_
    refine lv_iconst (v := 5) hx hb dX8_set_43 kI_5 ?_
    refine lv_icmp_ne (tgt := 53) hx hb dX8_set_44 (by decide) (fun c5 => ?_) (fun c5 => ?_)
    · have hf := ite_f c5 hf
      refine lv_lconst (v := 0) hx hb dX8_set_53 kL_0 ?_
      exact wb54 y1 y2 y3 (0 : Int64) ((y3).toInt64) g hf _ _ _ hP hS (lv_sub hl [0, 1, 2, 3] rfl)
    · have hf := ite_t c5 hf
      refine lv_ldc2 (v := -9) hx hb hown (hts _ kc_X8_115) dX8_set_47 ?_
      refine lv_goto (tgt := 54) hx hb dX8_set_50 (by decide) ?_
      exact wb54 y1 y2 y3 (-9 : Int64) ((y3).toInt64) g hf _ _ _ hP hS (lv_sub hl [0, 1, 2, 3] rfl)
  have wb24 : ∀ (y1 : Int32) (y2 : Int32) (y3 : Int32) (g : SM) (hf : x_X8_set_b24 N y1 y2 y3 g = some res) (H : Heap) (locs : List Loc) (ls : Array Slot) (hP : va_P (zD v) vwCl (pM.1 v g) H) (hS : va_S (An nM v) s.heap H locs) (hl : lv_has ls 5 [(0, .ref (zA v 0)), (1, .int y1), (2, .int y2), (3, .int y3)]), W p l e rm_X8_set s m args below meth c H locs 0 0 Q (F0 m 24 ls []) := by
    intro y1 y2 y3 g hf H locs ls hP hS hl
    unfold x_X8_set_b24 at hf
    refine lv_iload_n hx hb dX8_set_24 rfl (lv_at hl 1 rfl) ?_
    refine lv_iconst (v := 3) hx hb dX8_set_25 kI_3 ?_
    refine lv_icmp_le (tgt := 40) hx hb dX8_set_26 (by decide) (fun c4 => ?_) (fun c4 => ?_)
    · have hf := ite_t c4 hf
      exact wb40 y1 y2 y3 g hf _ _ _ hP hS (lv_sub hl [0, 1, 2, 3] rfl)
    · have hf := ite_f c4 hf
      refine lv_aload_n hx hb dX8_set_29 rfl (lv_at hl 0 rfl) ?_
      refine lv_iload_n hx hb dX8_set_30 rfl (lv_at hl 2 rfl) ?_
      obtain ⟨q29, eq29, hf⟩ := bd_e hf
      refine zki hS (zrV (As := [.int y2]) (rest := []) okM hx hb hml hown hts hk hP hS (t_X8_isMake l v N y2 g _ eq29) vk_X8_isMake ml_X8_112 rfl rfl ⟨(Nat.le_of_ble_eq_true rfl), (Nat.le_of_ble_eq_true rfl)⟩ (va_recv (q := (RX8, TX8, 55)) hk.1 hP (q0 := 0) (ci := 7) rfl rfl) rfl hl.1 rfl (Nat.le_of_ble_eq_true rfl) dX8_set_31) (fun H locs hP hS => ?_)
      refine lv_if_ne (tgt := 40) hx hb dX8_set_34 (by decide) (fun c30 => ?_) (fun c30 => ?_)
      · have hf := ite_f c30 hf
        exact wb40 y1 y2 y3 q29.2 hf _ _ _ hP hS (lv_sub hl [0, 1, 2, 3] rfl)
      · have hf := ite_t c30 hf
        refine lv_bipush (v := -100) hx hb dX8_set_37 kB_m100 ?_
        exact hret _ _ _ _ _ _ (Or.inl rfl) (Option.some.inj hf) hP hS dX8_set_39
  unfold x_X8_set at hf
  refine lv_iload_n hx hb dX8_set_0 rfl (lv_at hl 1 rfl) ?_
  refine lv_i2l hx hb dX8_set_1 rfl ?_
  refine lv_lconst (v := 0) hx hb dX8_set_2 kL_0 ?_
  refine lv_ldc2 (v := 6) hx hb hown (hts _ kc_X8_106) dX8_set_3 ?_
  obtain ⟨q1, eq1, hf⟩ := bd_e hf
  refine zki hS (zrS (As := [.long ((a1).toInt64), .long (0 : Int64), .long (6 : Int64)]) (rest := []) okM hx hb hml hown hts hk hP hS (t_X8_in l v N ((a1).toInt64) (0 : Int64) (6 : Int64) g _ eq1) sk_X8_in ml_X8_100 rfl rfl ⟨(Nat.le_of_ble_eq_true rfl), (Nat.le_of_ble_eq_true rfl)⟩ rfl hl.1 rfl (Nat.le_of_ble_eq_true rfl) dX8_set_6) (fun H locs hP hS => ?_)
  refine lv_if_eq (tgt := 37) hx hb dX8_set_9 (by decide) (fun c2 => ?_) (fun c2 => ?_)
  · have hf := ite_t c2 hf
    refine lv_bipush (v := -100) hx hb dX8_set_37 kB_m100 ?_
    exact hret _ _ _ _ _ _ (Or.inl rfl) (Option.some.inj hf) hP hS dX8_set_39
  · have hf := ite_f c2 hf
    refine lv_iload_n hx hb dX8_set_12 rfl (lv_at hl 1 rfl) ?_
    refine lv_iconst (v := 3) hx hb dX8_set_13 kI_3 ?_
    refine lv_icmp_ne (tgt := 24) hx hb dX8_set_14 (by decide) (fun c3 => ?_) (fun c3 => ?_)
    · have hf := ite_f c3 hf
      exact wb24 a1 a2 a3 q1.2 hf _ _ _ hP hS (lv_sub hl [0, 1, 2, 3] rfl)
    · have hf := ite_t c3 hf
      refine lv_iload_n hx hb dX8_set_17 rfl (lv_at hl 2 rfl) ?_
      obtain ⟨q31, eq31, hf⟩ := bd_e hf
      refine zki hS (zrS (As := [.int a2]) (rest := []) okM hx hb hml hown hts hk hP hS (t_X8_isFoot l v N a2 q1.2 _ eq31) sk_X8_isFoot ml_X8_108 rfl rfl ⟨(Nat.le_of_ble_eq_true rfl), (Nat.le_of_ble_eq_true rfl)⟩ rfl hl.1 rfl (Nat.le_of_ble_eq_true rfl) dX8_set_18) (fun H locs hP hS => ?_)
      refine lv_if_eq (tgt := 37) hx hb dX8_set_21 (by decide) (fun c32 => ?_) (fun c32 => ?_)
      · have hf := ite_t c32 hf
        refine lv_bipush (v := -100) hx hb dX8_set_37 kB_m100 ?_
        exact hret _ _ _ _ _ _ (Or.inl rfl) (Option.some.inj hf) hP hS dX8_set_39
      · have hf := ite_f c32 hf
        exact wb24 a1 a2 a3 q31.2 hf _ _ _ hP hS (lv_sub hl [0, 1, 2, 3] rfl)
abbrev rm_X8_make : Room := { frames := 2, cells := 0, slots := 0, locals := 85 }
set_option maxRecDepth 100000 in
theorem t_X8_make (l : Launch) (v : Ev) (N : Nat) (a1 : Int32) (a2 : Int32) (a3 : Int32) (g : SM) (res : Int32 × SM) (hf : x_X8_make N a1 a2 a3 g = some res) : Ci l yX8_make cX8_make 4 .int rm_X8_make pM v [.ref (zA v 0), .int a1, .int a2, .int a3] g res := by
  refine ze_i (by decide +kernel) (Nat.le_of_ble_eq_true rfl) ?_
  intro p e s m args below meth c Q ls hcx hret hP hl
  obtain ⟨hx, hb, hml, hown, hts, hk⟩ := hcx
  have hown : s.vm.findClass RX8 = some m.cls := hown
  have hS : va_S (An nM v) s.heap s.heap [] := va_S.rf
  have hl : lv_has ls 4 [(0, .ref (zA v 0)), (1, .int a1), (2, .int a2), (3, .int a3)] := hl
  unfold x_X8_make at hf
  refine lv_iload_n hx hb dX8_make_0 rfl (lv_at hl 1 rfl) ?_
  refine lv_i2l hx hb dX8_make_1 rfl ?_
  refine lv_lconst (v := 0) hx hb dX8_make_2 kL_0 ?_
  refine lv_ldc2 (v := 5) hx hb hown (hts _ kc_X8_127) dX8_make_3 ?_
  obtain ⟨q1, eq1, hf⟩ := bd_e hf
  refine zki hS (zrS (As := [.long ((a1).toInt64), .long (0 : Int64), .long (5 : Int64)]) (rest := []) okM hx hb hml hown hts hk hP hS (t_X8_in l v N ((a1).toInt64) (0 : Int64) (5 : Int64) g _ eq1) sk_X8_in ml_X8_100 rfl rfl ⟨(Nat.le_of_ble_eq_true rfl), (Nat.le_of_ble_eq_true rfl)⟩ rfl hl.1 rfl (Nat.le_of_ble_eq_true rfl) dX8_make_6) (fun H locs hP hS => ?_)
  refine lv_if_eq (tgt := 45) hx hb dX8_make_9 (by decide) (fun c2 => ?_) (fun c2 => ?_)
  · have hf := ite_t c2 hf
    refine lv_bipush (v := -2) hx hb dX8_make_45 kB_m2 ?_
    exact hret _ _ _ _ _ _ (Or.inl rfl) (Option.some.inj hf) hP hS dX8_make_47
  · have hf := ite_f c2 hf
    refine lv_iload_n hx hb dX8_make_12 rfl (lv_at hl 2 rfl) ?_
    refine lv_i2l hx hb dX8_make_13 rfl ?_
    refine lv_lconst (v := 0) hx hb dX8_make_14 kL_0 ?_
    refine lv_ldc2 (v := 918) hx hb hown (hts _ kc_X8_129) dX8_make_15 ?_
    obtain ⟨q3, eq3, hf⟩ := bd_e hf
    refine zki hS (zrS (As := [.long ((a2).toInt64), .long (0 : Int64), .long (918 : Int64)]) (rest := []) okM hx hb hml hown hts hk hP hS (t_X8_in l v N ((a2).toInt64) (0 : Int64) (918 : Int64) q1.2 _ eq3) sk_X8_in ml_X8_100 rfl rfl ⟨(Nat.le_of_ble_eq_true rfl), (Nat.le_of_ble_eq_true rfl)⟩ rfl hl.1 rfl (Nat.le_of_ble_eq_true rfl) dX8_make_18) (fun H locs hP hS => ?_)
    refine lv_if_eq (tgt := 45) hx hb dX8_make_21 (by decide) (fun c4 => ?_) (fun c4 => ?_)
    · have hf := ite_t c4 hf
      refine lv_bipush (v := -2) hx hb dX8_make_45 kB_m2 ?_
      exact hret _ _ _ _ _ _ (Or.inl rfl) (Option.some.inj hf) hP hS dX8_make_47
    · have hf := ite_f c4 hf
      refine lv_iload_n hx hb dX8_make_24 rfl (lv_at hl 2 rfl) ?_
      refine lv_bipush (v := 100) hx hb dX8_make_25 kB_100 ?_
      refine lv_irem hx hb dX8_make_27 kz_100 ?_
      refine lv_nm (z := (rmI a2 (100 : Int32))) rfl ?_
      refine lv_bipush (v := 18) hx hb dX8_make_28 kB_18 ?_
      refine lv_icmp_gt (tgt := 45) hx hb dX8_make_30 (by decide) (fun c5 => ?_) (fun c5 => ?_)
      · have hf := ite_t c5 hf
        refine lv_bipush (v := -2) hx hb dX8_make_45 kB_m2 ?_
        exact hret _ _ _ _ _ _ (Or.inl rfl) (Option.some.inj hf) hP hS dX8_make_47
      · have hf := ite_f c5 hf
        refine lv_iload_n hx hb dX8_make_33 rfl (lv_at hl 3 rfl) ?_
        refine lv_i2l hx hb dX8_make_34 rfl ?_
        refine lv_lconst (v := 0) hx hb dX8_make_35 kL_0 ?_
        refine lv_ldc2 (v := 1048575) hx hb hown (hts _ kc_X8_119) dX8_make_36 ?_
        obtain ⟨q6, eq6, hf⟩ := bd_e hf
        refine zki hS (zrS (As := [.long ((a3).toInt64), .long (0 : Int64), .long (1048575 : Int64)]) (rest := []) okM hx hb hml hown hts hk hP hS (t_X8_in l v N ((a3).toInt64) (0 : Int64) (1048575 : Int64) q3.2 _ eq6) sk_X8_in ml_X8_100 rfl rfl ⟨(Nat.le_of_ble_eq_true rfl), (Nat.le_of_ble_eq_true rfl)⟩ rfl hl.1 rfl (Nat.le_of_ble_eq_true rfl) dX8_make_39) (fun H locs hP hS => ?_)
        refine lv_if_ne (tgt := 48) hx hb dX8_make_42 (by decide) (fun c7 => ?_) (fun c7 => ?_)
        · have hf := ite_f c7 hf
          refine lv_aload_n hx hb dX8_make_48 rfl (lv_at hl 0 rfl) ?_
          refine va_get (D := zD v) (ci := 7) (v := .int (q6.2.1 0 15)) (C := RX8) (T := TX8) (N := 55) hx hb hts iX8 hown hk.1 hP 0 rfl rfl 15 (by decide) (hts _ fl_X8_97) (fun _ h9 => h9) rfl dX8_make_49 ?_
          refine lv_iconst (v := 5) hx hb dX8_make_52 kI_5 ?_
          refine lv_icmp_ne (tgt := 59) hx hb dX8_make_53 (by decide) (fun c8 => ?_) (fun c8 => ?_)
          · have hf := ite_f c8 hf
            refine lv_aload_n hx hb dX8_make_59 rfl (lv_at hl 0 rfl) ?_
            refine va_get (D := zD v) (ci := 7) (v := .ref (zA v 5)) (C := RX8) (T := TX8) (N := 55) hx hb hts iX8 hown hk.1 hP 0 rfl rfl 11 (by decide) (hts _ fl_X8_35) (fun _ h9 => h9) rfl dX8_make_60 ?_
            refine lv_aload_n hx hb dX8_make_63 rfl (lv_at hl 0 rfl) ?_
            refine va_get (D := zD v) (ci := 7) (v := .int (q6.2.1 0 15)) (C := RX8) (T := TX8) (N := 55) hx hb hts iX8 hown hk.1 hP 0 rfl rfl 15 (by decide) (hts _ fl_X8_97) (fun _ h9 => h9) rfl dX8_make_64 ?_
            refine lv_iload_n hx hb dX8_make_67 rfl (lv_at hl 1 rfl) ?_
            obtain ⟨c9, hf⟩ := gd_e hf
            refine va_iast hx hb hk.1 hP (zw_D okM hk _) hS 5 0 rfl rfl (inb_in c9) dX8_make_68 (fun H locs hP1 _ hS => ?_)
            have hP : va_P (zD v) vwCl (pM.1 v (up q6.2.1 5 (upd (q6.2.1 5) ((q6.2.1 0 15)).toNatClampNeg a1), q6.2.2)) H := hP1
            obtain ⟨g10, eg10, hf⟩ := lt_e hf
            rw [← eg10] at hP
            refine lv_aload_n hx hb dX8_make_69 rfl (lv_at hl 0 rfl) ?_
            refine va_get (D := zD v) (ci := 7) (v := .ref (zA v 6)) (C := RX8) (T := TX8) (N := 55) hx hb hts iX8 hown hk.1 hP 0 rfl rfl 12 (by decide) (hts _ fl_X8_38) (fun _ h9 => h9) rfl dX8_make_70 ?_
            refine lv_aload_n hx hb dX8_make_73 rfl (lv_at hl 0 rfl) ?_
            refine va_get (D := zD v) (ci := 7) (v := .int (g10.1 0 15)) (C := RX8) (T := TX8) (N := 55) hx hb hts iX8 hown hk.1 hP 0 rfl rfl 15 (by decide) (hts _ fl_X8_97) (fun _ h9 => h9) rfl dX8_make_74 ?_
            refine lv_iload_n hx hb dX8_make_77 rfl (lv_at hl 2 rfl) ?_
            refine lv_bipush (v := 100) hx hb dX8_make_78 kB_100 ?_
            refine lv_idiv hx hb dX8_make_80 kz_100 ?_
            obtain ⟨c11, hf⟩ := gd_e hf
            refine va_iast hx hb hk.1 hP (zw_D okM hk _) hS 6 0 rfl rfl (inb_in c11) dX8_make_81 (fun H locs hP1 _ hS => ?_)
            have hP : va_P (zD v) vwCl (pM.1 v (up g10.1 6 (upd (g10.1 6) ((g10.1 0 15)).toNatClampNeg (a2 / (100 : Int32))), g10.2)) H := hP1
            obtain ⟨g12, eg12, hf⟩ := lt_e hf
            rw [← eg12] at hP
            refine lv_aload_n hx hb dX8_make_82 rfl (lv_at hl 0 rfl) ?_
            refine va_get (D := zD v) (ci := 7) (v := .ref (zA v 7)) (C := RX8) (T := TX8) (N := 55) hx hb hts iX8 hown hk.1 hP 0 rfl rfl 13 (by decide) (hts _ fl_X8_41) (fun _ h9 => h9) rfl dX8_make_83 ?_
            refine lv_aload_n hx hb dX8_make_86 rfl (lv_at hl 0 rfl) ?_
            refine va_get (D := zD v) (ci := 7) (v := .int (g12.1 0 15)) (C := RX8) (T := TX8) (N := 55) hx hb hts iX8 hown hk.1 hP 0 rfl rfl 15 (by decide) (hts _ fl_X8_97) (fun _ h9 => h9) rfl dX8_make_87 ?_
            refine lv_iload_n hx hb dX8_make_90 rfl (lv_at hl 2 rfl) ?_
            refine lv_bipush (v := 100) hx hb dX8_make_91 kB_100 ?_
            refine lv_irem hx hb dX8_make_93 kz_100 ?_
            refine lv_nm (z := (rmI a2 (100 : Int32))) rfl ?_
            refine lv_bipush (v := 9) hx hb dX8_make_94 kB_9 ?_
            refine lv_isub hx hb dX8_make_96 ?_
            obtain ⟨c13, hf⟩ := gd_e hf
            refine va_iast hx hb hk.1 hP (zw_D okM hk _) hS 7 0 rfl rfl (inb_in c13) dX8_make_97 (fun H locs hP1 _ hS => ?_)
            have hP : va_P (zD v) vwCl (pM.1 v (up g12.1 7 (upd (g12.1 7) ((g12.1 0 15)).toNatClampNeg ((rmI a2 (100 : Int32)) - (9 : Int32))), g12.2)) H := hP1
            obtain ⟨g14, eg14, hf⟩ := lt_e hf
            rw [← eg14] at hP
            refine lv_aload_n hx hb dX8_make_98 rfl (lv_at hl 0 rfl) ?_
            refine va_get (D := zD v) (ci := 7) (v := .ref (zA v 8)) (C := RX8) (T := TX8) (N := 55) hx hb hts iX8 hown hk.1 hP 0 rfl rfl 14 (by decide) (hts _ fl_X8_44) (fun _ h9 => h9) rfl dX8_make_99 ?_
            refine lv_aload_n hx hb dX8_make_102 rfl (lv_at hl 0 rfl) ?_
            refine va_get (D := zD v) (ci := 7) (v := .int (g14.1 0 15)) (C := RX8) (T := TX8) (N := 55) hx hb hts iX8 hown hk.1 hP 0 rfl rfl 15 (by decide) (hts _ fl_X8_97) (fun _ h9 => h9) rfl dX8_make_103 ?_
            refine lv_iload_n hx hb dX8_make_106 rfl (lv_at hl 3 rfl) ?_
            obtain ⟨c15, hf⟩ := gd_e hf
            refine va_iast hx hb hk.1 hP (zw_D okM hk _) hS 8 0 rfl rfl (inb_in c15) dX8_make_107 (fun H locs hP1 _ hS => ?_)
            have hP : va_P (zD v) vwCl (pM.1 v (up g14.1 8 (upd (g14.1 8) ((g14.1 0 15)).toNatClampNeg a3), g14.2)) H := hP1
            obtain ⟨g16, eg16, hf⟩ := lt_e hf
            rw [← eg16] at hP
            refine lv_aload_n hx hb dX8_make_108 rfl (lv_at hl 0 rfl) ?_
            refine lv_dup hx hb dX8_make_109 rfl ?_
            refine va_get (D := zD v) (ci := 7) (v := .int (g16.1 0 15)) (C := RX8) (T := TX8) (N := 55) hx hb hts iX8 hown hk.1 hP 0 rfl rfl 15 (by decide) (hts _ fl_X8_97) (fun _ h9 => h9) rfl dX8_make_110 ?_
            refine lv_iconst (v := 1) hx hb dX8_make_113 kI_1 ?_
            refine lv_iadd hx hb dX8_make_114 ?_
            refine va_put (D := zD v) (ci := 7) (v := .int ((g16.1 0 15) + (1 : Int32))) (ty := .int) (C := RX8) (T := TX8) (N := 55) hx hb hts iX8 tyX8 tyX8_ok nmX8 hown hk.1 hP (zw_D okM hk _) hS 0 rfl rfl 15 (by decide) (hts _ fl_X8_97) (fun _ h9 => h9) rfl pd_I rfl rfl (Nat.le_of_ble_eq_true rfl) dX8_make_115 (fun H locs hP1 _ hS => ?_)
            have hP : va_P (zD v) vwCl (pM.1 v (up g16.1 0 (upd (g16.1 0) 15 ((g16.1 0 15) + (1 : Int32))), g16.2)) H := hP1
            obtain ⟨g17, eg17, hf⟩ := lt_e hf
            rw [← eg17] at hP
            refine lv_aload_n hx hb dX8_make_118 rfl (lv_at hl 0 rfl) ?_
            refine va_get (D := zD v) (ci := 7) (v := .int (g17.1 0 15)) (C := RX8) (T := TX8) (N := 55) hx hb hts iX8 hown hk.1 hP 0 rfl rfl 15 (by decide) (hts _ fl_X8_97) (fun _ h9 => h9) rfl dX8_make_119 ?_
            refine lv_iconst (v := 1) hx hb dX8_make_122 kI_1 ?_
            refine lv_isub hx hb dX8_make_123 ?_
            exact hret _ _ _ _ _ _ (Or.inl rfl) (Option.some.inj hf) hP hS dX8_make_124
          · have hf := ite_t c8 hf
            refine lv_bipush (v := -4) hx hb dX8_make_56 kB_m4 ?_
            exact hret _ _ _ _ _ _ (Or.inl rfl) (Option.some.inj hf) hP hS dX8_make_58
        · have hf := ite_t c7 hf
          refine lv_bipush (v := -2) hx hb dX8_make_45 kB_m2 ?_
          exact hret _ _ _ _ _ _ (Or.inl rfl) (Option.some.inj hf) hP hS dX8_make_47
abbrev rm_X8_longOf : Room := { frames := 1, cells := 0, slots := 0, locals := 60 }
set_option maxRecDepth 100000 in
theorem t_X8_longOf (l : Launch) (v : Ev) (N : Nat) (a1 : Int32) (g : SM) (res : Int32 × SM) (hf : x_X8_longOf N a1 g = some res) : Ci l yX8_longOf cX8_longOf 6 .int rm_X8_longOf pM v [.ref (zA v 0), .int a1] g res := by
  refine ze_i (by decide +kernel) (Nat.le_of_ble_eq_true rfl) ?_
  intro p e s m args below meth c Q ls hcx hret hP hl
  obtain ⟨hx, hb, hml, hown, hts, hk⟩ := hcx
  have hown : s.vm.findClass RX8 = some m.cls := hown
  have hS : va_S (An nM v) s.heap s.heap [] := va_S.rf
  have hl : lv_has ls 6 [(0, .ref (zA v 0)), (1, .int a1)] := hl
  unfold x_X8_longOf at hf
  refine lv_iload_n hx hb dX8_longOf_0 rfl (lv_at hl 1 rfl) ?_
  refine lv_bipush (v := 20) hx hb dX8_longOf_1 kB_20 ?_
  refine lv_idiv hx hb dX8_longOf_3 kz_20 ?_
  obtain ⟨x1, ex1, hf⟩ := lt_e hf
  refine lv_nm ex1 ?_
  refine lv_istore_n (lv' := [(2, .int x1), (0, .ref (zA v 0)), (1, .int a1)]) hx hb dX8_longOf_4 rfl hl (by decide) rfl (fun ls hl => ?_)
  refine lv_iload_n hx hb dX8_longOf_5 rfl (lv_at hl 2 rfl) ?_
  refine lv_bipush (v := 20) hx hb dX8_longOf_6 kB_20 ?_
  refine lv_irem hx hb dX8_longOf_8 kz_20 ?_
  refine lv_nm (z := (rmI a1 (20 : Int32))) rfl ?_
  obtain ⟨x2, ex2, hf⟩ := lt_e hf
  refine lv_nm ex2 ?_
  refine lv_istore_n (lv' := [(3, .int x2), (2, .int x1), (0, .ref (zA v 0)), (1, .int a1)]) hx hb dX8_longOf_9 rfl hl (by decide) rfl (fun ls hl => ?_)
  refine lv_aload_n hx hb dX8_longOf_10 rfl (lv_at hl 2 rfl) ?_
  refine va_get (D := zD v) (ci := 7) (v := .ref (zA v 5)) (C := RX8) (T := TX8) (N := 55) hx hb hts iX8 hown hk.1 hP 0 rfl rfl 11 (by decide) (hts _ fl_X8_35) (fun _ h9 => h9) rfl dX8_longOf_11 ?_
  refine lv_iload_n hx hb dX8_longOf_14 rfl (lv_at hl 1 rfl) ?_
  obtain ⟨c3, hf⟩ := gd_e hf
  refine va_iald hx hb hk.1 hP 5 0 rfl rfl (inb_in c3) dX8_longOf_15 ?_
  obtain ⟨x4, ex4, hf⟩ := lt_e hf
  refine lv_nm ex4 ?_
  refine lv_istore (lv' := [(4, .int x4), (3, .int x2), (2, .int x1), (0, .ref (zA v 0)), (1, .int a1)]) hx hb dX8_longOf_16 hl (by decide) rfl (fun ls hl => ?_)
  refine lv_iload hx hb dX8_longOf_18 (lv_at hl 0 rfl) ?_
  refine lv_iconst (v := 5) hx hb dX8_longOf_20 kI_5 ?_
  refine lv_icmp_ne (tgt := 38) hx hb dX8_longOf_21 (by decide) (fun c5 => ?_) (fun c5 => ?_)
  · have hf := ite_f c5 hf
    refine lv_iconst (v := 5) hx hb dX8_longOf_38 kI_5 ?_
    refine lv_iload_n hx hb dX8_longOf_39 rfl (lv_at hl 1 rfl) ?_
    refine lv_imul hx hb dX8_longOf_40 ?_
    refine lv_aload_n hx hb dX8_longOf_41 rfl (lv_at hl 3 rfl) ?_
    refine va_get (D := zD v) (ci := 7) (v := .ref (zA v 7)) (C := RX8) (T := TX8) (N := 55) hx hb hts iX8 hown hk.1 hP 0 rfl rfl 13 (by decide) (hts _ fl_X8_41) (fun _ h9 => h9) rfl dX8_longOf_42 ?_
    refine lv_iload_n hx hb dX8_longOf_45 rfl (lv_at hl 2 rfl) ?_
    obtain ⟨c6, hf⟩ := gd_e hf
    refine va_iald hx hb hk.1 hP 7 0 rfl rfl (inb_in c6) dX8_longOf_46 ?_
    refine lv_iadd hx hb dX8_longOf_47 ?_
    obtain ⟨x7, ex7, hf⟩ := lt_e hf
    refine lv_nm ex7 ?_
    refine lv_istore (lv' := [(5, .int x7), (4, .int x4), (3, .int x2), (2, .int x1), (0, .ref (zA v 0)), (1, .int a1)]) hx hb dX8_longOf_48 hl (by decide) rfl (fun ls hl => ?_)
    refine lv_iload hx hb dX8_longOf_50 (lv_at hl 1 rfl) ?_
    refine lv_iconst (v := 1) hx hb dX8_longOf_52 kI_1 ?_
    refine lv_icmp_ne (tgt := 68) hx hb dX8_longOf_53 (by decide) (fun c8 => ?_) (fun c8 => ?_)
    · have hf := ite_f c8 hf
      refine lv_iload hx hb dX8_longOf_68 (lv_at hl 1 rfl) ?_
      refine lv_iconst (v := 3) hx hb dX8_longOf_70 kI_3 ?_
      refine lv_icmp_ne (tgt := 88) hx hb dX8_longOf_71 (by decide) (fun c9 => ?_) (fun c9 => ?_)
      · have hf := ite_f c9 hf
        refine lv_iload hx hb dX8_longOf_88 (lv_at hl 1 rfl) ?_
        refine lv_iconst (v := 4) hx hb dX8_longOf_90 kI_4 ?_
        refine lv_icmp_ne (tgt := 101) hx hb dX8_longOf_91 (by decide) (fun c10 => ?_) (fun c10 => ?_)
        · have hf := ite_f c10 hf
          refine lv_iload hx hb dX8_longOf_101 (lv_at hl 0 rfl) ?_
          exact hret _ _ _ _ _ _ (Or.inl rfl) (Option.some.inj hf) hP hS dX8_longOf_103
        · have hf := ite_t c10 hf
          refine lv_iload hx hb dX8_longOf_94 (lv_at hl 0 rfl) ?_
          refine lv_iconst (v := 2) hx hb dX8_longOf_96 kI_2 ?_
          refine lv_iadd hx hb dX8_longOf_97 ?_
          refine lv_goto (tgt := 103) hx hb dX8_longOf_98 (by decide) ?_
          exact hret _ _ _ _ _ _ (Or.inl rfl) (Option.some.inj hf) hP hS dX8_longOf_103
      · have hf := ite_t c9 hf
        refine lv_iload hx hb dX8_longOf_74 (lv_at hl 0 rfl) ?_
        refine lv_aload_n hx hb dX8_longOf_76 rfl (lv_at hl 4 rfl) ?_
        refine va_get (D := zD v) (ci := 7) (v := .ref (zA v 6)) (C := RX8) (T := TX8) (N := 55) hx hb hts iX8 hown hk.1 hP 0 rfl rfl 12 (by decide) (hts _ fl_X8_38) (fun _ h9 => h9) rfl dX8_longOf_77 ?_
        refine lv_iload_n hx hb dX8_longOf_80 rfl (lv_at hl 3 rfl) ?_
        obtain ⟨c11, hf⟩ := gd_e hf
        refine va_iald hx hb hk.1 hP 6 0 rfl rfl (inb_in c11) dX8_longOf_81 ?_
        refine lv_isub hx hb dX8_longOf_82 ?_
        refine lv_iconst (v := 3) hx hb dX8_longOf_83 kI_3 ?_
        refine lv_isub hx hb dX8_longOf_84 ?_
        refine lv_goto (tgt := 103) hx hb dX8_longOf_85 (by decide) ?_
        exact hret _ _ _ _ _ _ (Or.inl rfl) (Option.some.inj hf) hP hS dX8_longOf_103
    · have hf := ite_t c8 hf
      refine lv_iload hx hb dX8_longOf_56 (lv_at hl 0 rfl) ?_
      refine lv_aload_n hx hb dX8_longOf_58 rfl (lv_at hl 4 rfl) ?_
      refine va_get (D := zD v) (ci := 7) (v := .ref (zA v 6)) (C := RX8) (T := TX8) (N := 55) hx hb hts iX8 hown hk.1 hP 0 rfl rfl 12 (by decide) (hts _ fl_X8_38) (fun _ h9 => h9) rfl dX8_longOf_59 ?_
      refine lv_iload_n hx hb dX8_longOf_62 rfl (lv_at hl 3 rfl) ?_
      obtain ⟨c12, hf⟩ := gd_e hf
      refine va_iald hx hb hk.1 hP 6 0 rfl rfl (inb_in c12) dX8_longOf_63 ?_
      refine lv_isub hx hb dX8_longOf_64 ?_
      refine lv_goto (tgt := 103) hx hb dX8_longOf_65 (by decide) ?_
      exact hret _ _ _ _ _ _ (Or.inl rfl) (Option.some.inj hf) hP hS dX8_longOf_103
  · have hf := ite_t c5 hf
    refine lv_bipush (v := 10) hx hb dX8_longOf_24 kB_10 ?_
    refine lv_iload_n hx hb dX8_longOf_26 rfl (lv_at hl 1 rfl) ?_
    refine lv_iconst (v := 2) hx hb dX8_longOf_27 kI_2 ?_
    refine lv_idiv hx hb dX8_longOf_28 kz_2 ?_
    refine lv_imul hx hb dX8_longOf_29 ?_
    refine lv_aload_n hx hb dX8_longOf_30 rfl (lv_at hl 3 rfl) ?_
    refine va_get (D := zD v) (ci := 7) (v := .ref (zA v 7)) (C := RX8) (T := TX8) (N := 55) hx hb hts iX8 hown hk.1 hP 0 rfl rfl 13 (by decide) (hts _ fl_X8_41) (fun _ h9 => h9) rfl dX8_longOf_31 ?_
    refine lv_iload_n hx hb dX8_longOf_34 rfl (lv_at hl 2 rfl) ?_
    obtain ⟨c13, hf⟩ := gd_e hf
    refine va_iald hx hb hk.1 hP 7 0 rfl rfl (inb_in c13) dX8_longOf_35 ?_
    refine lv_iadd hx hb dX8_longOf_36 ?_
    exact hret _ _ _ _ _ _ (Or.inl rfl) (Option.some.inj hf) hP hS dX8_longOf_37
abbrev rm_X8_plainly : Room := { frames := 1, cells := 0, slots := 0, locals := 60 }
set_option maxRecDepth 100000 in
theorem t_X8_plainly (l : Launch) (v : Ev) (N : Nat) (a0 : Int32) (g : SM) (res : Int32 × SM) (hf : x_X8_plainly N a0 g = some res) : Ci l yX8_plainly cX8_plainly 1 .int rm_X8_plainly pM v [.int a0] g res := by
  refine ze_i (by decide +kernel) (Nat.le_of_ble_eq_true rfl) ?_
  intro p e s m args below meth c Q ls hcx hret hP hl
  obtain ⟨hx, hb, hml, hown, hts, hk⟩ := hcx
  have hown : s.vm.findClass RX8 = some m.cls := hown
  have hS : va_S (An nM v) s.heap s.heap [] := va_S.rf
  have hl : lv_has ls 1 [(0, .int a0)] := hl
  unfold x_X8_plainly at hf
  refine lv_iload_n hx hb dX8_plainly_0 rfl (lv_at hl 0 rfl) ?_
  refine lv_bipush (v := -4) hx hb dX8_plainly_1 kB_m4 ?_
  refine lv_icmp_ge (tgt := 11) hx hb dX8_plainly_3 (by decide) (fun c1 => ?_) (fun c1 => ?_)
  · have hf := ite_t c1 hf
    refine lv_iload_n hx hb dX8_plainly_11 rfl (lv_at hl 0 rfl) ?_
    refine lv_iconst (v := -1) hx hb dX8_plainly_12 kI_m1 ?_
    refine lv_icmp_ge (tgt := 20) hx hb dX8_plainly_13 (by decide) (fun c2 => ?_) (fun c2 => ?_)
    · have hf := ite_t c2 hf
      refine lv_iload_n hx hb dX8_plainly_20 rfl (lv_at hl 0 rfl) ?_
      refine lv_iconst (v := 5) hx hb dX8_plainly_21 kI_5 ?_
      refine lv_icmp_ge (tgt := 29) hx hb dX8_plainly_22 (by decide) (fun c3 => ?_) (fun c3 => ?_)
      · have hf := ite_t c3 hf
        refine lv_iload_n hx hb dX8_plainly_29 rfl (lv_at hl 0 rfl) ?_
        refine lv_bipush (v := 9) hx hb dX8_plainly_30 kB_9 ?_
        refine lv_icmp_ge (tgt := 39) hx hb dX8_plainly_32 (by decide) (fun c4 => ?_) (fun c4 => ?_)
        · have hf := ite_t c4 hf
          refine lv_iconst (v := 2) hx hb dX8_plainly_39 kI_2 ?_
          exact hret _ _ _ _ _ _ (Or.inl rfl) (Option.some.inj hf) hP hS dX8_plainly_40
        · have hf := ite_f c4 hf
          refine lv_iconst (v := 1) hx hb dX8_plainly_35 kI_1 ?_
          refine lv_goto (tgt := 40) hx hb dX8_plainly_36 (by decide) ?_
          exact hret _ _ _ _ _ _ (Or.inl rfl) (Option.some.inj hf) hP hS dX8_plainly_40
      · have hf := ite_f c3 hf
        refine lv_iconst (v := 0) hx hb dX8_plainly_25 kI_0 ?_
        refine lv_goto (tgt := 40) hx hb dX8_plainly_26 (by decide) ?_
        exact hret _ _ _ _ _ _ (Or.inl rfl) (Option.some.inj hf) hP hS dX8_plainly_40
    · have hf := ite_f c2 hf
      refine lv_iconst (v := -1) hx hb dX8_plainly_16 kI_m1 ?_
      refine lv_goto (tgt := 40) hx hb dX8_plainly_17 (by decide) ?_
      exact hret _ _ _ _ _ _ (Or.inl rfl) (Option.some.inj hf) hP hS dX8_plainly_40
  · have hf := ite_f c1 hf
    refine lv_bipush (v := -2) hx hb dX8_plainly_6 kB_m2 ?_
    refine lv_goto (tgt := 40) hx hb dX8_plainly_8 (by decide) ?_
    exact hret _ _ _ _ _ _ (Or.inl rfl) (Option.some.inj hf) hP hS dX8_plainly_40
abbrev rm_X8_saysOf : Room := { frames := 2, cells := 0, slots := 0, locals := 85 }
set_option maxRecDepth 100000 in
theorem t_X8_saysOf (l : Launch) (v : Ev) (N : Nat) (a1 : Int32) (a2 : Int32) (g : SM) (res : Int32 × SM) (hf : x_X8_saysOf N a1 a2 g = some res) : Ci l yX8_saysOf cX8_saysOf 7 .int rm_X8_saysOf pM v [.ref (zA v 0), .int a1, .int a2] g res := by
  refine ze_i (by decide +kernel) (Nat.le_of_ble_eq_true rfl) ?_
  intro p e s m args below meth c Q ls hcx hret hP hl
  obtain ⟨hx, hb, hml, hown, hts, hk⟩ := hcx
  have hown : s.vm.findClass RX8 = some m.cls := hown
  have hS : va_S (An nM v) s.heap s.heap [] := va_S.rf
  have hl : lv_has ls 7 [(0, .ref (zA v 0)), (1, .int a1), (2, .int a2)] := hl
  have wb73 : ∀ (y4 : Int32) (y6 : Int32) (g : SM) (hf : x_X8_saysOf_b73 N y4 y6 g = some res) (H : Heap) (locs : List Loc) (ls : Array Slot) (hP : va_P (zD v) vwCl (pM.1 v g) H) (hS : va_S (An nM v) s.heap H locs) (hl : lv_has ls 7 [(4, .int y4), (6, .int y6)]), W p l e rm_X8_saysOf s m args below meth c H locs 0 0 Q (F0 m 73 ls []) := by
    intro y4 y6 g hf H locs ls hP hS hl
    unfold x_X8_saysOf_b73 at hf
    refine lv_iload hx hb dX8_saysOf_73 (lv_at hl 0 rfl) ?_
    refine lv_iconst (v := 5) hx hb dX8_saysOf_75 kI_5 ?_
    refine lv_icmp_ne (tgt := 89) hx hb dX8_saysOf_76 (by decide) (fun c10 => ?_) (fun c10 => ?_)
    · have hf := ite_f c10 hf
      refine lv_iload hx hb dX8_saysOf_89 (lv_at hl 1 rfl) ?_
      exact hret _ _ _ _ _ _ (Or.inl rfl) (Option.some.inj hf) hP hS dX8_saysOf_91
    · have hf := ite_t c10 hf
      refine lv_iload hx hb dX8_saysOf_79 (lv_at hl 1 rfl) ?_
      refine lv_iconst (v := 1) hx hb dX8_saysOf_81 kI_1 ?_
      refine lv_icmp_ne (tgt := 89) hx hb dX8_saysOf_82 (by decide) (fun c11 => ?_) (fun c11 => ?_)
      · have hf := ite_f c11 hf
        refine lv_iload hx hb dX8_saysOf_89 (lv_at hl 1 rfl) ?_
        exact hret _ _ _ _ _ _ (Or.inl rfl) (Option.some.inj hf) hP hS dX8_saysOf_91
      · have hf := ite_t c11 hf
        refine lv_iconst (v := 0) hx hb dX8_saysOf_85 kI_0 ?_
        refine lv_goto (tgt := 91) hx hb dX8_saysOf_86 (by decide) ?_
        exact hret _ _ _ _ _ _ (Or.inl rfl) (Option.some.inj hf) hP hS dX8_saysOf_91
  have wb50 : ∀ (y4 : Int32) (t0 : Int32) (g : SM) (hf : x_X8_saysOf_b50 N y4 t0 g = some res) (H : Heap) (locs : List Loc) (ls : Array Slot) (hP : va_P (zD v) vwCl (pM.1 v g) H) (hS : va_S (An nM v) s.heap H locs) (hl : lv_has ls 7 [(4, .int y4)]), W p l e rm_X8_saysOf s m args below meth c H locs 0 0 Q (F0 m 50 ls [.int t0]) := by
    intro y4 t0 g hf H locs ls hP hS hl
    unfold x_X8_saysOf_b50 at hf
    obtain ⟨q8, eq8, hf⟩ := bd_e hf
    refine zki hS (zrS (As := [.int t0]) (rest := []) okM hx hb hml hown hts hk hP hS (t_X8_plainly l v N t0 g _ eq8) sk_X8_plainly ml_X8_142 rfl rfl ⟨(Nat.le_of_ble_eq_true rfl), (Nat.le_of_ble_eq_true rfl)⟩ rfl hl.1 rfl (Nat.le_of_ble_eq_true rfl) dX8_saysOf_50) (fun H locs hP hS => ?_)
    refine lv_istore (lv' := [(6, .int q8.1), (4, .int y4)]) hx hb dX8_saysOf_53 hl (by decide) rfl (fun ls hl => ?_)
    refine lv_iload hx hb dX8_saysOf_55 (lv_at hl 1 rfl) ?_
    refine lv_iconst (v := 3) hx hb dX8_saysOf_57 kI_3 ?_
    refine lv_icmp_ne (tgt := 73) hx hb dX8_saysOf_58 (by decide) (fun c9 => ?_) (fun c9 => ?_)
    · have hf := ite_f c9 hf
      exact wb73 y4 q8.1 q8.2 hf _ _ _ hP hS (lv_sub hl [1, 0] rfl)
    · have hf := ite_t c9 hf
      refine lv_iload hx hb dX8_saysOf_61 (lv_at hl 0 rfl) ?_
      refine lv_if_lt (tgt := 73) hx hb dX8_saysOf_63 (by decide) (fun c12 => ?_) (fun c12 => ?_)
      · have hf := ite_t c12 hf
        exact wb73 y4 q8.1 q8.2 hf _ _ _ hP hS (lv_sub hl [1, 0] rfl)
      · have hf := ite_f c12 hf
        refine lv_iload hx hb dX8_saysOf_66 (lv_at hl 0 rfl) ?_
        refine lv_iconst (v := 1) hx hb dX8_saysOf_68 kI_1 ?_
        refine lv_isub hx hb dX8_saysOf_69 ?_
        refine lv_goto (tgt := 91) hx hb dX8_saysOf_70 (by decide) ?_
        exact hret _ _ _ _ _ _ (Or.inl rfl) (Option.some.inj hf) hP hS dX8_saysOf_91
  have wb34 : ∀ (y3 : Int32) (y4 : Int32) (y5 : Int32) (g : SM) (hf : x_X8_saysOf_b34 N y3 y4 y5 g = some res) (H : Heap) (locs : List Loc) (ls : Array Slot) (hP : va_P (zD v) vwCl (pM.1 v g) H) (hS : va_S (An nM v) s.heap H locs) (hl : lv_has ls 7 [(0, .ref (zA v 0)), (3, .int y3), (4, .int y4), (5, .int y5)]), W p l e rm_X8_saysOf s m args below meth c H locs 0 0 Q (F0 m 34 ls []) := by
    intro y3 y4 y5 g hf H locs ls hP hS hl
    unfold x_X8_saysOf_b34 at hf
    refine lv_iload hx hb dX8_saysOf_34 (lv_at hl 3 rfl) ?_
    refine lv_aload_n hx hb dX8_saysOf_36 rfl (lv_at hl 0 rfl) ?_
    refine va_get (D := zD v) (ci := 7) (v := .ref (zA v 6)) (C := RX8) (T := TX8) (N := 55) hx hb hts iX8 hown hk.1 hP 0 rfl rfl 12 (by decide) (hts _ fl_X8_38) (fun _ h9 => h9) rfl dX8_saysOf_37 ?_
    refine lv_iload_n hx hb dX8_saysOf_40 rfl (lv_at hl 1 rfl) ?_
    obtain ⟨c7, hf⟩ := gd_e hf
    refine va_iald hx hb hk.1 hP 6 0 rfl rfl (inb_in c7) dX8_saysOf_41 ?_
    refine lv_iconst (v := 3) hx hb dX8_saysOf_42 kI_3 ?_
    refine lv_idiv hx hb dX8_saysOf_43 kz_3 ?_
    refine lv_iadd hx hb dX8_saysOf_44 ?_
    refine lv_goto (tgt := 50) hx hb dX8_saysOf_45 (by decide) ?_
    exact wb50 y4 (y5 + ((g.1 6 (y3).toNatClampNeg) / (3 : Int32))) g hf _ _ _ hP hS (lv_sub hl [2] rfl)
  unfold x_X8_saysOf at hf
  refine lv_iload_n hx hb dX8_saysOf_0 rfl (lv_at hl 1 rfl) ?_
  refine lv_bipush (v := 20) hx hb dX8_saysOf_1 kB_20 ?_
  refine lv_idiv hx hb dX8_saysOf_3 kz_20 ?_
  obtain ⟨x1, ex1, hf⟩ := lt_e hf
  refine lv_nm ex1 ?_
  refine lv_istore_n (lv' := [(3, .int x1), (0, .ref (zA v 0)), (1, .int a1), (2, .int a2)]) hx hb dX8_saysOf_4 rfl hl (by decide) rfl (fun ls hl => ?_)
  refine lv_aload_n hx hb dX8_saysOf_5 rfl (lv_at hl 1 rfl) ?_
  refine va_get (D := zD v) (ci := 7) (v := .ref (zA v 5)) (C := RX8) (T := TX8) (N := 55) hx hb hts iX8 hown hk.1 hP 0 rfl rfl 11 (by decide) (hts _ fl_X8_35) (fun _ h9 => h9) rfl dX8_saysOf_6 ?_
  refine lv_iload_n hx hb dX8_saysOf_9 rfl (lv_at hl 0 rfl) ?_
  obtain ⟨c2, hf⟩ := gd_e hf
  refine va_iald hx hb hk.1 hP 5 0 rfl rfl (inb_in c2) dX8_saysOf_10 ?_
  obtain ⟨x3, ex3, hf⟩ := lt_e hf
  refine lv_nm ex3 ?_
  refine lv_istore (lv' := [(4, .int x3), (3, .int x1), (0, .ref (zA v 0)), (1, .int a1), (2, .int a2)]) hx hb dX8_saysOf_11 hl (by decide) rfl (fun ls hl => ?_)
  refine lv_aload_n hx hb dX8_saysOf_13 rfl (lv_at hl 2 rfl) ?_
  refine lv_iload_n hx hb dX8_saysOf_14 rfl (lv_at hl 3 rfl) ?_
  obtain ⟨q4, eq4, hf⟩ := bd_e hf
  refine zki hS (zrV (As := [.int a1]) (rest := []) okM hx hb hml hown hts hk hP hS (t_X8_longOf l v N a1 g _ eq4) vk_X8_longOf ml_X8_139 rfl rfl ⟨(Nat.le_of_ble_eq_true rfl), (Nat.le_of_ble_eq_true rfl)⟩ (va_recv (q := (RX8, TX8, 55)) hk.1 hP (q0 := 0) (ci := 7) rfl rfl) rfl hl.1 rfl (Nat.le_of_ble_eq_true rfl) dX8_saysOf_15) (fun H locs hP hS => ?_)
  refine lv_iload_n hx hb dX8_saysOf_18 rfl (lv_at hl 4 rfl) ?_
  refine lv_isub hx hb dX8_saysOf_19 ?_
  obtain ⟨x5, ex5, hf⟩ := lt_e hf
  refine lv_nm ex5 ?_
  refine lv_istore (lv' := [(5, .int x5), (4, .int x3), (3, .int x1), (0, .ref (zA v 0)), (1, .int a1), (2, .int a2)]) hx hb dX8_saysOf_20 hl (by decide) rfl (fun ls hl => ?_)
  refine lv_iload hx hb dX8_saysOf_22 (lv_at hl 1 rfl) ?_
  refine lv_iconst (v := 2) hx hb dX8_saysOf_24 kI_2 ?_
  refine lv_icmp_eq (tgt := 34) hx hb dX8_saysOf_25 (by decide) (fun c6 => ?_) (fun c6 => ?_)
  · have hf := ite_t c6 hf
    exact wb34 x1 x3 x5 q4.2 hf _ _ _ hP hS (lv_sub hl [3, 2, 1, 0] rfl)
  · have hf := ite_f c6 hf
    refine lv_iload hx hb dX8_saysOf_28 (lv_at hl 1 rfl) ?_
    refine lv_iconst (v := 4) hx hb dX8_saysOf_30 kI_4 ?_
    refine lv_icmp_ne (tgt := 48) hx hb dX8_saysOf_31 (by decide) (fun c13 => ?_) (fun c13 => ?_)
    · have hf := ite_f c13 hf
      refine lv_iload hx hb dX8_saysOf_48 (lv_at hl 0 rfl) ?_
      exact wb50 x3 x5 q4.2 hf _ _ _ hP hS (lv_sub hl [1] rfl)
    · have hf := ite_t c13 hf
      exact wb34 x1 x3 x5 q4.2 hf _ _ _ hP hS (lv_sub hl [3, 2, 1, 0] rfl)
abbrev rm_X8_isShoe : Room := { frames := 2, cells := 0, slots := 0, locals := 85 }
set_option maxRecDepth 100000 in
theorem t_X8_isShoe (l : Launch) (v : Ev) (N : Nat) (a1 : Int32) (g : SM) (res : Int32 × SM) (hf : x_X8_isShoe N a1 g = some res) : Ci l yX8_isShoe cX8_isShoe 2 .boolean rm_X8_isShoe pM v [.ref (zA v 0), .int a1] g res := by
  refine ze_i (by decide +kernel) (Nat.le_of_ble_eq_true rfl) ?_
  intro p e s m args below meth c Q ls hcx hret hP hl
  obtain ⟨hx, hb, hml, hown, hts, hk⟩ := hcx
  have hown : s.vm.findClass RX8 = some m.cls := hown
  have hS : va_S (An nM v) s.heap s.heap [] := va_S.rf
  have hl : lv_has ls 2 [(0, .ref (zA v 0)), (1, .int a1)] := hl
  unfold x_X8_isShoe at hf
  refine lv_iload_n hx hb dX8_isShoe_0 rfl (lv_at hl 1 rfl) ?_
  refine lv_i2l hx hb dX8_isShoe_1 rfl ?_
  refine lv_lconst (v := 0) hx hb dX8_isShoe_2 kL_0 ?_
  refine lv_bipush (v := 20) hx hb dX8_isShoe_3 kB_20 ?_
  refine lv_aload_n hx hb dX8_isShoe_5 rfl (lv_at hl 0 rfl) ?_
  refine va_get (D := zD v) (ci := 7) (v := .int (g.1 0 15)) (C := RX8) (T := TX8) (N := 55) hx hb hts iX8 hown hk.1 hP 0 rfl rfl 15 (by decide) (hts _ fl_X8_97) (fun _ h9 => h9) rfl dX8_isShoe_6 ?_
  refine lv_imul hx hb dX8_isShoe_9 ?_
  refine lv_iconst (v := 1) hx hb dX8_isShoe_10 kI_1 ?_
  refine lv_isub hx hb dX8_isShoe_11 ?_
  refine lv_i2l hx hb dX8_isShoe_12 rfl ?_
  obtain ⟨q1, eq1, hf⟩ := bd_e hf
  refine zki hS (zrS (As := [.long ((a1).toInt64), .long (0 : Int64), .long (((((20 : Int32) * (g.1 0 15)) - (1 : Int32))).toInt64)]) (rest := []) okM hx hb hml hown hts hk hP hS (t_X8_in l v N ((a1).toInt64) (0 : Int64) (((((20 : Int32) * (g.1 0 15)) - (1 : Int32))).toInt64) g _ eq1) sk_X8_in ml_X8_100 rfl rfl ⟨(Nat.le_of_ble_eq_true rfl), (Nat.le_of_ble_eq_true rfl)⟩ rfl hl.1 rfl (Nat.le_of_ble_eq_true rfl) dX8_isShoe_13) (fun H locs hP hS => ?_)
  obtain ⟨c2, hf⟩ := gd_e hf
  exact hret _ _ _ _ _ _ (Or.inr (nb01 c2)) (Option.some.inj hf) hP hS dX8_isShoe_16
abbrev rm_X8_isStock : Room := { frames := 1, cells := 0, slots := 0, locals := 60 }
set_option maxRecDepth 100000 in
theorem t_X8_isStock (l : Launch) (v : Ev) (N : Nat) (a1 : Int32) (g : SM) (res : Int32 × SM) (hf : x_X8_isStock N a1 g = some res) : Ci l yX8_isStock cX8_isStock 2 .boolean rm_X8_isStock pM v [.ref (zA v 0), .int a1] g res := by
  refine ze_i (by decide +kernel) (Nat.le_of_ble_eq_true rfl) ?_
  intro p e s m args below meth c Q ls hcx hret hP hl
  obtain ⟨hx, hb, hml, hown, hts, hk⟩ := hcx
  have hown : s.vm.findClass RX8 = some m.cls := hown
  have hS : va_S (An nM v) s.heap s.heap [] := va_S.rf
  have hl : lv_has ls 2 [(0, .ref (zA v 0)), (1, .int a1)] := hl
  unfold x_X8_isStock at hf
  refine lv_aload_n hx hb dX8_isStock_0 rfl (lv_at hl 0 rfl) ?_
  refine va_get (D := zD v) (ci := 7) (v := .ref (zA v 8)) (C := RX8) (T := TX8) (N := 55) hx hb hts iX8 hown hk.1 hP 0 rfl rfl 14 (by decide) (hts _ fl_X8_44) (fun _ h9 => h9) rfl dX8_isStock_1 ?_
  refine lv_iload_n hx hb dX8_isStock_4 rfl (lv_at hl 1 rfl) ?_
  refine lv_bipush (v := 20) hx hb dX8_isStock_5 kB_20 ?_
  refine lv_idiv hx hb dX8_isStock_7 kz_20 ?_
  obtain ⟨c1, hf⟩ := gd_e hf
  refine va_iald hx hb hk.1 hP 8 0 rfl rfl (inb_in c1) dX8_isStock_8 ?_
  refine lv_iload_n hx hb dX8_isStock_9 rfl (lv_at hl 1 rfl) ?_
  refine lv_bipush (v := 20) hx hb dX8_isStock_10 kB_20 ?_
  refine lv_irem hx hb dX8_isStock_12 kz_20 ?_
  refine lv_nm (z := (rmI a1 (20 : Int32))) rfl ?_
  refine lv_ishr hx hb dX8_isStock_13 ?_
  refine lv_iconst (v := 1) hx hb dX8_isStock_14 kI_1 ?_
  refine lv_iand hx hb dX8_isStock_15 ?_
  refine lv_iconst (v := 1) hx hb dX8_isStock_16 kI_1 ?_
  refine lv_icmp_ne (tgt := 24) hx hb dX8_isStock_17 (by decide) (fun c2 => ?_) (fun c2 => ?_)
  · have hf := ite_f c2 hf
    refine lv_iconst (v := 0) hx hb dX8_isStock_24 kI_0 ?_
    exact hret _ _ _ _ _ _ (Or.inr rfl) (Option.some.inj hf) hP hS dX8_isStock_25
  · have hf := ite_t c2 hf
    refine lv_iconst (v := 1) hx hb dX8_isStock_20 kI_1 ?_
    refine lv_goto (tgt := 25) hx hb dX8_isStock_21 (by decide) ?_
    exact hret _ _ _ _ _ _ (Or.inr rfl) (Option.some.inj hf) hP hS dX8_isStock_25
abbrev rm_X8_fit : Room := { frames := 3, cells := 0, slots := 0, locals := 111 }
set_option maxRecDepth 100000 in
theorem t_X8_fit (l : Launch) (v : Ev) (N : Nat) (a1 : Int32) (a2 : Int32) (g : SM) (res : Int32 × SM) (hf : x_X8_fit N a1 a2 g = some res) : Ci l yX8_fit cX8_fit 3 .int rm_X8_fit pM v [.ref (zA v 0), .int a1, .int a2] g res := by
  refine ze_i (by decide +kernel) (Nat.le_of_ble_eq_true rfl) ?_
  intro p e s m args below meth c Q ls hcx hret hP hl
  obtain ⟨hx, hb, hml, hown, hts, hk⟩ := hcx
  have hown : s.vm.findClass RX8 = some m.cls := hown
  have hS : va_S (An nM v) s.heap s.heap [] := va_S.rf
  have hl : lv_has ls 3 [(0, .ref (zA v 0)), (1, .int a1), (2, .int a2)] := hl
  have wb24 : ∀ (y1 : Int32) (y2 : Int32) (g : SM) (hf : x_X8_fit_b24 N y1 y2 g = some res) (H : Heap) (locs : List Loc) (ls : Array Slot) (hP : va_P (zD v) vwCl (pM.1 v g) H) (hS : va_S (An nM v) s.heap H locs) (hl : lv_has ls 3 [(0, .ref (zA v 0)), (1, .int y1), (2, .int y2)]), W p l e rm_X8_fit s m args below meth c H locs 0 0 Q (F0 m 24 ls []) := by
    intro y1 y2 g hf H locs ls hP hS hl
    unfold x_X8_fit_b24 at hf
    refine lv_iload_n hx hb dX8_fit_24 rfl (lv_at hl 2 rfl) ?_
    refine lv_iconst (v := -1) hx hb dX8_fit_25 kI_m1 ?_
    refine lv_icmp_ne (tgt := 37) hx hb dX8_fit_26 (by decide) (fun c4 => ?_) (fun c4 => ?_)
    · have hf := ite_f c4 hf
      refine lv_aload_n hx hb dX8_fit_37 rfl (lv_at hl 0 rfl) ?_
      refine lv_iload_n hx hb dX8_fit_38 rfl (lv_at hl 1 rfl) ?_
      refine lv_iload_n hx hb dX8_fit_39 rfl (lv_at hl 2 rfl) ?_
      obtain ⟨q5, eq5, hf⟩ := bd_e hf
      refine zki hS (zrV (As := [.int y1, .int y2]) (rest := []) okM hx hb hml hown hts hk hP hS (t_X8_saysOf l v N y1 y2 g _ eq5) vk_X8_saysOf ml_X8_148 rfl rfl ⟨(Nat.le_of_ble_eq_true rfl), (Nat.le_of_ble_eq_true rfl)⟩ (va_recv (q := (RX8, TX8, 55)) hk.1 hP (q0 := 0) (ci := 7) rfl rfl) rfl hl.1 rfl (Nat.le_of_ble_eq_true rfl) dX8_fit_40) (fun H locs hP hS => ?_)
      exact hret _ _ _ _ _ _ (Or.inl rfl) (Option.some.inj hf) hP hS dX8_fit_43
    · have hf := ite_t c4 hf
      refine lv_aload_n hx hb dX8_fit_29 rfl (lv_at hl 0 rfl) ?_
      refine lv_iload_n hx hb dX8_fit_30 rfl (lv_at hl 1 rfl) ?_
      obtain ⟨q6, eq6, hf⟩ := bd_e hf
      refine zki hS (zrV (As := [.int y1]) (rest := []) okM hx hb hml hown hts hk hP hS (t_X8_longOf l v N y1 g _ eq6) vk_X8_longOf ml_X8_139 rfl rfl ⟨(Nat.le_of_ble_eq_true rfl), (Nat.le_of_ble_eq_true rfl)⟩ (va_recv (q := (RX8, TX8, 55)) hk.1 hP (q0 := 0) (ci := 7) rfl rfl) rfl hl.1 rfl (Nat.le_of_ble_eq_true rfl) dX8_fit_31) (fun H locs hP hS => ?_)
      refine lv_goto (tgt := 43) hx hb dX8_fit_34 (by decide) ?_
      exact hret _ _ _ _ _ _ (Or.inl rfl) (Option.some.inj hf) hP hS dX8_fit_43
  unfold x_X8_fit at hf
  refine lv_aload_n hx hb dX8_fit_0 rfl (lv_at hl 0 rfl) ?_
  refine lv_iload_n hx hb dX8_fit_1 rfl (lv_at hl 1 rfl) ?_
  obtain ⟨q1, eq1, hf⟩ := bd_e hf
  refine zki hS (zrV (As := [.int a1]) (rest := []) okM hx hb hml hown hts hk hP hS (t_X8_isShoe l v N a1 g _ eq1) vk_X8_isShoe ml_X8_145 rfl rfl ⟨(Nat.le_of_ble_eq_true rfl), (Nat.le_of_ble_eq_true rfl)⟩ (va_recv (q := (RX8, TX8, 55)) hk.1 hP (q0 := 0) (ci := 7) rfl rfl) rfl hl.1 rfl (Nat.le_of_ble_eq_true rfl) dX8_fit_2) (fun H locs hP hS => ?_)
  refine lv_if_eq (tgt := 20) hx hb dX8_fit_5 (by decide) (fun c2 => ?_) (fun c2 => ?_)
  · have hf := ite_t c2 hf
    refine lv_sipush (v := -1000) hx hb dX8_fit_20 kS_m1000 ?_
    exact hret _ _ _ _ _ _ (Or.inl rfl) (Option.some.inj hf) hP hS dX8_fit_23
  · have hf := ite_f c2 hf
    refine lv_iload_n hx hb dX8_fit_8 rfl (lv_at hl 2 rfl) ?_
    refine lv_iconst (v := -1) hx hb dX8_fit_9 kI_m1 ?_
    refine lv_icmp_eq (tgt := 24) hx hb dX8_fit_10 (by decide) (fun c3 => ?_) (fun c3 => ?_)
    · have hf := ite_t c3 hf
      exact wb24 a1 a2 q1.2 hf _ _ _ hP hS (lv_sub hl [0, 1, 2] rfl)
    · have hf := ite_f c3 hf
      refine lv_iload_n hx hb dX8_fit_13 rfl (lv_at hl 2 rfl) ?_
      obtain ⟨q7, eq7, hf⟩ := bd_e hf
      refine zki hS (zrS (As := [.int a2]) (rest := []) okM hx hb hml hown hts hk hP hS (t_X8_isFoot l v N a2 q1.2 _ eq7) sk_X8_isFoot ml_X8_108 rfl rfl ⟨(Nat.le_of_ble_eq_true rfl), (Nat.le_of_ble_eq_true rfl)⟩ rfl hl.1 rfl (Nat.le_of_ble_eq_true rfl) dX8_fit_14) (fun H locs hP hS => ?_)
      refine lv_if_ne (tgt := 24) hx hb dX8_fit_17 (by decide) (fun c8 => ?_) (fun c8 => ?_)
      · have hf := ite_f c8 hf
        exact wb24 a1 a2 q7.2 hf _ _ _ hP hS (lv_sub hl [0, 1, 2] rfl)
      · have hf := ite_t c8 hf
        refine lv_sipush (v := -1000) hx hb dX8_fit_20 kS_m1000 ?_
        exact hret _ _ _ _ _ _ (Or.inl rfl) (Option.some.inj hf) hP hS dX8_fit_23
abbrev rm_X8_feed : Room := { frames := 2, cells := 0, slots := 0, locals := 85 }
set_option maxRecDepth 100000 in
theorem t_X8_feed (l : Launch) (v : Ev) (N : Nat) (a1 : Int32) (g : SM) (res : Int32 × SM) (hf : x_X8_feed N a1 g = some res) : Ci l yX8_feed cX8_feed 2 .int rm_X8_feed pM v [.ref (zA v 0), .int a1] g res := by
  refine ze_i (by decide +kernel) (Nat.le_of_ble_eq_true rfl) ?_
  intro p e s m args below meth c Q ls hcx hret hP hl
  obtain ⟨hx, hb, hml, hown, hts, hk⟩ := hcx
  have hown : s.vm.findClass RX8 = some m.cls := hown
  have hS : va_S (An nM v) s.heap s.heap [] := va_S.rf
  have hl : lv_has ls 2 [(0, .ref (zA v 0)), (1, .int a1)] := hl
  unfold x_X8_feed at hf
  refine lv_iload_n hx hb dX8_feed_0 rfl (lv_at hl 1 rfl) ?_
  refine lv_i2l hx hb dX8_feed_1 rfl ?_
  refine lv_lconst (v := 0) hx hb dX8_feed_2 kL_0 ?_
  refine lv_ldc2 (v := 255) hx hb hown (hts _ kc_X8_151) dX8_feed_3 ?_
  obtain ⟨q1, eq1, hf⟩ := bd_e hf
  refine zki hS (zrS (As := [.long ((a1).toInt64), .long (0 : Int64), .long (255 : Int64)]) (rest := []) okM hx hb hml hown hts hk hP hS (t_X8_in l v N ((a1).toInt64) (0 : Int64) (255 : Int64) g _ eq1) sk_X8_in ml_X8_100 rfl rfl ⟨(Nat.le_of_ble_eq_true rfl), (Nat.le_of_ble_eq_true rfl)⟩ rfl hl.1 rfl (Nat.le_of_ble_eq_true rfl) dX8_feed_6) (fun H locs hP hS => ?_)
  refine lv_if_ne (tgt := 15) hx hb dX8_feed_9 (by decide) (fun c2 => ?_) (fun c2 => ?_)
  · have hf := ite_f c2 hf
    refine lv_aload_n hx hb dX8_feed_15 rfl (lv_at hl 0 rfl) ?_
    refine va_get (D := zD v) (ci := 7) (v := .int (q1.2.1 0 6)) (C := RX8) (T := TX8) (N := 55) hx hb hts iX8 hown hk.1 hP 0 rfl rfl 6 (by decide) (hts _ fl_X8_153) (fun _ h9 => h9) rfl dX8_feed_16 ?_
    refine lv_sipush (v := 160) hx hb dX8_feed_19 kS_160 ?_
    refine lv_icmp_ne (tgt := 28) hx hb dX8_feed_22 (by decide) (fun c3 => ?_) (fun c3 => ?_)
    · have hf := ite_f c3 hf
      refine lv_aload_n hx hb dX8_feed_28 rfl (lv_at hl 0 rfl) ?_
      refine va_get (D := zD v) (ci := 7) (v := .ref (zA v 3)) (C := RX8) (T := TX8) (N := 55) hx hb hts iX8 hown hk.1 hP 0 rfl rfl 5 (by decide) (hts _ fl_X8_20) (fun _ h9 => h9) rfl dX8_feed_29 ?_
      refine lv_aload_n hx hb dX8_feed_32 rfl (lv_at hl 0 rfl) ?_
      refine va_get (D := zD v) (ci := 7) (v := .int (q1.2.1 0 6)) (C := RX8) (T := TX8) (N := 55) hx hb hts iX8 hown hk.1 hP 0 rfl rfl 6 (by decide) (hts _ fl_X8_153) (fun _ h9 => h9) rfl dX8_feed_33 ?_
      refine lv_iload_n hx hb dX8_feed_36 rfl (lv_at hl 1 rfl) ?_
      obtain ⟨c4, hf⟩ := gd_e hf
      refine va_iast hx hb hk.1 hP (zw_D okM hk _) hS 3 0 rfl rfl (inb_in c4) dX8_feed_37 (fun H locs hP1 _ hS => ?_)
      have hP : va_P (zD v) vwCl (pM.1 v (up q1.2.1 3 (upd (q1.2.1 3) ((q1.2.1 0 6)).toNatClampNeg a1), q1.2.2)) H := hP1
      obtain ⟨g5, eg5, hf⟩ := lt_e hf
      rw [← eg5] at hP
      refine lv_aload_n hx hb dX8_feed_38 rfl (lv_at hl 0 rfl) ?_
      refine lv_dup hx hb dX8_feed_39 rfl ?_
      refine va_get (D := zD v) (ci := 7) (v := .int (g5.1 0 6)) (C := RX8) (T := TX8) (N := 55) hx hb hts iX8 hown hk.1 hP 0 rfl rfl 6 (by decide) (hts _ fl_X8_153) (fun _ h9 => h9) rfl dX8_feed_40 ?_
      refine lv_iconst (v := 1) hx hb dX8_feed_43 kI_1 ?_
      refine lv_iadd hx hb dX8_feed_44 ?_
      refine va_put (D := zD v) (ci := 7) (v := .int ((g5.1 0 6) + (1 : Int32))) (ty := .int) (C := RX8) (T := TX8) (N := 55) hx hb hts iX8 tyX8 tyX8_ok nmX8 hown hk.1 hP (zw_D okM hk _) hS 0 rfl rfl 6 (by decide) (hts _ fl_X8_153) (fun _ h9 => h9) rfl pd_I rfl rfl (Nat.le_of_ble_eq_true rfl) dX8_feed_45 (fun H locs hP1 _ hS => ?_)
      have hP : va_P (zD v) vwCl (pM.1 v (up g5.1 0 (upd (g5.1 0) 6 ((g5.1 0 6) + (1 : Int32))), g5.2)) H := hP1
      obtain ⟨g6, eg6, hf⟩ := lt_e hf
      rw [← eg6] at hP
      refine lv_aload_n hx hb dX8_feed_48 rfl (lv_at hl 0 rfl) ?_
      refine va_get (D := zD v) (ci := 7) (v := .int (g6.1 0 6)) (C := RX8) (T := TX8) (N := 55) hx hb hts iX8 hown hk.1 hP 0 rfl rfl 6 (by decide) (hts _ fl_X8_153) (fun _ h9 => h9) rfl dX8_feed_49 ?_
      exact hret _ _ _ _ _ _ (Or.inl rfl) (Option.some.inj hf) hP hS dX8_feed_52
    · have hf := ite_t c3 hf
      refine lv_bipush (v := -4) hx hb dX8_feed_25 kB_m4 ?_
      exact hret _ _ _ _ _ _ (Or.inl rfl) (Option.some.inj hf) hP hS dX8_feed_27
  · have hf := ite_t c2 hf
    refine lv_bipush (v := -2) hx hb dX8_feed_12 kB_m2 ?_
    exact hret _ _ _ _ _ _ (Or.inl rfl) (Option.some.inj hf) hP hS dX8_feed_14
abbrev rm_X8_text : Room := { frames := 71, cells := 0, slots := 0, locals := 4469 }
set_option maxRecDepth 100000 in
theorem t_X8_text (l : Launch) (v : Ev) (N : Nat) (g : SM) (res : Int32 × SM) (hf : x_X8_text N g = some res) : Ci l yX8_text cX8_text 2 .int rm_X8_text pM v [.ref (zA v 0)] g res := by
  refine ze_i (by decide +kernel) (Nat.le_of_ble_eq_true rfl) ?_
  intro p e s m args below meth c Q ls hcx hret hP hl
  obtain ⟨hx, hb, hml, hown, hts, hk⟩ := hcx
  have hown : s.vm.findClass RX8 = some m.cls := hown
  have hS : va_S (An nM v) s.heap s.heap [] := va_S.rf
  have hl : lv_has ls 2 [(0, .ref (zA v 0))] := hl
  have wL14 : ∀ (n : Nat) (x : Int32 × SM), lp (x_X8_text_B14 N) n x = some res → ∀ (H : Heap) (locs : List Loc) (ls : Array Slot), va_P (zD v) vwCl (pM.1 v x.2) H → va_S (An nM v) s.heap H locs → lv_has ls 2 [(0, .ref (zA v 0)), (1, .int x.1)] → W p l e rm_X8_text s m args below meth c H locs 0 0 Q (F0 m 14 ls []) := by
    refine lp_w (P := fun x : Int32 × SM => ∀ (H : Heap) (locs : List Loc) (ls : Array Slot), va_P (zD v) vwCl (pM.1 v x.2) H → va_S (An nM v) s.heap H locs → lv_has ls 2 [(0, .ref (zA v 0)), (1, .int x.1)] → W p l e rm_X8_text s m args below meth c H locs 0 0 Q (F0 m 14 ls [])) ?_
    intro h14 hh14 x hf H locs ls hP hS hl
    unfold x_X8_text_B14 at hf
    refine lv_iload_n hx hb dX8_text_14 rfl (lv_at hl 1 rfl) ?_
    refine lv_aload_n hx hb dX8_text_15 rfl (lv_at hl 0 rfl) ?_
    refine va_get (D := zD v) (ci := 7) (v := .int (x.2.1 0 6)) (C := RX8) (T := TX8) (N := 55) hx hb hts iX8 hown hk.1 hP 0 rfl rfl 6 (by decide) (hts _ fl_X8_153) (fun _ h9 => h9) rfl dX8_text_16 ?_
    refine lv_icmp_ge (tgt := 49) hx hb dX8_text_19 (by decide) (fun c2 => ?_) (fun c2 => ?_)
    · have hf := ite_t c2 hf
      refine lv_aload_n hx hb dX8_text_49 rfl (lv_at hl 0 rfl) ?_
      refine va_get (D := zD v) (ci := 7) (v := .ref (zA v 2)) (C := RX8) (T := TX8) (N := 55) hx hb hts iX8 hown hk.1 hP 0 rfl rfl 2 (by decide) (hts _ fl_X8_17) (fun _ h9 => h9) rfl dX8_text_50 ?_
      refine lv_aload_n hx hb dX8_text_53 rfl (lv_at hl 0 rfl) ?_
      refine va_get (D := zD v) (ci := 7) (v := .int (x.2.1 0 3)) (C := RX8) (T := TX8) (N := 55) hx hb hts iX8 hown hk.1 hP 0 rfl rfl 3 (by decide) (hts _ fl_X8_94) (fun _ h9 => h9) rfl dX8_text_54 ?_
      refine lv_aload_n hx hb dX8_text_57 rfl (lv_at hl 0 rfl) ?_
      refine va_get (D := zD v) (ci := 7) (v := .int (x.2.1 0 6)) (C := RX8) (T := TX8) (N := 55) hx hb hts iX8 hown hk.1 hP 0 rfl rfl 6 (by decide) (hts _ fl_X8_153) (fun _ h9 => h9) rfl dX8_text_58 ?_
      obtain ⟨c3, hf⟩ := gd_e hf
      refine va_iast hx hb hk.1 hP (zw_D okM hk _) hS 2 0 rfl rfl (inb_in c3) dX8_text_61 (fun H locs hP1 _ hS => ?_)
      have hP : va_P (zD v) vwCl (pM.1 v (up x.2.1 2 (upd (x.2.1 2) ((x.2.1 0 3)).toNatClampNeg (x.2.1 0 6)), x.2.2)) H := hP1
      obtain ⟨g4, eg4, hf⟩ := lt_e hf
      rw [← eg4] at hP
      refine lv_aload_n hx hb dX8_text_62 rfl (lv_at hl 0 rfl) ?_
      refine lv_iconst (v := 0) hx hb dX8_text_63 kI_0 ?_
      refine va_put (D := zD v) (ci := 7) (v := .int (0 : Int32)) (ty := .int) (C := RX8) (T := TX8) (N := 55) hx hb hts iX8 tyX8 tyX8_ok nmX8 hown hk.1 hP (zw_D okM hk _) hS 0 rfl rfl 6 (by decide) (hts _ fl_X8_153) (fun _ h9 => h9) rfl pd_I rfl rfl (Nat.le_of_ble_eq_true rfl) dX8_text_64 (fun H locs hP1 _ hS => ?_)
      have hP : va_P (zD v) vwCl (pM.1 v (up g4.1 0 (upd (g4.1 0) 6 (0 : Int32)), g4.2)) H := hP1
      obtain ⟨g5, eg5, hf⟩ := lt_e hf
      rw [← eg5] at hP
      refine lv_aload_n hx hb dX8_text_67 rfl (lv_at hl 0 rfl) ?_
      refine lv_aload_n hx hb dX8_text_68 rfl (lv_at hl 0 rfl) ?_
      refine va_get (D := zD v) (ci := 7) (v := .int (g5.1 0 3)) (C := RX8) (T := TX8) (N := 55) hx hb hts iX8 hown hk.1 hP 0 rfl rfl 3 (by decide) (hts _ fl_X8_94) (fun _ h9 => h9) rfl dX8_text_69 ?_
      refine lv_iconst (v := 0) hx hb dX8_text_72 kI_0 ?_
      obtain ⟨q6, eq6, hf⟩ := bd_e hf
      refine zki hS (zrV (As := [.int (g5.1 0 3), .int (0 : Int32)]) (rest := []) okM hx hb hml hown hts hk hP hS (t_X8_read l v N (g5.1 0 3) (0 : Int32) g5 _ eq6) vk_X8_read ml_X8_267 rfl rfl ⟨(Nat.le_of_ble_eq_true rfl), (Nat.le_of_ble_eq_true rfl)⟩ (va_recv (q := (RX8, TX8, 55)) hk.1 hP (q0 := 0) (ci := 7) rfl rfl) rfl hl.1 rfl (Nat.le_of_ble_eq_true rfl) dX8_text_73) (fun H locs hP hS => ?_)
      refine lv_istore_n (lv' := [(1, .int q6.1), (0, .ref (zA v 0))]) hx hb dX8_text_76 rfl hl (by decide) rfl (fun ls hl => ?_)
      refine lv_aload_n hx hb dX8_text_77 rfl (lv_at hl 1 rfl) ?_
      refine va_get (D := zD v) (ci := 7) (v := .int (q6.2.1 0 29)) (C := RX8) (T := TX8) (N := 55) hx hb hts iX8 hown hk.1 hP 0 rfl rfl 29 (by decide) (hts _ fl_X8_188) (fun _ h9 => h9) rfl dX8_text_78 ?_
      refine lv_if_eq (tgt := 92) hx hb dX8_text_81 (by decide) (fun c7 => ?_) (fun c7 => ?_)
      · have hf := ite_t c7 hf
        refine lv_aload_n hx hb dX8_text_92 rfl (lv_at hl 1 rfl) ?_
        refine lv_dup hx hb dX8_text_93 rfl ?_
        refine va_get (D := zD v) (ci := 7) (v := .int (q6.2.1 0 3)) (C := RX8) (T := TX8) (N := 55) hx hb hts iX8 hown hk.1 hP 0 rfl rfl 3 (by decide) (hts _ fl_X8_94) (fun _ h9 => h9) rfl dX8_text_94 ?_
        refine lv_iconst (v := 1) hx hb dX8_text_97 kI_1 ?_
        refine lv_iadd hx hb dX8_text_98 ?_
        refine va_put (D := zD v) (ci := 7) (v := .int ((q6.2.1 0 3) + (1 : Int32))) (ty := .int) (C := RX8) (T := TX8) (N := 55) hx hb hts iX8 tyX8 tyX8_ok nmX8 hown hk.1 hP (zw_D okM hk _) hS 0 rfl rfl 3 (by decide) (hts _ fl_X8_94) (fun _ h9 => h9) rfl pd_I rfl rfl (Nat.le_of_ble_eq_true rfl) dX8_text_99 (fun H locs hP1 _ hS => ?_)
        have hP : va_P (zD v) vwCl (pM.1 v (up q6.2.1 0 (upd (q6.2.1 0) 3 ((q6.2.1 0 3) + (1 : Int32))), q6.2.2)) H := hP1
        obtain ⟨g8, eg8, hf⟩ := lt_e hf
        rw [← eg8] at hP
        refine lv_aload_n hx hb dX8_text_102 rfl (lv_at hl 1 rfl) ?_
        refine va_get (D := zD v) (ci := 7) (v := .int (g8.1 0 3)) (C := RX8) (T := TX8) (N := 55) hx hb hts iX8 hown hk.1 hP 0 rfl rfl 3 (by decide) (hts _ fl_X8_94) (fun _ h9 => h9) rfl dX8_text_103 ?_
        refine lv_iconst (v := 1) hx hb dX8_text_106 kI_1 ?_
        refine lv_isub hx hb dX8_text_107 ?_
        exact hret _ _ _ _ _ _ (Or.inl rfl) (Option.some.inj hf) hP hS dX8_text_108
      · have hf := ite_f c7 hf
        refine lv_bipush (v := -100) hx hb dX8_text_84 kB_m100 ?_
        refine lv_aload_n hx hb dX8_text_86 rfl (lv_at hl 1 rfl) ?_
        refine va_get (D := zD v) (ci := 7) (v := .int (q6.2.1 0 30)) (C := RX8) (T := TX8) (N := 55) hx hb hts iX8 hown hk.1 hP 0 rfl rfl 30 (by decide) (hts _ fl_X8_192) (fun _ h9 => h9) rfl dX8_text_87 ?_
        refine lv_isub hx hb dX8_text_90 ?_
        exact hret _ _ _ _ _ _ (Or.inl rfl) (Option.some.inj hf) hP hS dX8_text_91
    · have hf := ite_f c2 hf
      refine lv_aload_n hx hb dX8_text_22 rfl (lv_at hl 0 rfl) ?_
      refine va_get (D := zD v) (ci := 7) (v := .ref (zA v 1)) (C := RX8) (T := TX8) (N := 55) hx hb hts iX8 hown hk.1 hP 0 rfl rfl 1 (by decide) (hts _ fl_X8_13) (fun _ h9 => h9) rfl dX8_text_23 ?_
      refine lv_sipush (v := 160) hx hb dX8_text_26 kS_160 ?_
      refine lv_aload_n hx hb dX8_text_29 rfl (lv_at hl 0 rfl) ?_
      refine va_get (D := zD v) (ci := 7) (v := .int (x.2.1 0 3)) (C := RX8) (T := TX8) (N := 55) hx hb hts iX8 hown hk.1 hP 0 rfl rfl 3 (by decide) (hts _ fl_X8_94) (fun _ h9 => h9) rfl dX8_text_30 ?_
      refine lv_imul hx hb dX8_text_33 ?_
      refine lv_iload_n hx hb dX8_text_34 rfl (lv_at hl 1 rfl) ?_
      refine lv_iadd hx hb dX8_text_35 ?_
      refine lv_aload_n hx hb dX8_text_36 rfl (lv_at hl 0 rfl) ?_
      refine va_get (D := zD v) (ci := 7) (v := .ref (zA v 3)) (C := RX8) (T := TX8) (N := 55) hx hb hts iX8 hown hk.1 hP 0 rfl rfl 5 (by decide) (hts _ fl_X8_20) (fun _ h9 => h9) rfl dX8_text_37 ?_
      refine lv_iload_n hx hb dX8_text_40 rfl (lv_at hl 1 rfl) ?_
      obtain ⟨c9, hf⟩ := gd_e hf
      refine va_iald hx hb hk.1 hP 3 0 rfl rfl (inb_in c9) dX8_text_41 ?_
      obtain ⟨c10, hf⟩ := gd_e hf
      refine va_iast hx hb hk.1 hP (zw_D okM hk _) hS 1 0 rfl rfl (inb_in c10) dX8_text_42 (fun H locs hP1 _ hS => ?_)
      have hP : va_P (zD v) vwCl (pM.1 v (up x.2.1 1 (upd (x.2.1 1) ((((160 : Int32) * (x.2.1 0 3)) + x.1)).toNatClampNeg (x.2.1 3 (x.1).toNatClampNeg)), x.2.2)) H := hP1
      obtain ⟨g11, eg11, hf⟩ := lt_e hf
      rw [← eg11] at hP
      obtain ⟨x12, ex12, hf⟩ := lt_e hf
      refine lv_iinc (v := x12) (lv' := [(1, .int x12), (0, .ref (zA v 0))]) hx hb dX8_text_43 hl (k := 1) rfl ((congrArg (fun z => x.1 + z) kI_1).trans ex12.symm) (by decide) rfl (fun ls hl => ?_)
      refine lv_goto (tgt := 14) hx hb dX8_text_46 (by decide) ?_
      exact hh14 (x12, g11) hf _ _ _ hP hS (lv_sub hl [1, 0] rfl)
  unfold x_X8_text at hf
  refine lv_aload_n hx hb dX8_text_0 rfl (lv_at hl 0 rfl) ?_
  refine va_get (D := zD v) (ci := 7) (v := .int (g.1 0 3)) (C := RX8) (T := TX8) (N := 55) hx hb hts iX8 hown hk.1 hP 0 rfl rfl 3 (by decide) (hts _ fl_X8_94) (fun _ h9 => h9) rfl dX8_text_1 ?_
  refine lv_bipush (v := 6) hx hb dX8_text_4 kB_6 ?_
  refine lv_icmp_ne (tgt := 12) hx hb dX8_text_6 (by decide) (fun c1 => ?_) (fun c1 => ?_)
  · have hf := ite_f c1 hf
    refine lv_iconst (v := 0) hx hb dX8_text_12 kI_0 ?_
    refine lv_istore_n (lv' := [(1, .int (0 : Int32)), (0, .ref (zA v 0))]) hx hb dX8_text_13 rfl hl (by decide) rfl (fun ls hl => ?_)
    exact wL14 N ((0 : Int32), g) hf _ _ _ hP hS (lv_sub hl [1, 0] rfl)
  · have hf := ite_t c1 hf
    refine lv_bipush (v := -4) hx hb dX8_text_9 kB_m4 ?_
    exact hret _ _ _ _ _ _ (Or.inl rfl) (Option.some.inj hf) hP hS dX8_text_11
abbrev rm_X8_force : Room := { frames := 2, cells := 0, slots := 0, locals := 85 }
set_option maxRecDepth 100000 in
theorem t_X8_force (l : Launch) (v : Ev) (N : Nat) (a1 : Int32) (g : SM) (res : Int32 × SM) (hf : x_X8_force N a1 g = some res) : Ci l yX8_force cX8_force 3 .int rm_X8_force pM v [.ref (zA v 0), .int a1] g res := by
  refine ze_i (by decide +kernel) (Nat.le_of_ble_eq_true rfl) ?_
  intro p e s m args below meth c Q ls hcx hret hP hl
  obtain ⟨hx, hb, hml, hown, hts, hk⟩ := hcx
  have hown : s.vm.findClass RX8 = some m.cls := hown
  have hS : va_S (An nM v) s.heap s.heap [] := va_S.rf
  have hl : lv_has ls 3 [(0, .ref (zA v 0)), (1, .int a1)] := hl
  unfold x_X8_force at hf
  refine lv_iload_n hx hb dX8_force_0 rfl (lv_at hl 1 rfl) ?_
  refine lv_i2l hx hb dX8_force_1 rfl ?_
  refine lv_lconst (v := 0) hx hb dX8_force_2 kL_0 ?_
  refine lv_aload_n hx hb dX8_force_3 rfl (lv_at hl 0 rfl) ?_
  refine va_get (D := zD v) (ci := 7) (v := .int (g.1 0 3)) (C := RX8) (T := TX8) (N := 55) hx hb hts iX8 hown hk.1 hP 0 rfl rfl 3 (by decide) (hts _ fl_X8_94) (fun _ h9 => h9) rfl dX8_force_4 ?_
  refine lv_iconst (v := 1) hx hb dX8_force_7 kI_1 ?_
  refine lv_isub hx hb dX8_force_8 ?_
  refine lv_i2l hx hb dX8_force_9 rfl ?_
  obtain ⟨q1, eq1, hf⟩ := bd_e hf
  refine zki hS (zrS (As := [.long ((a1).toInt64), .long (0 : Int64), .long ((((g.1 0 3) - (1 : Int32))).toInt64)]) (rest := []) okM hx hb hml hown hts hk hP hS (t_X8_in l v N ((a1).toInt64) (0 : Int64) ((((g.1 0 3) - (1 : Int32))).toInt64) g _ eq1) sk_X8_in ml_X8_100 rfl rfl ⟨(Nat.le_of_ble_eq_true rfl), (Nat.le_of_ble_eq_true rfl)⟩ rfl hl.1 rfl (Nat.le_of_ble_eq_true rfl) dX8_force_10) (fun H locs hP hS => ?_)
  refine lv_if_ne (tgt := 19) hx hb dX8_force_13 (by decide) (fun c2 => ?_) (fun c2 => ?_)
  · have hf := ite_f c2 hf
    refine lv_aload_n hx hb dX8_force_19 rfl (lv_at hl 0 rfl) ?_
    refine va_get (D := zD v) (ci := 7) (v := .int (q1.2.1 0 4)) (C := RX8) (T := TX8) (N := 55) hx hb hts iX8 hown hk.1 hP 0 rfl rfl 4 (by decide) (hts _ fl_X8_270) (fun _ h9 => h9) rfl dX8_force_20 ?_
    obtain ⟨x3, ex3, hf⟩ := lt_e hf
    refine lv_nm ex3 ?_
    refine lv_istore_n (lv' := [(2, .int x3), (0, .ref (zA v 0)), (1, .int a1)]) hx hb dX8_force_23 rfl hl (by decide) rfl (fun ls hl => ?_)
    refine lv_aload_n hx hb dX8_force_24 rfl (lv_at hl 1 rfl) ?_
    refine lv_iload_n hx hb dX8_force_25 rfl (lv_at hl 2 rfl) ?_
    refine va_put (D := zD v) (ci := 7) (v := .int a1) (ty := .int) (C := RX8) (T := TX8) (N := 55) hx hb hts iX8 tyX8 tyX8_ok nmX8 hown hk.1 hP (zw_D okM hk _) hS 0 rfl rfl 4 (by decide) (hts _ fl_X8_270) (fun _ h9 => h9) rfl pd_I rfl rfl (Nat.le_of_ble_eq_true rfl) dX8_force_26 (fun H locs hP1 _ hS => ?_)
    have hP : va_P (zD v) vwCl (pM.1 v (up q1.2.1 0 (upd (q1.2.1 0) 4 a1), q1.2.2)) H := hP1
    obtain ⟨g4, eg4, hf⟩ := lt_e hf
    rw [← eg4] at hP
    refine lv_iload_n hx hb dX8_force_29 rfl (lv_at hl 0 rfl) ?_
    exact hret _ _ _ _ _ _ (Or.inl rfl) (Option.some.inj hf) hP hS dX8_force_30
  · have hf := ite_t c2 hf
    refine lv_bipush (v := -2) hx hb dX8_force_16 kB_m2 ?_
    exact hret _ _ _ _ _ _ (Or.inl rfl) (Option.some.inj hf) hP hS dX8_force_18
abbrev rm_X8_asksFor : Room := { frames := 71, cells := 0, slots := 0, locals := 4469 }
set_option maxRecDepth 100000 in
theorem t_X8_asksFor (l : Launch) (v : Ev) (N : Nat) (a1 : Int32) (a2 : Int32) (a3 : Int32) (a4 : Int32) (g : SM) (res : Int32 × SM) (hf : x_X8_asksFor N a1 a2 a3 a4 g = some res) : Ci l yX8_asksFor cX8_asksFor 5 .int rm_X8_asksFor pM v [.ref (zA v 0), .int a1, .int a2, .int a3, .int a4] g res := by
  refine ze_i (by decide +kernel) (Nat.le_of_ble_eq_true rfl) ?_
  intro p e s m args below meth c Q ls hcx hret hP hl
  obtain ⟨hx, hb, hml, hown, hts, hk⟩ := hcx
  have hown : s.vm.findClass RX8 = some m.cls := hown
  have hS : va_S (An nM v) s.heap s.heap [] := va_S.rf
  have hl : lv_has ls 5 [(0, .ref (zA v 0)), (1, .int a1), (2, .int a2), (3, .int a3), (4, .int a4)] := hl
  unfold x_X8_asksFor at hf
  refine lv_aload_n hx hb dX8_asksFor_0 rfl (lv_at hl 0 rfl) ?_
  refine lv_iload_n hx hb dX8_asksFor_1 rfl (lv_at hl 2 rfl) ?_
  refine lv_bipush (v := 20) hx hb dX8_asksFor_2 kB_20 ?_
  refine lv_irem hx hb dX8_asksFor_4 kz_20 ?_
  refine lv_nm (z := (rmI a2 (20 : Int32))) rfl ?_
  refine va_put (D := zD v) (ci := 7) (v := .int (rmI a2 (20 : Int32))) (ty := .int) (C := RX8) (T := TX8) (N := 55) hx hb hts iX8 tyX8 tyX8_ok nmX8 hown hk.1 hP (zw_D okM hk _) hS 0 rfl rfl 16 (by decide) (hts _ fl_X8_212) (fun _ h9 => h9) rfl pd_I rfl rfl (Nat.le_of_ble_eq_true rfl) dX8_asksFor_5 (fun H locs hP1 _ hS => ?_)
  have hP : va_P (zD v) vwCl (pM.1 v (up g.1 0 (upd (g.1 0) 16 (rmI a2 (20 : Int32))), g.2)) H := hP1
  obtain ⟨g1, eg1, hf⟩ := lt_e hf
  rw [← eg1] at hP
  refine lv_aload_n hx hb dX8_asksFor_8 rfl (lv_at hl 0 rfl) ?_
  refine lv_iload_n hx hb dX8_asksFor_9 rfl (lv_at hl 2 rfl) ?_
  refine lv_bipush (v := 20) hx hb dX8_asksFor_10 kB_20 ?_
  refine lv_idiv hx hb dX8_asksFor_12 kz_20 ?_
  refine va_put (D := zD v) (ci := 7) (v := .int (a2 / (20 : Int32))) (ty := .int) (C := RX8) (T := TX8) (N := 55) hx hb hts iX8 tyX8 tyX8_ok nmX8 hown hk.1 hP (zw_D okM hk _) hS 0 rfl rfl 17 (by decide) (hts _ fl_X8_215) (fun _ h9 => h9) rfl pd_I rfl rfl (Nat.le_of_ble_eq_true rfl) dX8_asksFor_13 (fun H locs hP1 _ hS => ?_)
  have hP : va_P (zD v) vwCl (pM.1 v (up g1.1 0 (upd (g1.1 0) 17 (a2 / (20 : Int32))), g1.2)) H := hP1
  obtain ⟨g2, eg2, hf⟩ := lt_e hf
  rw [← eg2] at hP
  refine lv_aload_n hx hb dX8_asksFor_16 rfl (lv_at hl 0 rfl) ?_
  refine lv_iload_n hx hb dX8_asksFor_17 rfl (lv_at hl 3 rfl) ?_
  refine va_put (D := zD v) (ci := 7) (v := .int a3) (ty := .int) (C := RX8) (T := TX8) (N := 55) hx hb hts iX8 tyX8 tyX8_ok nmX8 hown hk.1 hP (zw_D okM hk _) hS 0 rfl rfl 18 (by decide) (hts _ fl_X8_218) (fun _ h9 => h9) rfl pd_I rfl rfl (Nat.le_of_ble_eq_true rfl) dX8_asksFor_18 (fun H locs hP1 _ hS => ?_)
  have hP : va_P (zD v) vwCl (pM.1 v (up g2.1 0 (upd (g2.1 0) 18 a3), g2.2)) H := hP1
  obtain ⟨g3, eg3, hf⟩ := lt_e hf
  rw [← eg3] at hP
  refine lv_aload_n hx hb dX8_asksFor_21 rfl (lv_at hl 0 rfl) ?_
  refine lv_aload_n hx hb dX8_asksFor_22 rfl (lv_at hl 0 rfl) ?_
  refine va_get (D := zD v) (ci := 7) (v := .ref (zA v 6)) (C := RX8) (T := TX8) (N := 55) hx hb hts iX8 hown hk.1 hP 0 rfl rfl 12 (by decide) (hts _ fl_X8_38) (fun _ h9 => h9) rfl dX8_asksFor_23 ?_
  refine lv_iload_n hx hb dX8_asksFor_26 rfl (lv_at hl 2 rfl) ?_
  refine lv_bipush (v := 20) hx hb dX8_asksFor_27 kB_20 ?_
  refine lv_idiv hx hb dX8_asksFor_29 kz_20 ?_
  obtain ⟨c4, hf⟩ := gd_e hf
  refine va_iald hx hb hk.1 hP 6 0 rfl rfl (inb_in c4) dX8_asksFor_30 ?_
  refine va_put (D := zD v) (ci := 7) (v := .int (g3.1 6 ((a2 / (20 : Int32))).toNatClampNeg)) (ty := .int) (C := RX8) (T := TX8) (N := 55) hx hb hts iX8 tyX8 tyX8_ok nmX8 hown hk.1 hP (zw_D okM hk _) hS 0 rfl rfl 19 (by decide) (hts _ fl_X8_221) (fun _ h9 => h9) rfl pd_I rfl rfl (Nat.le_of_ble_eq_true rfl) dX8_asksFor_31 (fun H locs hP1 _ hS => ?_)
  have hP : va_P (zD v) vwCl (pM.1 v (up g3.1 0 (upd (g3.1 0) 19 (g3.1 6 ((a2 / (20 : Int32))).toNatClampNeg)), g3.2)) H := hP1
  obtain ⟨g5, eg5, hf⟩ := lt_e hf
  rw [← eg5] at hP
  refine lv_aload_n hx hb dX8_asksFor_34 rfl (lv_at hl 0 rfl) ?_
  refine lv_iload hx hb dX8_asksFor_35 (lv_at hl 4 rfl) ?_
  refine va_put (D := zD v) (ci := 7) (v := .int a4) (ty := .int) (C := RX8) (T := TX8) (N := 55) hx hb hts iX8 tyX8 tyX8_ok nmX8 hown hk.1 hP (zw_D okM hk _) hS 0 rfl rfl 20 (by decide) (hts _ fl_X8_224) (fun _ h9 => h9) rfl pd_I rfl rfl (Nat.le_of_ble_eq_true rfl) dX8_asksFor_37 (fun H locs hP1 _ hS => ?_)
  have hP : va_P (zD v) vwCl (pM.1 v (up g5.1 0 (upd (g5.1 0) 20 a4), g5.2)) H := hP1
  obtain ⟨g6, eg6, hf⟩ := lt_e hf
  rw [← eg6] at hP
  refine lv_aload_n hx hb dX8_asksFor_40 rfl (lv_at hl 0 rfl) ?_
  refine lv_aload_n hx hb dX8_asksFor_41 rfl (lv_at hl 0 rfl) ?_
  refine va_get (D := zD v) (ci := 7) (v := .int (g6.1 0 9)) (C := RX8) (T := TX8) (N := 55) hx hb hts iX8 hown hk.1 hP 0 rfl rfl 9 (by decide) (hts _ fl_X8_29) (fun _ h9 => h9) rfl dX8_asksFor_42 ?_
  refine va_put (D := zD v) (ci := 7) (v := .int (g6.1 0 9)) (ty := .int) (C := RX8) (T := TX8) (N := 55) hx hb hts iX8 tyX8 tyX8_ok nmX8 hown hk.1 hP (zw_D okM hk _) hS 0 rfl rfl 21 (by decide) (hts _ fl_X8_227) (fun _ h9 => h9) rfl pd_I rfl rfl (Nat.le_of_ble_eq_true rfl) dX8_asksFor_45 (fun H locs hP1 _ hS => ?_)
  have hP : va_P (zD v) vwCl (pM.1 v (up g6.1 0 (upd (g6.1 0) 21 (g6.1 0 9)), g6.2)) H := hP1
  obtain ⟨g7, eg7, hf⟩ := lt_e hf
  rw [← eg7] at hP
  refine lv_aload_n hx hb dX8_asksFor_48 rfl (lv_at hl 0 rfl) ?_
  refine lv_aload_n hx hb dX8_asksFor_49 rfl (lv_at hl 0 rfl) ?_
  refine va_get (D := zD v) (ci := 7) (v := .int (g7.1 0 4)) (C := RX8) (T := TX8) (N := 55) hx hb hts iX8 hown hk.1 hP 0 rfl rfl 4 (by decide) (hts _ fl_X8_270) (fun _ h9 => h9) rfl dX8_asksFor_50 ?_
  refine lv_iload_n hx hb dX8_asksFor_53 rfl (lv_at hl 1 rfl) ?_
  obtain ⟨q8, eq8, hf⟩ := bd_e hf
  refine zki hS (zrV (As := [.int (g7.1 0 4), .int a1]) (rest := []) okM hx hb hml hown hts hk hP hS (t_X8_read l v N (g7.1 0 4) a1 g7 _ eq8) vk_X8_read ml_X8_267 rfl rfl ⟨(Nat.le_of_ble_eq_true rfl), (Nat.le_of_ble_eq_true rfl)⟩ (va_recv (q := (RX8, TX8, 55)) hk.1 hP (q0 := 0) (ci := 7) rfl rfl) rfl hl.1 rfl (Nat.le_of_ble_eq_true rfl) dX8_asksFor_54) (fun H locs hP hS => ?_)
  refine lv_iconst (v := 0) hx hb dX8_asksFor_57 kI_0 ?_
  refine lv_bipush (v := 99) hx hb dX8_asksFor_58 kB_99 ?_
  obtain ⟨q9, eq9, hf⟩ := bd_e hf
  refine zki hS (zrS (As := [.int q8.1, .int (0 : Int32), .int (99 : Int32)]) (rest := []) okM hx hb hml hown hts hk hP hS (t_X8_within l v N q8.1 (0 : Int32) (99 : Int32) q8.2 _ eq9) sk_X8_within ml_X8_273 rfl rfl ⟨(Nat.le_of_ble_eq_true rfl), (Nat.le_of_ble_eq_true rfl)⟩ rfl hl.1 rfl (Nat.le_of_ble_eq_true rfl) dX8_asksFor_60) (fun H locs hP hS => ?_)
  exact hret _ _ _ _ _ _ (Or.inl rfl) (Option.some.inj hf) hP hS dX8_asksFor_63
abbrev rm_X8_gathers : Room := { frames := 3, cells := 0, slots := 0, locals := 111 }
set_option maxRecDepth 100000 in
theorem t_X8_gathers (l : Launch) (v : Ev) (N : Nat) (g : SM) (res : SM) (hf : x_X8_gathers N g = some res) : Cv l yX8_gathers cX8_gathers 3 rm_X8_gathers pM v [.ref (zA v 0)] g res := by
  refine ze_v (by decide +kernel) (Nat.le_of_ble_eq_true rfl) ?_
  intro p e s m args below meth c Q ls hcx hret hP hl
  obtain ⟨hx, hb, hml, hown, hts, hk⟩ := hcx
  have hown : s.vm.findClass RX8 = some m.cls := hown
  have hS : va_S (An nM v) s.heap s.heap [] := va_S.rf
  have hl : lv_has ls 3 [(0, .ref (zA v 0))] := hl
  have wb52 : ∀ (h2 : Int32 × SM → Option (SM)) (hh2 : ∀ x : Int32 × SM, h2 x = some res → ∀ (H : Heap) (locs : List Loc) (ls : Array Slot), va_P (zD v) vwCl (pM.1 v x.2) H → va_S (An nM v) s.heap H locs → lv_has ls 3 [(0, .ref (zA v 0)), (1, .int x.1)] → W p l e rm_X8_gathers s m args below meth c H locs 0 0 Q (F0 m 2 ls [])) (y1 : Int32) (g : SM) (hf : x_X8_gathers_b52 N h2 y1 g = some res) (H : Heap) (locs : List Loc) (ls : Array Slot) (hP : va_P (zD v) vwCl (pM.1 v g) H) (hS : va_S (An nM v) s.heap H locs) (hl : lv_has ls 3 [(0, .ref (zA v 0)), (1, .int y1)]), W p l e rm_X8_gathers s m args below meth c H locs 0 0 Q (F0 m 52 ls []) := by
    intro h2 hh2 y1 g hf H locs ls hP hS hl
    unfold x_X8_gathers_b52 at hf
    obtain ⟨x3, ex3, hf⟩ := lt_e hf
    refine lv_iinc (v := x3) (lv' := [(1, .int x3), (0, .ref (zA v 0))]) hx hb dX8_gathers_52 hl (k := 1) rfl ((congrArg (fun z => y1 + z) kI_1).trans ex3.symm) (by decide) rfl (fun ls hl => ?_)
    refine lv_goto (tgt := 2) hx hb dX8_gathers_55 (by decide) ?_
    exact hh2 (x3, g) hf _ _ _ hP hS (lv_sub hl [1, 0] rfl)
  have wL15 : ∀ (h2 : Int32 × SM → Option (SM)) (hh2 : ∀ x : Int32 × SM, h2 x = some res → ∀ (H : Heap) (locs : List Loc) (ls : Array Slot), va_P (zD v) vwCl (pM.1 v x.2) H → va_S (An nM v) s.heap H locs → lv_has ls 3 [(0, .ref (zA v 0)), (1, .int x.1)] → W p l e rm_X8_gathers s m args below meth c H locs 0 0 Q (F0 m 2 ls [])) (n : Nat) (x : Int32 × Int32 × SM), lp (x_X8_gathers_B15 N h2) n x = some res → ∀ (H : Heap) (locs : List Loc) (ls : Array Slot), va_P (zD v) vwCl (pM.1 v x.2.2) H → va_S (An nM v) s.heap H locs → lv_has ls 3 [(0, .ref (zA v 0)), (1, .int x.1), (2, .int x.2.1)] → W p l e rm_X8_gathers s m args below meth c H locs 0 0 Q (F0 m 15 ls []) := by
    intro h2 hh2
    refine lp_w (P := fun x : Int32 × Int32 × SM => ∀ (H : Heap) (locs : List Loc) (ls : Array Slot), va_P (zD v) vwCl (pM.1 v x.2.2) H → va_S (An nM v) s.heap H locs → lv_has ls 3 [(0, .ref (zA v 0)), (1, .int x.1), (2, .int x.2.1)] → W p l e rm_X8_gathers s m args below meth c H locs 0 0 Q (F0 m 15 ls [])) ?_
    intro h15 hh15 x hf H locs ls hP hS hl
    unfold x_X8_gathers_B15 at hf
    refine lv_iload_n hx hb dX8_gathers_15 rfl (lv_at hl 2 rfl) ?_
    refine lv_bipush (v := 100) hx hb dX8_gathers_16 kB_100 ?_
    refine lv_icmp_ge (tgt := 52) hx hb dX8_gathers_18 (by decide) (fun c2 => ?_) (fun c2 => ?_)
    · have hf := ite_t c2 hf
      exact wb52 h2 hh2 x.1 x.2.2 hf _ _ _ hP hS (lv_sub hl [0, 1] rfl)
    · have hf := ite_f c2 hf
      refine lv_aload_n hx hb dX8_gathers_21 rfl (lv_at hl 0 rfl) ?_
      refine lv_iload_n hx hb dX8_gathers_22 rfl (lv_at hl 1 rfl) ?_
      obtain ⟨q4, eq4, hf⟩ := bd_e hf
      refine zki hS (zrV (As := [.int x.1]) (rest := []) okM hx hb hml hown hts hk hP hS (t_X8_isStock l v N x.1 x.2.2 _ eq4) vk_X8_isStock ml_X8_277 rfl rfl ⟨(Nat.le_of_ble_eq_true rfl), (Nat.le_of_ble_eq_true rfl)⟩ (va_recv (q := (RX8, TX8, 55)) hk.1 hP (q0 := 0) (ci := 7) rfl rfl) rfl hl.1 rfl (Nat.le_of_ble_eq_true rfl) dX8_gathers_23) (fun H locs hP hS => ?_)
      refine lv_if_eq (tgt := 52) hx hb dX8_gathers_26 (by decide) (fun c5 => ?_) (fun c5 => ?_)
      · have hf := ite_t c5 hf
        exact wb52 h2 hh2 x.1 q4.2 hf _ _ _ hP hS (lv_sub hl [0, 1] rfl)
      · have hf := ite_f c5 hf
        refine lv_aload_n hx hb dX8_gathers_29 rfl (lv_at hl 0 rfl) ?_
        refine va_get (D := zD v) (ci := 7) (v := .ref (zA v 9)) (C := RX8) (T := TX8) (N := 55) hx hb hts iX8 hown hk.1 hP 0 rfl rfl 31 (by decide) (hts _ fl_X8_47) (fun _ h9 => h9) rfl dX8_gathers_30 ?_
        refine lv_bipush (v := 100) hx hb dX8_gathers_33 kB_100 ?_
        refine lv_iload_n hx hb dX8_gathers_35 rfl (lv_at hl 1 rfl) ?_
        refine lv_imul hx hb dX8_gathers_36 ?_
        refine lv_iload_n hx hb dX8_gathers_37 rfl (lv_at hl 2 rfl) ?_
        refine lv_iadd hx hb dX8_gathers_38 ?_
        refine lv_aload_n hx hb dX8_gathers_39 rfl (lv_at hl 0 rfl) ?_
        refine lv_iload_n hx hb dX8_gathers_40 rfl (lv_at hl 1 rfl) ?_
        refine lv_iload_n hx hb dX8_gathers_41 rfl (lv_at hl 2 rfl) ?_
        obtain ⟨q6, eq6, hf⟩ := bd_e hf
        refine zki hS (zrV (As := [.int x.1, .int x.2.1]) (rest := [.int (((100 : Int32) * x.1) + x.2.1), .ref (zA v 9)]) okM hx hb hml hown hts hk hP hS (t_X8_saysOf l v N x.1 x.2.1 q4.2 _ eq6) vk_X8_saysOf ml_X8_148 rfl rfl ⟨(Nat.le_of_ble_eq_true rfl), (Nat.le_of_ble_eq_true rfl)⟩ (va_recv (q := (RX8, TX8, 55)) hk.1 hP (q0 := 0) (ci := 7) rfl rfl) rfl hl.1 rfl (Nat.le_of_ble_eq_true rfl) dX8_gathers_42) (fun H locs hP hS => ?_)
        obtain ⟨c7, hf⟩ := gd_e hf
        refine va_iast hx hb hk.1 hP (zw_D okM hk _) hS 9 0 rfl rfl (inb_in c7) dX8_gathers_45 (fun H locs hP1 _ hS => ?_)
        have hP : va_P (zD v) vwCl (pM.1 v (up q6.2.1 9 (upd (q6.2.1 9) ((((100 : Int32) * x.1) + x.2.1)).toNatClampNeg q6.1), q6.2.2)) H := hP1
        obtain ⟨g8, eg8, hf⟩ := lt_e hf
        rw [← eg8] at hP
        obtain ⟨x9, ex9, hf⟩ := lt_e hf
        refine lv_iinc (v := x9) (lv' := [(2, .int x9), (0, .ref (zA v 0)), (1, .int x.1)]) hx hb dX8_gathers_46 hl (k := 2) rfl ((congrArg (fun z => x.2.1 + z) kI_1).trans ex9.symm) (by decide) rfl (fun ls hl => ?_)
        refine lv_goto (tgt := 15) hx hb dX8_gathers_49 (by decide) ?_
        exact hh15 (x.1, x9, g8) hf _ _ _ hP hS (lv_sub hl [1, 2, 0] rfl)
  have wL2 : ∀ (n : Nat) (x : Int32 × SM), lp (x_X8_gathers_B2 N) n x = some res → ∀ (H : Heap) (locs : List Loc) (ls : Array Slot), va_P (zD v) vwCl (pM.1 v x.2) H → va_S (An nM v) s.heap H locs → lv_has ls 3 [(0, .ref (zA v 0)), (1, .int x.1)] → W p l e rm_X8_gathers s m args below meth c H locs 0 0 Q (F0 m 2 ls []) := by
    refine lp_w (P := fun x : Int32 × SM => ∀ (H : Heap) (locs : List Loc) (ls : Array Slot), va_P (zD v) vwCl (pM.1 v x.2) H → va_S (An nM v) s.heap H locs → lv_has ls 3 [(0, .ref (zA v 0)), (1, .int x.1)] → W p l e rm_X8_gathers s m args below meth c H locs 0 0 Q (F0 m 2 ls [])) ?_
    intro h2 hh2 x hf H locs ls hP hS hl
    unfold x_X8_gathers_B2 at hf
    refine lv_iload_n hx hb dX8_gathers_2 rfl (lv_at hl 1 rfl) ?_
    refine lv_bipush (v := 20) hx hb dX8_gathers_3 kB_20 ?_
    refine lv_aload_n hx hb dX8_gathers_5 rfl (lv_at hl 0 rfl) ?_
    refine va_get (D := zD v) (ci := 7) (v := .int (x.2.1 0 15)) (C := RX8) (T := TX8) (N := 55) hx hb hts iX8 hown hk.1 hP 0 rfl rfl 15 (by decide) (hts _ fl_X8_97) (fun _ h9 => h9) rfl dX8_gathers_6 ?_
    refine lv_imul hx hb dX8_gathers_9 ?_
    refine lv_icmp_ge (tgt := 58) hx hb dX8_gathers_10 (by decide) (fun c1 => ?_) (fun c1 => ?_)
    · have hf := ite_t c1 hf
      exact hret _ _ _ _ _ (Option.some.inj hf) hP hS dX8_gathers_58
    · have hf := ite_f c1 hf
      refine lv_iconst (v := 0) hx hb dX8_gathers_13 kI_0 ?_
      refine lv_istore_n (lv' := [(2, .int (0 : Int32)), (0, .ref (zA v 0)), (1, .int x.1)]) hx hb dX8_gathers_14 rfl hl (by decide) rfl (fun ls hl => ?_)
      exact wL15 h2 hh2 N (x.1, (0 : Int32), x.2) hf _ _ _ hP hS (lv_sub hl [1, 2, 0] rfl)
  unfold x_X8_gathers at hf
  refine lv_iconst (v := 0) hx hb dX8_gathers_0 kI_0 ?_
  refine lv_istore_n (lv' := [(1, .int (0 : Int32)), (0, .ref (zA v 0))]) hx hb dX8_gathers_1 rfl hl (by decide) rfl (fun ls hl => ?_)
  exact wL2 N ((0 : Int32), g) hf _ _ _ hP hS (lv_sub hl [1, 0] rfl)
abbrev rm_X8_isSheet : Room := { frames := 2, cells := 0, slots := 0, locals := 85 }
set_option maxRecDepth 100000 in
theorem t_X8_isSheet (l : Launch) (v : Ev) (N : Nat) (a0 : Int32) (g : SM) (res : Int32 × SM) (hf : x_X8_isSheet N a0 g = some res) : Ci l yX8_isSheet cX8_isSheet 1 .boolean rm_X8_isSheet pM v [.int a0] g res := by
  refine ze_i (by decide +kernel) (Nat.le_of_ble_eq_true rfl) ?_
  intro p e s m args below meth c Q ls hcx hret hP hl
  obtain ⟨hx, hb, hml, hown, hts, hk⟩ := hcx
  have hown : s.vm.findClass RX8 = some m.cls := hown
  have hS : va_S (An nM v) s.heap s.heap [] := va_S.rf
  have hl : lv_has ls 1 [(0, .int a0)] := hl
  unfold x_X8_isSheet at hf
  refine lv_iload_n hx hb dX8_isSheet_0 rfl (lv_at hl 0 rfl) ?_
  refine lv_i2l hx hb dX8_isSheet_1 rfl ?_
  refine lv_lconst (v := 0) hx hb dX8_isSheet_2 kL_0 ?_
  refine lv_ldc2 (v := 3) hx hb hown (hts _ kc_X8_370) dX8_isSheet_3 ?_
  obtain ⟨q1, eq1, hf⟩ := bd_e hf
  refine zki hS (zrS (As := [.long ((a0).toInt64), .long (0 : Int64), .long (3 : Int64)]) (rest := []) okM hx hb hml hown hts hk hP hS (t_X8_in l v N ((a0).toInt64) (0 : Int64) (3 : Int64) g _ eq1) sk_X8_in ml_X8_100 rfl rfl ⟨(Nat.le_of_ble_eq_true rfl), (Nat.le_of_ble_eq_true rfl)⟩ rfl hl.1 rfl (Nat.le_of_ble_eq_true rfl) dX8_isSheet_6) (fun H locs hP hS => ?_)
  obtain ⟨c2, hf⟩ := gd_e hf
  exact hret _ _ _ _ _ _ (Or.inr (nb01 c2)) (Option.some.inj hf) hP hS dX8_isSheet_9
abbrev rm_X8_canBad : Room := { frames := 3, cells := 0, slots := 0, locals := 106 }
set_option maxRecDepth 100000 in
theorem t_X8_canBad (l : Launch) (v : Ev) (N : Nat) (a1 : Int32) (g : SM) (res : Int32 × SM) (hf : x_X8_canBad N a1 g = some res) : Ci l yX8_canBad cX8_canBad 3 .int rm_X8_canBad pM v [.ref (zA v 0), .int a1] g res := by
  refine ze_i (by decide +kernel) (Nat.le_of_ble_eq_true rfl) ?_
  intro p e s m args below meth c Q ls hcx hret hP hl
  obtain ⟨hx, hb, hml, hown, hts, hk⟩ := hcx
  have hown : s.vm.findClass RX8 = some m.cls := hown
  have hS : va_S (An nM v) s.heap s.heap [] := va_S.rf
  have hl : lv_has ls 3 [(0, .ref (zA v 0)), (1, .int a1)] := hl
  have wL38 : ∀ (n : Nat) (x : Int32 × Int32 × SM), lp (x_X8_canBad_B38 N) n x = some res → ∀ (H : Heap) (locs : List Loc) (ls : Array Slot), va_P (zD v) vwCl (pM.1 v x.2.2) H → va_S (An nM v) s.heap H locs → lv_has ls 3 [(0, .ref (zA v 0)), (1, .int x.1), (2, .int x.2.1)] → W p l e rm_X8_canBad s m args below meth c H locs 0 0 Q (F0 m 38 ls []) := by
    refine lp_w (P := fun x : Int32 × Int32 × SM => ∀ (H : Heap) (locs : List Loc) (ls : Array Slot), va_P (zD v) vwCl (pM.1 v x.2.2) H → va_S (An nM v) s.heap H locs → lv_has ls 3 [(0, .ref (zA v 0)), (1, .int x.1), (2, .int x.2.1)] → W p l e rm_X8_canBad s m args below meth c H locs 0 0 Q (F0 m 38 ls [])) ?_
    intro h38 hh38 x hf H locs ls hP hS hl
    unfold x_X8_canBad_B38 at hf
    refine lv_iload_n hx hb dX8_canBad_38 rfl (lv_at hl 2 rfl) ?_
    refine lv_aload_n hx hb dX8_canBad_39 rfl (lv_at hl 0 rfl) ?_
    refine va_get (D := zD v) (ci := 7) (v := .ref (zA v 20)) (C := RX8) (T := TX8) (N := 55) hx hb hts iX8 hown hk.1 hP 0 rfl rfl 53 (by decide) (hts _ fl_X8_84) (fun _ h9 => h9) rfl dX8_canBad_40 ?_
    refine lv_iload_n hx hb dX8_canBad_43 rfl (lv_at hl 1 rfl) ?_
    obtain ⟨c7, hf⟩ := gd_e hf
    refine va_iald hx hb hk.1 hP 20 0 rfl rfl (inb_in c7) dX8_canBad_44 ?_
    refine lv_icmp_ge (tgt := 101) hx hb dX8_canBad_45 (by decide) (fun c8 => ?_) (fun c8 => ?_)
    · have hf := ite_t c8 hf
      refine lv_iconst (v := 0) hx hb dX8_canBad_101 kI_0 ?_
      exact hret _ _ _ _ _ _ (Or.inl rfl) (Option.some.inj hf) hP hS dX8_canBad_102
    · have hf := ite_f c8 hf
      refine lv_aload_n hx hb dX8_canBad_48 rfl (lv_at hl 0 rfl) ?_
      refine lv_aload_n hx hb dX8_canBad_49 rfl (lv_at hl 0 rfl) ?_
      refine va_get (D := zD v) (ci := 7) (v := .ref (zA v 21)) (C := RX8) (T := TX8) (N := 55) hx hb hts iX8 hown hk.1 hP 0 rfl rfl 54 (by decide) (hts _ fl_X8_87) (fun _ h9 => h9) rfl dX8_canBad_50 ?_
      refine lv_bipush (v := 40) hx hb dX8_canBad_53 kB_40 ?_
      refine lv_iload_n hx hb dX8_canBad_55 rfl (lv_at hl 1 rfl) ?_
      refine lv_imul hx hb dX8_canBad_56 ?_
      refine lv_iload_n hx hb dX8_canBad_57 rfl (lv_at hl 2 rfl) ?_
      refine lv_iadd hx hb dX8_canBad_58 ?_
      obtain ⟨c9, hf⟩ := gd_e hf
      refine va_iald hx hb hk.1 hP 21 0 rfl rfl (inb_in c9) dX8_canBad_59 ?_
      obtain ⟨q10, eq10, hf⟩ := bd_e hf
      refine zki hS (zrV (As := [.int (x.2.2.1 21 ((((40 : Int32) * x.1) + x.2.1)).toNatClampNeg)]) (rest := []) okM hx hb hml hown hts hk hP hS (t_X8_isShoe l v N (x.2.2.1 21 ((((40 : Int32) * x.1) + x.2.1)).toNatClampNeg) x.2.2 _ eq10) vk_X8_isShoe ml_X8_145 rfl rfl ⟨(Nat.le_of_ble_eq_true rfl), (Nat.le_of_ble_eq_true rfl)⟩ (va_recv (q := (RX8, TX8, 55)) hk.1 hP (q0 := 0) (ci := 7) rfl rfl) rfl hl.1 rfl (Nat.le_of_ble_eq_true rfl) dX8_canBad_60) (fun H locs hP hS => ?_)
      refine lv_if_eq (tgt := 92) hx hb dX8_canBad_63 (by decide) (fun c11 => ?_) (fun c11 => ?_)
      · have hf := ite_t c11 hf
        refine lv_bipush (v := -2) hx hb dX8_canBad_92 kB_m2 ?_
        exact hret _ _ _ _ _ _ (Or.inl rfl) (Option.some.inj hf) hP hS dX8_canBad_94
      · have hf := ite_f c11 hf
        refine lv_aload_n hx hb dX8_canBad_66 rfl (lv_at hl 0 rfl) ?_
        refine va_get (D := zD v) (ci := 7) (v := .ref (zA v 21)) (C := RX8) (T := TX8) (N := 55) hx hb hts iX8 hown hk.1 hP 0 rfl rfl 54 (by decide) (hts _ fl_X8_87) (fun _ h9 => h9) rfl dX8_canBad_67 ?_
        refine lv_bipush (v := 40) hx hb dX8_canBad_70 kB_40 ?_
        refine lv_iload_n hx hb dX8_canBad_72 rfl (lv_at hl 1 rfl) ?_
        refine lv_imul hx hb dX8_canBad_73 ?_
        refine lv_iload_n hx hb dX8_canBad_74 rfl (lv_at hl 2 rfl) ?_
        refine lv_iadd hx hb dX8_canBad_75 ?_
        refine lv_iconst (v := 1) hx hb dX8_canBad_76 kI_1 ?_
        refine lv_iadd hx hb dX8_canBad_77 ?_
        obtain ⟨c12, hf⟩ := gd_e hf
        refine va_iald hx hb hk.1 hP 21 0 rfl rfl (inb_in c12) dX8_canBad_78 ?_
        refine lv_i2l hx hb dX8_canBad_79 rfl ?_
        refine lv_ldc2 (v := -2) hx hb hown (hts _ kc_X8_283) dX8_canBad_80 ?_
        refine lv_ldc2 (v := 2) hx hb hown (hts _ kc_X8_285) dX8_canBad_83 ?_
        obtain ⟨q13, eq13, hf⟩ := bd_e hf
        refine zki hS (zrS (As := [.long (((q10.2.1 21 (((((40 : Int32) * x.1) + x.2.1) + (1 : Int32))).toNatClampNeg)).toInt64), .long (-2 : Int64), .long (2 : Int64)]) (rest := []) okM hx hb hml hown hts hk hP hS (t_X8_in l v N (((q10.2.1 21 (((((40 : Int32) * x.1) + x.2.1) + (1 : Int32))).toNatClampNeg)).toInt64) (-2 : Int64) (2 : Int64) q10.2 _ eq13) sk_X8_in ml_X8_100 rfl rfl ⟨(Nat.le_of_ble_eq_true rfl), (Nat.le_of_ble_eq_true rfl)⟩ rfl hl.1 rfl (Nat.le_of_ble_eq_true rfl) dX8_canBad_86) (fun H locs hP hS => ?_)
        refine lv_if_ne (tgt := 95) hx hb dX8_canBad_89 (by decide) (fun c14 => ?_) (fun c14 => ?_)
        · have hf := ite_f c14 hf
          obtain ⟨x15, ex15, hf⟩ := lt_e hf
          refine lv_iinc (v := x15) (lv' := [(2, .int x15), (0, .ref (zA v 0)), (1, .int x.1)]) hx hb dX8_canBad_95 hl (k := 2) rfl ((congrArg (fun z => x.2.1 + z) kI_2).trans ex15.symm) (by decide) rfl (fun ls hl => ?_)
          refine lv_goto (tgt := 38) hx hb dX8_canBad_98 (by decide) ?_
          exact hh38 (x.1, x15, q13.2) hf _ _ _ hP hS (lv_sub hl [1, 2, 0] rfl)
        · have hf := ite_t c14 hf
          refine lv_bipush (v := -2) hx hb dX8_canBad_92 kB_m2 ?_
          exact hret _ _ _ _ _ _ (Or.inl rfl) (Option.some.inj hf) hP hS dX8_canBad_94
  unfold x_X8_canBad at hf
  refine lv_iload_n hx hb dX8_canBad_0 rfl (lv_at hl 1 rfl) ?_
  obtain ⟨q1, eq1, hf⟩ := bd_e hf
  refine zki hS (zrS (As := [.int a1]) (rest := []) okM hx hb hml hown hts hk hP hS (t_X8_isSheet l v N a1 g _ eq1) sk_X8_isSheet ml_X8_280 rfl rfl ⟨(Nat.le_of_ble_eq_true rfl), (Nat.le_of_ble_eq_true rfl)⟩ rfl hl.1 rfl (Nat.le_of_ble_eq_true rfl) dX8_canBad_1) (fun H locs hP hS => ?_)
  refine lv_if_ne (tgt := 10) hx hb dX8_canBad_4 (by decide) (fun c2 => ?_) (fun c2 => ?_)
  · have hf := ite_f c2 hf
    refine lv_aload_n hx hb dX8_canBad_10 rfl (lv_at hl 0 rfl) ?_
    refine va_get (D := zD v) (ci := 7) (v := .ref (zA v 18)) (C := RX8) (T := TX8) (N := 55) hx hb hts iX8 hown hk.1 hP 0 rfl rfl 51 (by decide) (hts _ fl_X8_78) (fun _ h9 => h9) rfl dX8_canBad_11 ?_
    refine lv_iload_n hx hb dX8_canBad_14 rfl (lv_at hl 1 rfl) ?_
    obtain ⟨c3, hf⟩ := gd_e hf
    refine va_zald hx hb hk.1 hP 18 1 rfl rfl (inb_in c3) dX8_canBad_15 ?_
    refine lv_if_ne (tgt := 22) hx hb dX8_canBad_16 (by decide) (fun c4 => ?_) (fun c4 => ?_)
    · have hf := ite_f c4 hf
      refine lv_aload_n hx hb dX8_canBad_22 rfl (lv_at hl 0 rfl) ?_
      refine va_get (D := zD v) (ci := 7) (v := .ref (zA v 20)) (C := RX8) (T := TX8) (N := 55) hx hb hts iX8 hown hk.1 hP 0 rfl rfl 53 (by decide) (hts _ fl_X8_84) (fun _ h9 => h9) rfl dX8_canBad_23 ?_
      refine lv_iload_n hx hb dX8_canBad_26 rfl (lv_at hl 1 rfl) ?_
      obtain ⟨c5, hf⟩ := gd_e hf
      refine va_iald hx hb hk.1 hP 20 0 rfl rfl (inb_in c5) dX8_canBad_27 ?_
      refine lv_iconst (v := 2) hx hb dX8_canBad_28 kI_2 ?_
      refine lv_irem hx hb dX8_canBad_29 kz_2 ?_
      refine lv_nm (z := (rmI (q1.2.1 20 (a1).toNatClampNeg) (2 : Int32))) rfl ?_
      refine lv_if_eq (tgt := 36) hx hb dX8_canBad_30 (by decide) (fun c6 => ?_) (fun c6 => ?_)
      · have hf := ite_t c6 hf
        refine lv_iconst (v := 0) hx hb dX8_canBad_36 kI_0 ?_
        refine lv_istore_n (lv' := [(2, .int (0 : Int32)), (0, .ref (zA v 0)), (1, .int a1)]) hx hb dX8_canBad_37 rfl hl (by decide) rfl (fun ls hl => ?_)
        exact wL38 N (a1, (0 : Int32), q1.2) hf _ _ _ hP hS (lv_sub hl [1, 2, 0] rfl)
      · have hf := ite_f c6 hf
        refine lv_bipush (v := -2) hx hb dX8_canBad_33 kB_m2 ?_
        exact hret _ _ _ _ _ _ (Or.inl rfl) (Option.some.inj hf) hP hS dX8_canBad_35
    · have hf := ite_t c4 hf
      refine lv_bipush (v := -11) hx hb dX8_canBad_19 kB_m11 ?_
      exact hret _ _ _ _ _ _ (Or.inl rfl) (Option.some.inj hf) hP hS dX8_canBad_21
  · have hf := ite_t c2 hf
    refine lv_bipush (v := -2) hx hb dX8_canBad_7 kB_m2 ?_
    exact hret _ _ _ _ _ _ (Or.inl rfl) (Option.some.inj hf) hP hS dX8_canBad_9
abbrev rm_X8_isSo : Room := { frames := 3, cells := 0, slots := 0, locals := 111 }
set_option maxRecDepth 100000 in
theorem t_X8_isSo (l : Launch) (v : Ev) (N : Nat) (a1 : Int32) (a2 : Int32) (a3 : Int32) (g : SM) (res : Int32 × SM) (hf : x_X8_isSo N a1 a2 a3 g = some res) : Ci l yX8_isSo cX8_isSo 6 .boolean rm_X8_isSo pM v [.ref (zA v 0), .int a1, .int a2, .int a3] g res := by
  refine ze_i (by decide +kernel) (Nat.le_of_ble_eq_true rfl) ?_
  intro p e s m args below meth c Q ls hcx hret hP hl
  obtain ⟨hx, hb, hml, hown, hts, hk⟩ := hcx
  have hown : s.vm.findClass RX8 = some m.cls := hown
  have hS : va_S (An nM v) s.heap s.heap [] := va_S.rf
  have hl : lv_has ls 6 [(0, .ref (zA v 0)), (1, .int a1), (2, .int a2), (3, .int a3)] := hl
  have wb68 : ∀ (h3 : Int32 × Int32 × Int32 × Int32 × SM → Option (Int32 × SM)) (hh3 : ∀ x : Int32 × Int32 × Int32 × Int32 × SM, h3 x = some res → ∀ (H : Heap) (locs : List Loc) (ls : Array Slot), va_P (zD v) vwCl (pM.1 v x.2.2.2.2) H → va_S (An nM v) s.heap H locs → lv_has ls 6 [(0, .ref (zA v 0)), (1, .int x.1), (2, .int x.2.1), (3, .int x.2.2.1), (4, .int x.2.2.2.1)] → W p l e rm_X8_isSo s m args below meth c H locs 0 0 Q (F0 m 3 ls [])) (y1 : Int32) (y2 : Int32) (y3 : Int32) (y4 : Int32) (g : SM) (hf : x_X8_isSo_b68 N h3 y1 y2 y3 y4 g = some res) (H : Heap) (locs : List Loc) (ls : Array Slot) (hP : va_P (zD v) vwCl (pM.1 v g) H) (hS : va_S (An nM v) s.heap H locs) (hl : lv_has ls 6 [(0, .ref (zA v 0)), (1, .int y1), (2, .int y2), (3, .int y3), (4, .int y4)]), W p l e rm_X8_isSo s m args below meth c H locs 0 0 Q (F0 m 68 ls []) := by
    intro h3 hh3 y1 y2 y3 y4 g hf H locs ls hP hS hl
    unfold x_X8_isSo_b68 at hf
    obtain ⟨x9, ex9, hf⟩ := lt_e hf
    refine lv_iinc (v := x9) (lv' := [(4, .int x9), (0, .ref (zA v 0)), (1, .int y1), (2, .int y2), (3, .int y3)]) hx hb dX8_isSo_68 hl (k := 4) rfl ((congrArg (fun z => y4 + z) kI_2).trans ex9.symm) (by decide) rfl (fun ls hl => ?_)
    refine lv_goto (tgt := 3) hx hb dX8_isSo_71 (by decide) ?_
    exact hh3 (y1, y2, y3, x9, g) hf _ _ _ hP hS (lv_sub hl [1, 2, 3, 4, 0] rfl)
  have wb42 : ∀ (h3 : Int32 × Int32 × Int32 × Int32 × SM → Option (Int32 × SM)) (hh3 : ∀ x : Int32 × Int32 × Int32 × Int32 × SM, h3 x = some res → ∀ (H : Heap) (locs : List Loc) (ls : Array Slot), va_P (zD v) vwCl (pM.1 v x.2.2.2.2) H → va_S (An nM v) s.heap H locs → lv_has ls 6 [(0, .ref (zA v 0)), (1, .int x.1), (2, .int x.2.1), (3, .int x.2.2.1), (4, .int x.2.2.2.1)] → W p l e rm_X8_isSo s m args below meth c H locs 0 0 Q (F0 m 3 ls [])) (y1 : Int32) (y2 : Int32) (y3 : Int32) (y4 : Int32) (y5 : Int32) (g : SM) (hf : x_X8_isSo_b42 N h3 y1 y2 y3 y4 y5 g = some res) (H : Heap) (locs : List Loc) (ls : Array Slot) (hP : va_P (zD v) vwCl (pM.1 v g) H) (hS : va_S (An nM v) s.heap H locs) (hl : lv_has ls 6 [(0, .ref (zA v 0)), (1, .int y1), (2, .int y2), (3, .int y3), (4, .int y4), (5, .int y5)]), W p l e rm_X8_isSo s m args below meth c H locs 0 0 Q (F0 m 42 ls []) := by
    intro h3 hh3 y1 y2 y3 y4 y5 g hf H locs ls hP hS hl
    unfold x_X8_isSo_b42 at hf
    refine lv_aload_n hx hb dX8_isSo_42 rfl (lv_at hl 0 rfl) ?_
    refine lv_iload hx hb dX8_isSo_43 (lv_at hl 5 rfl) ?_
    refine lv_iload_n hx hb dX8_isSo_45 rfl (lv_at hl 2 rfl) ?_
    obtain ⟨q6, eq6, hf⟩ := bd_e hf
    refine zki hS (zrV (As := [.int y5, .int y2]) (rest := []) okM hx hb hml hown hts hk hP hS (t_X8_saysOf l v N y5 y2 g _ eq6) vk_X8_saysOf ml_X8_148 rfl rfl ⟨(Nat.le_of_ble_eq_true rfl), (Nat.le_of_ble_eq_true rfl)⟩ (va_recv (q := (RX8, TX8, 55)) hk.1 hP (q0 := 0) (ci := 7) rfl rfl) rfl hl.1 rfl (Nat.le_of_ble_eq_true rfl) dX8_isSo_46) (fun H locs hP hS => ?_)
    refine lv_aload_n hx hb dX8_isSo_49 rfl (lv_at hl 0 rfl) ?_
    refine va_get (D := zD v) (ci := 7) (v := .ref (zA v 21)) (C := RX8) (T := TX8) (N := 55) hx hb hts iX8 hown hk.1 hP 0 rfl rfl 54 (by decide) (hts _ fl_X8_87) (fun _ h9 => h9) rfl dX8_isSo_50 ?_
    refine lv_bipush (v := 40) hx hb dX8_isSo_53 kB_40 ?_
    refine lv_iload_n hx hb dX8_isSo_55 rfl (lv_at hl 1 rfl) ?_
    refine lv_imul hx hb dX8_isSo_56 ?_
    refine lv_iload hx hb dX8_isSo_57 (lv_at hl 4 rfl) ?_
    refine lv_iadd hx hb dX8_isSo_59 ?_
    refine lv_iconst (v := 1) hx hb dX8_isSo_60 kI_1 ?_
    refine lv_iadd hx hb dX8_isSo_61 ?_
    obtain ⟨c7, hf⟩ := gd_e hf
    refine va_iald hx hb hk.1 hP 21 0 rfl rfl (inb_in c7) dX8_isSo_62 ?_
    refine lv_icmp_eq (tgt := 68) hx hb dX8_isSo_63 (by decide) (fun c8 => ?_) (fun c8 => ?_)
    · have hf := ite_t c8 hf
      exact wb68 h3 hh3 y1 y2 y3 y4 q6.2 hf _ _ _ hP hS (lv_sub hl [0, 1, 2, 3, 4] rfl)
    · have hf := ite_f c8 hf
      refine lv_iconst (v := 0) hx hb dX8_isSo_66 kI_0 ?_
      exact hret _ _ _ _ _ _ (Or.inr rfl) (Option.some.inj hf) hP hS dX8_isSo_67
  have wL3 : ∀ (n : Nat) (x : Int32 × Int32 × Int32 × Int32 × SM), lp (x_X8_isSo_B3 N) n x = some res → ∀ (H : Heap) (locs : List Loc) (ls : Array Slot), va_P (zD v) vwCl (pM.1 v x.2.2.2.2) H → va_S (An nM v) s.heap H locs → lv_has ls 6 [(0, .ref (zA v 0)), (1, .int x.1), (2, .int x.2.1), (3, .int x.2.2.1), (4, .int x.2.2.2.1)] → W p l e rm_X8_isSo s m args below meth c H locs 0 0 Q (F0 m 3 ls []) := by
    refine lp_w (P := fun x : Int32 × Int32 × Int32 × Int32 × SM => ∀ (H : Heap) (locs : List Loc) (ls : Array Slot), va_P (zD v) vwCl (pM.1 v x.2.2.2.2) H → va_S (An nM v) s.heap H locs → lv_has ls 6 [(0, .ref (zA v 0)), (1, .int x.1), (2, .int x.2.1), (3, .int x.2.2.1), (4, .int x.2.2.2.1)] → W p l e rm_X8_isSo s m args below meth c H locs 0 0 Q (F0 m 3 ls [])) ?_
    intro h3 hh3 x hf H locs ls hP hS hl
    unfold x_X8_isSo_B3 at hf
    refine lv_iload hx hb dX8_isSo_3 (lv_at hl 4 rfl) ?_
    refine lv_aload_n hx hb dX8_isSo_5 rfl (lv_at hl 0 rfl) ?_
    refine va_get (D := zD v) (ci := 7) (v := .ref (zA v 20)) (C := RX8) (T := TX8) (N := 55) hx hb hts iX8 hown hk.1 hP 0 rfl rfl 53 (by decide) (hts _ fl_X8_84) (fun _ h9 => h9) rfl dX8_isSo_6 ?_
    refine lv_iload_n hx hb dX8_isSo_9 rfl (lv_at hl 1 rfl) ?_
    obtain ⟨c1, hf⟩ := gd_e hf
    refine va_iald hx hb hk.1 hP 20 0 rfl rfl (inb_in c1) dX8_isSo_10 ?_
    refine lv_icmp_ge (tgt := 74) hx hb dX8_isSo_11 (by decide) (fun c2 => ?_) (fun c2 => ?_)
    · have hf := ite_t c2 hf
      refine lv_iconst (v := 1) hx hb dX8_isSo_74 kI_1 ?_
      exact hret _ _ _ _ _ _ (Or.inr rfl) (Option.some.inj hf) hP hS dX8_isSo_75
    · have hf := ite_f c2 hf
      refine lv_aload_n hx hb dX8_isSo_14 rfl (lv_at hl 0 rfl) ?_
      refine va_get (D := zD v) (ci := 7) (v := .ref (zA v 21)) (C := RX8) (T := TX8) (N := 55) hx hb hts iX8 hown hk.1 hP 0 rfl rfl 54 (by decide) (hts _ fl_X8_87) (fun _ h9 => h9) rfl dX8_isSo_15 ?_
      refine lv_bipush (v := 40) hx hb dX8_isSo_18 kB_40 ?_
      refine lv_iload_n hx hb dX8_isSo_20 rfl (lv_at hl 1 rfl) ?_
      refine lv_imul hx hb dX8_isSo_21 ?_
      refine lv_iload hx hb dX8_isSo_22 (lv_at hl 4 rfl) ?_
      refine lv_iadd hx hb dX8_isSo_24 ?_
      obtain ⟨c3, hf⟩ := gd_e hf
      refine va_iald hx hb hk.1 hP 21 0 rfl rfl (inb_in c3) dX8_isSo_25 ?_
      obtain ⟨x4, ex4, hf⟩ := lt_e hf
      refine lv_nm ex4 ?_
      refine lv_istore (lv' := [(5, .int x4), (0, .ref (zA v 0)), (1, .int x.1), (2, .int x.2.1), (3, .int x.2.2.1), (4, .int x.2.2.2.1)]) hx hb dX8_isSo_26 hl (by decide) rfl (fun ls hl => ?_)
      refine lv_iload_n hx hb dX8_isSo_28 rfl (lv_at hl 4 rfl) ?_
      refine lv_iconst (v := -1) hx hb dX8_isSo_29 kI_m1 ?_
      refine lv_icmp_eq (tgt := 42) hx hb dX8_isSo_30 (by decide) (fun c5 => ?_) (fun c5 => ?_)
      · have hf := ite_t c5 hf
        exact wb42 h3 hh3 x.1 x.2.1 x.2.2.1 x.2.2.2.1 x4 x.2.2.2.2 hf _ _ _ hP hS (lv_sub hl [1, 2, 3, 4, 5, 0] rfl)
      · have hf := ite_f c5 hf
        refine lv_iload hx hb dX8_isSo_33 (lv_at hl 0 rfl) ?_
        refine lv_bipush (v := 20) hx hb dX8_isSo_35 kB_20 ?_
        refine lv_idiv hx hb dX8_isSo_37 kz_20 ?_
        refine lv_iload_n hx hb dX8_isSo_38 rfl (lv_at hl 4 rfl) ?_
        refine lv_icmp_ne (tgt := 68) hx hb dX8_isSo_39 (by decide) (fun c10 => ?_) (fun c10 => ?_)
        · have hf := ite_f c10 hf
          exact wb68 h3 hh3 x.1 x.2.1 x.2.2.1 x.2.2.2.1 x.2.2.2.2 hf _ _ _ hP hS (lv_sub hl [1, 2, 3, 4, 5] rfl)
        · have hf := ite_t c10 hf
          exact wb42 h3 hh3 x.1 x.2.1 x.2.2.1 x.2.2.2.1 x4 x.2.2.2.2 hf _ _ _ hP hS (lv_sub hl [1, 2, 3, 4, 5, 0] rfl)
  unfold x_X8_isSo at hf
  refine lv_iconst (v := 0) hx hb dX8_isSo_0 kI_0 ?_
  refine lv_istore (lv' := [(4, .int (0 : Int32)), (0, .ref (zA v 0)), (1, .int a1), (2, .int a2), (3, .int a3)]) hx hb dX8_isSo_1 hl (by decide) rfl (fun ls hl => ?_)
  exact wL3 N (a1, a2, a3, (0 : Int32), g) hf _ _ _ hP hS (lv_sub hl [1, 2, 3, 4, 0] rfl)
abbrev rm_X8_canMany : Room := { frames := 4, cells := 0, slots := 0, locals := 136 }
set_option maxRecDepth 100000 in
theorem t_X8_canMany (l : Launch) (v : Ev) (N : Nat) (a1 : Int32) (g : SM) (res : Int32 × SM) (hf : x_X8_canMany N a1 g = some res) : Ci l yX8_canMany cX8_canMany 4 .int rm_X8_canMany pM v [.ref (zA v 0), .int a1] g res := by
  refine ze_i (by decide +kernel) (Nat.le_of_ble_eq_true rfl) ?_
  intro p e s m args below meth c Q ls hcx hret hP hl
  obtain ⟨hx, hb, hml, hown, hts, hk⟩ := hcx
  have hown : s.vm.findClass RX8 = some m.cls := hown
  have hS : va_S (An nM v) s.heap s.heap [] := va_S.rf
  have hl : lv_has ls 4 [(0, .ref (zA v 0)), (1, .int a1)] := hl
  have wb38 : ∀ (h4 : Int32 × Int32 × Int32 × SM → Option (Int32 × SM)) (hh4 : ∀ x : Int32 × Int32 × Int32 × SM, h4 x = some res → ∀ (H : Heap) (locs : List Loc) (ls : Array Slot), va_P (zD v) vwCl (pM.1 v x.2.2.2) H → va_S (An nM v) s.heap H locs → lv_has ls 4 [(0, .ref (zA v 0)), (1, .int x.1), (2, .int x.2.1), (3, .int x.2.2.1)] → W p l e rm_X8_canMany s m args below meth c H locs 0 0 Q (F0 m 4 ls [])) (y1 : Int32) (y3 : Int32) (t0 : Int32) (t1 : Int32) (g : SM) (hf : x_X8_canMany_b38 N h4 y1 y3 t0 t1 g = some res) (H : Heap) (locs : List Loc) (ls : Array Slot) (hP : va_P (zD v) vwCl (pM.1 v g) H) (hS : va_S (An nM v) s.heap H locs) (hl : lv_has ls 4 [(0, .ref (zA v 0)), (1, .int y1), (3, .int y3)]), W p l e rm_X8_canMany s m args below meth c H locs 0 0 Q (F0 m 38 ls [.int t0, .int t1]) := by
    intro h4 hh4 y1 y3 t0 t1 g hf H locs ls hP hS hl
    unfold x_X8_canMany_b38 at hf
    refine lv_iadd hx hb dX8_canMany_38 ?_
    obtain ⟨x7, ex7, hf⟩ := lt_e hf
    refine lv_nm ex7 ?_
    refine lv_istore_n (lv' := [(2, .int x7), (0, .ref (zA v 0)), (1, .int y1), (3, .int y3)]) hx hb dX8_canMany_39 rfl hl (by decide) rfl (fun ls hl => ?_)
    obtain ⟨x8, ex8, hf⟩ := lt_e hf
    refine lv_iinc (v := x8) (lv' := [(3, .int x8), (2, .int x7), (0, .ref (zA v 0)), (1, .int y1)]) hx hb dX8_canMany_40 hl (k := 3) rfl ((congrArg (fun z => y3 + z) kI_1).trans ex8.symm) (by decide) rfl (fun ls hl => ?_)
    refine lv_goto (tgt := 4) hx hb dX8_canMany_43 (by decide) ?_
    exact hh4 (y1, x7, x8, g) hf _ _ _ hP hS (lv_sub hl [2, 3, 1, 0] rfl)
  have wL4 : ∀ (n : Nat) (x : Int32 × Int32 × Int32 × SM), lp (x_X8_canMany_B4 N) n x = some res → ∀ (H : Heap) (locs : List Loc) (ls : Array Slot), va_P (zD v) vwCl (pM.1 v x.2.2.2) H → va_S (An nM v) s.heap H locs → lv_has ls 4 [(0, .ref (zA v 0)), (1, .int x.1), (2, .int x.2.1), (3, .int x.2.2.1)] → W p l e rm_X8_canMany s m args below meth c H locs 0 0 Q (F0 m 4 ls []) := by
    refine lp_w (P := fun x : Int32 × Int32 × Int32 × SM => ∀ (H : Heap) (locs : List Loc) (ls : Array Slot), va_P (zD v) vwCl (pM.1 v x.2.2.2) H → va_S (An nM v) s.heap H locs → lv_has ls 4 [(0, .ref (zA v 0)), (1, .int x.1), (2, .int x.2.1), (3, .int x.2.2.1)] → W p l e rm_X8_canMany s m args below meth c H locs 0 0 Q (F0 m 4 ls [])) ?_
    intro h4 hh4 x hf H locs ls hP hS hl
    unfold x_X8_canMany_B4 at hf
    refine lv_iload_n hx hb dX8_canMany_4 rfl (lv_at hl 3 rfl) ?_
    refine lv_bipush (v := 100) hx hb dX8_canMany_5 kB_100 ?_
    refine lv_icmp_ge (tgt := 46) hx hb dX8_canMany_7 (by decide) (fun c1 => ?_) (fun c1 => ?_)
    · have hf := ite_t c1 hf
      refine lv_iload_n hx hb dX8_canMany_46 rfl (lv_at hl 2 rfl) ?_
      exact hret _ _ _ _ _ _ (Or.inl rfl) (Option.some.inj hf) hP hS dX8_canMany_47
    · have hf := ite_f c1 hf
      refine lv_aload_n hx hb dX8_canMany_10 rfl (lv_at hl 0 rfl) ?_
      refine va_get (D := zD v) (ci := 7) (v := .ref (zA v 10)) (C := RX8) (T := TX8) (N := 55) hx hb hts iX8 hown hk.1 hP 0 rfl rfl 32 (by decide) (hts _ fl_X8_50) (fun _ h9 => h9) rfl dX8_canMany_11 ?_
      refine lv_iload_n hx hb dX8_canMany_14 rfl (lv_at hl 3 rfl) ?_
      refine lv_aload_n hx hb dX8_canMany_15 rfl (lv_at hl 0 rfl) ?_
      refine lv_iload_n hx hb dX8_canMany_16 rfl (lv_at hl 1 rfl) ?_
      refine lv_iload_n hx hb dX8_canMany_17 rfl (lv_at hl 3 rfl) ?_
      refine lv_iconst (v := -1) hx hb dX8_canMany_18 kI_m1 ?_
      obtain ⟨q2, eq2, hf⟩ := bd_e hf
      refine zki hS (zrV (As := [.int x.1, .int x.2.2.1, .int (-1 : Int32)]) (rest := [.int x.2.2.1, .ref (zA v 10)]) okM hx hb hml hown hts hk hP hS (t_X8_isSo l v N x.1 x.2.2.1 (-1 : Int32) x.2.2.2 _ eq2) vk_X8_isSo ml_X8_287 rfl rfl ⟨(Nat.le_of_ble_eq_true rfl), (Nat.le_of_ble_eq_true rfl)⟩ (va_recv (q := (RX8, TX8, 55)) hk.1 hP (q0 := 0) (ci := 7) rfl rfl) rfl hl.1 rfl (Nat.le_of_ble_eq_true rfl) dX8_canMany_19) (fun H locs hP hS => ?_)
      obtain ⟨c3, hf⟩ := gd_e hf
      refine va_zast hx hb hk.1 hP (zw_D okM hk _) hS 10 1 rfl rfl (inb_in c3) dX8_canMany_22 (fun H locs hP1 _ hS => ?_)
      have hP : va_P (zD v) vwCl (pM.1 v (up q2.2.1 10 (upd (q2.2.1 10) (x.2.2.1).toNatClampNeg (vp_nar .boolean q2.1)), q2.2.2)) H := hP1
      obtain ⟨g4, eg4, hf⟩ := lt_e hf
      rw [← eg4] at hP
      refine lv_iload_n hx hb dX8_canMany_23 rfl (lv_at hl 2 rfl) ?_
      refine lv_aload_n hx hb dX8_canMany_24 rfl (lv_at hl 0 rfl) ?_
      refine va_get (D := zD v) (ci := 7) (v := .ref (zA v 10)) (C := RX8) (T := TX8) (N := 55) hx hb hts iX8 hown hk.1 hP 0 rfl rfl 32 (by decide) (hts _ fl_X8_50) (fun _ h9 => h9) rfl dX8_canMany_25 ?_
      refine lv_iload_n hx hb dX8_canMany_28 rfl (lv_at hl 3 rfl) ?_
      obtain ⟨c5, hf⟩ := gd_e hf
      refine va_zald hx hb hk.1 hP 10 1 rfl rfl (inb_in c5) dX8_canMany_29 ?_
      refine lv_if_eq (tgt := 37) hx hb dX8_canMany_30 (by decide) (fun c6 => ?_) (fun c6 => ?_)
      · have hf := ite_t c6 hf
        refine lv_iconst (v := 0) hx hb dX8_canMany_37 kI_0 ?_
        exact wb38 h4 hh4 x.1 x.2.2.1 (0 : Int32) x.2.1 g4 hf _ _ _ hP hS (lv_sub hl [0, 1, 3] rfl)
      · have hf := ite_f c6 hf
        refine lv_iconst (v := 1) hx hb dX8_canMany_33 kI_1 ?_
        refine lv_goto (tgt := 38) hx hb dX8_canMany_34 (by decide) ?_
        exact wb38 h4 hh4 x.1 x.2.2.1 (1 : Int32) x.2.1 g4 hf _ _ _ hP hS (lv_sub hl [0, 1, 3] rfl)
  unfold x_X8_canMany at hf
  refine lv_iconst (v := 0) hx hb dX8_canMany_0 kI_0 ?_
  refine lv_istore_n (lv' := [(2, .int (0 : Int32)), (0, .ref (zA v 0)), (1, .int a1)]) hx hb dX8_canMany_1 rfl hl (by decide) rfl (fun ls hl => ?_)
  refine lv_iconst (v := 0) hx hb dX8_canMany_2 kI_0 ?_
  refine lv_istore_n (lv' := [(3, .int (0 : Int32)), (2, .int (0 : Int32)), (0, .ref (zA v 0)), (1, .int a1)]) hx hb dX8_canMany_3 rfl hl (by decide) rfl (fun ls hl => ?_)
  exact wL4 N (a1, (0 : Int32), (0 : Int32), g) hf _ _ _ hP hS (lv_sub hl [2, 3, 1, 0] rfl)
abbrev rm_X8_canBe : Room := { frames := 5, cells := 0, slots := 0, locals := 159 }
set_option maxRecDepth 100000 in
theorem t_X8_canBe (l : Launch) (v : Ev) (N : Nat) (a1 : Int32) (a2 : Int32) (g : SM) (res : Int32 × SM) (hf : x_X8_canBe N a1 a2 g = some res) : Ci l yX8_canBe cX8_canBe 8 .int rm_X8_canBe pM v [.ref (zA v 0), .int a1, .int a2] g res := by
  refine ze_i (by decide +kernel) (Nat.le_of_ble_eq_true rfl) ?_
  intro p e s m args below meth c Q ls hcx hret hP hl
  obtain ⟨hx, hb, hml, hown, hts, hk⟩ := hcx
  have hown : s.vm.findClass RX8 = some m.cls := hown
  have hS : va_S (An nM v) s.heap s.heap [] := va_S.rf
  have hl : lv_has ls 8 [(0, .ref (zA v 0)), (1, .int a1), (2, .int a2)] := hl
  have wb79 : ∀ (h43 : Int32 × Int32 × Int32 × Int32 × Int32 × SM → Option (Int32 × SM)) (hh43 : ∀ x : Int32 × Int32 × Int32 × Int32 × Int32 × SM, h43 x = some res → ∀ (H : Heap) (locs : List Loc) (ls : Array Slot), va_P (zD v) vwCl (pM.1 v x.2.2.2.2.2) H → va_S (An nM v) s.heap H locs → lv_has ls 8 [(0, .ref (zA v 0)), (2, .int x.1), (4, .int x.2.1), (5, .int x.2.2.1), (6, .int x.2.2.2.1), (7, .int x.2.2.2.2.1)] → W p l e rm_X8_canBe s m args below meth c H locs 0 0 Q (F0 m 43 ls [])) (y2 : Int32) (y4 : Int32) (y5 : Int32) (y6 : Int32) (y7 : Int32) (g : SM) (hf : x_X8_canBe_b79 N h43 y2 y4 y5 y6 y7 g = some res) (H : Heap) (locs : List Loc) (ls : Array Slot) (hP : va_P (zD v) vwCl (pM.1 v g) H) (hS : va_S (An nM v) s.heap H locs) (hl : lv_has ls 8 [(0, .ref (zA v 0)), (2, .int y2), (4, .int y4), (5, .int y5), (6, .int y6), (7, .int y7)]), W p l e rm_X8_canBe s m args below meth c H locs 0 0 Q (F0 m 79 ls []) := by
    intro h43 hh43 y2 y4 y5 y6 y7 g hf H locs ls hP hS hl
    unfold x_X8_canBe_b79 at hf
    obtain ⟨x11, ex11, hf⟩ := lt_e hf
    refine lv_iinc (v := x11) (lv' := [(7, .int x11), (0, .ref (zA v 0)), (2, .int y2), (4, .int y4), (5, .int y5), (6, .int y6)]) hx hb dX8_canBe_79 hl (k := 5) rfl ((congrArg (fun z => y7 + z) kI_1).trans ex11.symm) (by decide) rfl (fun ls hl => ?_)
    refine lv_goto (tgt := 43) hx hb dX8_canBe_82 (by decide) ?_
    exact hh43 (y2, y4, y5, y6, x11, g) hf _ _ _ hP hS (lv_sub hl [1, 2, 3, 4, 5, 0] rfl)
  have wb73 : ∀ (h43 : Int32 × Int32 × Int32 × Int32 × Int32 × SM → Option (Int32 × SM)) (hh43 : ∀ x : Int32 × Int32 × Int32 × Int32 × Int32 × SM, h43 x = some res → ∀ (H : Heap) (locs : List Loc) (ls : Array Slot), va_P (zD v) vwCl (pM.1 v x.2.2.2.2.2) H → va_S (An nM v) s.heap H locs → lv_has ls 8 [(0, .ref (zA v 0)), (2, .int x.1), (4, .int x.2.1), (5, .int x.2.2.1), (6, .int x.2.2.2.1), (7, .int x.2.2.2.2.1)] → W p l e rm_X8_canBe s m args below meth c H locs 0 0 Q (F0 m 43 ls [])) (y2 : Int32) (y4 : Int32) (y7 : Int32) (t0 : Int32) (g : SM) (hf : x_X8_canBe_b73 N h43 y2 y4 y7 t0 g = some res) (H : Heap) (locs : List Loc) (ls : Array Slot) (hP : va_P (zD v) vwCl (pM.1 v g) H) (hS : va_S (An nM v) s.heap H locs) (hl : lv_has ls 8 [(0, .ref (zA v 0)), (2, .int y2), (4, .int y4), (7, .int y7)]), W p l e rm_X8_canBe s m args below meth c H locs 0 0 Q (F0 m 73 ls [.int t0]) := by
    intro h43 hh43 y2 y4 y7 t0 g hf H locs ls hP hS hl
    unfold x_X8_canBe_b73 at hf
    refine lv_istore (lv' := [(5, .int t0), (0, .ref (zA v 0)), (2, .int y2), (4, .int y4), (7, .int y7)]) hx hb dX8_canBe_73 hl (by decide) rfl (fun ls hl => ?_)
    refine lv_iload hx hb dX8_canBe_75 (lv_at hl 4 rfl) ?_
    refine lv_istore (lv' := [(6, .int y7), (5, .int t0), (0, .ref (zA v 0)), (2, .int y2), (4, .int y4), (7, .int y7)]) hx hb dX8_canBe_77 hl (by decide) rfl (fun ls hl => ?_)
    exact wb79 h43 hh43 y2 y4 t0 y7 y7 g hf _ _ _ hP hS (lv_sub hl [2, 3, 4, 1, 0, 5] rfl)
  have wL43 : ∀ (n : Nat) (x : Int32 × Int32 × Int32 × Int32 × Int32 × SM), lp (x_X8_canBe_B43 N) n x = some res → ∀ (H : Heap) (locs : List Loc) (ls : Array Slot), va_P (zD v) vwCl (pM.1 v x.2.2.2.2.2) H → va_S (An nM v) s.heap H locs → lv_has ls 8 [(0, .ref (zA v 0)), (2, .int x.1), (4, .int x.2.1), (5, .int x.2.2.1), (6, .int x.2.2.2.1), (7, .int x.2.2.2.2.1)] → W p l e rm_X8_canBe s m args below meth c H locs 0 0 Q (F0 m 43 ls []) := by
    refine lp_w (P := fun x : Int32 × Int32 × Int32 × Int32 × Int32 × SM => ∀ (H : Heap) (locs : List Loc) (ls : Array Slot), va_P (zD v) vwCl (pM.1 v x.2.2.2.2.2) H → va_S (An nM v) s.heap H locs → lv_has ls 8 [(0, .ref (zA v 0)), (2, .int x.1), (4, .int x.2.1), (5, .int x.2.2.1), (6, .int x.2.2.2.1), (7, .int x.2.2.2.2.1)] → W p l e rm_X8_canBe s m args below meth c H locs 0 0 Q (F0 m 43 ls [])) ?_
    intro h43 hh43 x hf H locs ls hP hS hl
    unfold x_X8_canBe_B43 at hf
    refine lv_iload hx hb dX8_canBe_43 (lv_at hl 5 rfl) ?_
    refine lv_bipush (v := 100) hx hb dX8_canBe_45 kB_100 ?_
    refine lv_icmp_ge (tgt := 85) hx hb dX8_canBe_47 (by decide) (fun c6 => ?_) (fun c6 => ?_)
    · have hf := ite_t c6 hf
      refine lv_iload_n hx hb dX8_canBe_85 rfl (lv_at hl 1 rfl) ?_
      refine lv_if_ne (tgt := 94) hx hb dX8_canBe_86 (by decide) (fun c7 => ?_) (fun c7 => ?_)
      · have hf := ite_f c7 hf
        refine lv_iload_n hx hb dX8_canBe_94 rfl (lv_at hl 1 rfl) ?_
        refine lv_iconst (v := 1) hx hb dX8_canBe_95 kI_1 ?_
        refine lv_icmp_ne (tgt := 104) hx hb dX8_canBe_96 (by decide) (fun c8 => ?_) (fun c8 => ?_)
        · have hf := ite_f c8 hf
          refine lv_iload hx hb dX8_canBe_104 (lv_at hl 4 rfl) ?_
          exact hret _ _ _ _ _ _ (Or.inl rfl) (Option.some.inj hf) hP hS dX8_canBe_106
        · have hf := ite_t c8 hf
          refine lv_iload hx hb dX8_canBe_99 (lv_at hl 3 rfl) ?_
          refine lv_goto (tgt := 106) hx hb dX8_canBe_101 (by decide) ?_
          exact hret _ _ _ _ _ _ (Or.inl rfl) (Option.some.inj hf) hP hS dX8_canBe_106
      · have hf := ite_t c7 hf
        refine lv_iload hx hb dX8_canBe_89 (lv_at hl 2 rfl) ?_
        refine lv_goto (tgt := 106) hx hb dX8_canBe_91 (by decide) ?_
        exact hret _ _ _ _ _ _ (Or.inl rfl) (Option.some.inj hf) hP hS dX8_canBe_106
    · have hf := ite_f c6 hf
      refine lv_aload_n hx hb dX8_canBe_50 rfl (lv_at hl 0 rfl) ?_
      refine va_get (D := zD v) (ci := 7) (v := .ref (zA v 10)) (C := RX8) (T := TX8) (N := 55) hx hb hts iX8 hown hk.1 hP 0 rfl rfl 32 (by decide) (hts _ fl_X8_50) (fun _ h9 => h9) rfl dX8_canBe_51 ?_
      refine lv_iload hx hb dX8_canBe_54 (lv_at hl 5 rfl) ?_
      obtain ⟨c9, hf⟩ := gd_e hf
      refine va_zald hx hb hk.1 hP 10 1 rfl rfl (inb_in c9) dX8_canBe_56 ?_
      refine lv_if_eq (tgt := 79) hx hb dX8_canBe_57 (by decide) (fun c10 => ?_) (fun c10 => ?_)
      · have hf := ite_t c10 hf
        exact wb79 h43 hh43 x.1 x.2.1 x.2.2.1 x.2.2.2.1 x.2.2.2.2.1 x.2.2.2.2.2 hf _ _ _ hP hS (lv_sub hl [0, 1, 2, 3, 4, 5] rfl)
      · have hf := ite_f c10 hf
        refine lv_iload hx hb dX8_canBe_60 (lv_at hl 3 rfl) ?_
        refine lv_iconst (v := -1) hx hb dX8_canBe_62 kI_m1 ?_
        refine lv_icmp_ne (tgt := 71) hx hb dX8_canBe_63 (by decide) (fun c12 => ?_) (fun c12 => ?_)
        · have hf := ite_f c12 hf
          refine lv_iload hx hb dX8_canBe_71 (lv_at hl 3 rfl) ?_
          exact wb73 h43 hh43 x.1 x.2.1 x.2.2.2.2.1 x.2.2.1 x.2.2.2.2.2 hf _ _ _ hP hS (lv_sub hl [0, 1, 2, 5] rfl)
        · have hf := ite_t c12 hf
          refine lv_iload hx hb dX8_canBe_66 (lv_at hl 5 rfl) ?_
          refine lv_goto (tgt := 73) hx hb dX8_canBe_68 (by decide) ?_
          exact wb73 h43 hh43 x.1 x.2.1 x.2.2.2.2.1 x.2.2.2.2.1 x.2.2.2.2.2 hf _ _ _ hP hS (lv_sub hl [0, 1, 2, 5] rfl)
  unfold x_X8_canBe at hf
  refine lv_iload_n hx hb dX8_canBe_0 rfl (lv_at hl 2 rfl) ?_
  refine lv_i2l hx hb dX8_canBe_1 rfl ?_
  refine lv_lconst (v := 0) hx hb dX8_canBe_2 kL_0 ?_
  refine lv_ldc2 (v := 2) hx hb hown (hts _ kc_X8_285) dX8_canBe_3 ?_
  obtain ⟨q1, eq1, hf⟩ := bd_e hf
  refine zki hS (zrS (As := [.long ((a2).toInt64), .long (0 : Int64), .long (2 : Int64)]) (rest := []) okM hx hb hml hown hts hk hP hS (t_X8_in l v N ((a2).toInt64) (0 : Int64) (2 : Int64) g _ eq1) sk_X8_in ml_X8_100 rfl rfl ⟨(Nat.le_of_ble_eq_true rfl), (Nat.le_of_ble_eq_true rfl)⟩ rfl hl.1 rfl (Nat.le_of_ble_eq_true rfl) dX8_canBe_6) (fun H locs hP hS => ?_)
  refine lv_if_ne (tgt := 15) hx hb dX8_canBe_9 (by decide) (fun c2 => ?_) (fun c2 => ?_)
  · have hf := ite_f c2 hf
    refine lv_aload_n hx hb dX8_canBe_15 rfl (lv_at hl 0 rfl) ?_
    refine lv_iload_n hx hb dX8_canBe_16 rfl (lv_at hl 1 rfl) ?_
    obtain ⟨q3, eq3, hf⟩ := bd_e hf
    refine zki hS (zrV (As := [.int a1]) (rest := []) okM hx hb hml hown hts hk hP hS (t_X8_canBad l v N a1 q1.2 _ eq3) vk_X8_canBad ml_X8_291 rfl rfl ⟨(Nat.le_of_ble_eq_true rfl), (Nat.le_of_ble_eq_true rfl)⟩ (va_recv (q := (RX8, TX8, 55)) hk.1 hP (q0 := 0) (ci := 7) rfl rfl) rfl hl.1 rfl (Nat.le_of_ble_eq_true rfl) dX8_canBe_17) (fun H locs hP hS => ?_)
    refine lv_istore_n (lv' := [(3, .int q3.1), (0, .ref (zA v 0)), (1, .int a1), (2, .int a2)]) hx hb dX8_canBe_20 rfl hl (by decide) rfl (fun ls hl => ?_)
    refine lv_iload_n hx hb dX8_canBe_21 rfl (lv_at hl 0 rfl) ?_
    refine lv_if_eq (tgt := 27) hx hb dX8_canBe_22 (by decide) (fun c4 => ?_) (fun c4 => ?_)
    · have hf := ite_t c4 hf
      refine lv_aload_n hx hb dX8_canBe_27 rfl (lv_at hl 1 rfl) ?_
      refine lv_iload_n hx hb dX8_canBe_28 rfl (lv_at hl 2 rfl) ?_
      obtain ⟨q5, eq5, hf⟩ := bd_e hf
      refine zki hS (zrV (As := [.int a1]) (rest := []) okM hx hb hml hown hts hk hP hS (t_X8_canMany l v N a1 q3.2 _ eq5) vk_X8_canMany ml_X8_294 rfl rfl ⟨(Nat.le_of_ble_eq_true rfl), (Nat.le_of_ble_eq_true rfl)⟩ (va_recv (q := (RX8, TX8, 55)) hk.1 hP (q0 := 0) (ci := 7) rfl rfl) rfl hl.1 rfl (Nat.le_of_ble_eq_true rfl) dX8_canBe_29) (fun H locs hP hS => ?_)
      refine lv_istore (lv' := [(4, .int q5.1), (3, .int q3.1), (0, .ref (zA v 0)), (1, .int a1), (2, .int a2)]) hx hb dX8_canBe_32 hl (by decide) rfl (fun ls hl => ?_)
      refine lv_iconst (v := -1) hx hb dX8_canBe_34 kI_m1 ?_
      refine lv_istore (lv' := [(5, .int (-1 : Int32)), (4, .int q5.1), (3, .int q3.1), (0, .ref (zA v 0)), (1, .int a1), (2, .int a2)]) hx hb dX8_canBe_35 hl (by decide) rfl (fun ls hl => ?_)
      refine lv_iconst (v := -1) hx hb dX8_canBe_37 kI_m1 ?_
      refine lv_istore (lv' := [(6, .int (-1 : Int32)), (5, .int (-1 : Int32)), (4, .int q5.1), (3, .int q3.1), (0, .ref (zA v 0)), (1, .int a1), (2, .int a2)]) hx hb dX8_canBe_38 hl (by decide) rfl (fun ls hl => ?_)
      refine lv_iconst (v := 0) hx hb dX8_canBe_40 kI_0 ?_
      refine lv_istore (lv' := [(7, .int (0 : Int32)), (6, .int (-1 : Int32)), (5, .int (-1 : Int32)), (4, .int q5.1), (3, .int q3.1), (0, .ref (zA v 0)), (1, .int a1), (2, .int a2)]) hx hb dX8_canBe_41 hl (by decide) rfl (fun ls hl => ?_)
      exact wL43 N (a2, q5.1, (-1 : Int32), (-1 : Int32), (0 : Int32), q5.2) hf _ _ _ hP hS (lv_sub hl [5, 7, 3, 2, 1, 0] rfl)
    · have hf := ite_f c4 hf
      refine lv_iload_n hx hb dX8_canBe_25 rfl (lv_at hl 0 rfl) ?_
      exact hret _ _ _ _ _ _ (Or.inl rfl) (Option.some.inj hf) hP hS dX8_canBe_26
  · have hf := ite_t c2 hf
    refine lv_bipush (v := -2) hx hb dX8_canBe_12 kB_m2 ?_
    exact hret _ _ _ _ _ _ (Or.inl rfl) (Option.some.inj hf) hP hS dX8_canBe_14
abbrev rm_X8_alikeOf : Room := { frames := 1, cells := 0, slots := 0, locals := 60 }
set_option maxRecDepth 100000 in
theorem t_X8_alikeOf (l : Launch) (v : Ev) (N : Nat) (a1 : Int32) (g : SM) (res : Int32 × SM) (hf : x_X8_alikeOf N a1 g = some res) : Ci l yX8_alikeOf cX8_alikeOf 4 .int rm_X8_alikeOf pM v [.ref (zA v 0), .int a1] g res := by
  refine ze_i (by decide +kernel) (Nat.le_of_ble_eq_true rfl) ?_
  intro p e s m args below meth c Q ls hcx hret hP hl
  obtain ⟨hx, hb, hml, hown, hts, hk⟩ := hcx
  have hown : s.vm.findClass RX8 = some m.cls := hown
  have hS : va_S (An nM v) s.heap s.heap [] := va_S.rf
  have hl : lv_has ls 4 [(0, .ref (zA v 0)), (1, .int a1)] := hl
  have wb98 : ∀ (h73 : Int32 × Int32 × SM → Option (Int32 × SM)) (hh73 : ∀ x : Int32 × Int32 × SM, h73 x = some res → ∀ (H : Heap) (locs : List Loc) (ls : Array Slot), va_P (zD v) vwCl (pM.1 v x.2.2) H → va_S (An nM v) s.heap H locs → lv_has ls 4 [(0, .ref (zA v 0)), (2, .int x.1), (3, .int x.2.1)] → W p l e rm_X8_alikeOf s m args below meth c H locs 0 0 Q (F0 m 73 ls [])) (y3 : Int32) (t0 : Int32) (g : SM) (hf : x_X8_alikeOf_b98 N h73 y3 t0 g = some res) (H : Heap) (locs : List Loc) (ls : Array Slot) (hP : va_P (zD v) vwCl (pM.1 v g) H) (hS : va_S (An nM v) s.heap H locs) (hl : lv_has ls 4 [(0, .ref (zA v 0)), (3, .int y3)]), W p l e rm_X8_alikeOf s m args below meth c H locs 0 0 Q (F0 m 98 ls [.int t0]) := by
    intro h73 hh73 y3 t0 g hf H locs ls hP hS hl
    unfold x_X8_alikeOf_b98 at hf
    refine lv_istore_n (lv' := [(2, .int t0), (0, .ref (zA v 0)), (3, .int y3)]) hx hb dX8_alikeOf_98 rfl hl (by decide) rfl (fun ls hl => ?_)
    obtain ⟨x6, ex6, hf⟩ := lt_e hf
    refine lv_iinc (v := x6) (lv' := [(3, .int x6), (2, .int t0), (0, .ref (zA v 0))]) hx hb dX8_alikeOf_99 hl (k := 2) rfl ((congrArg (fun z => y3 + z) kI_1).trans ex6.symm) (by decide) rfl (fun ls hl => ?_)
    refine lv_goto (tgt := 73) hx hb dX8_alikeOf_102 (by decide) ?_
    exact hh73 (t0, x6, g) hf _ _ _ hP hS (lv_sub hl [2, 1, 0] rfl)
  have wL73 : ∀ (n : Nat) (x : Int32 × Int32 × SM), lp (x_X8_alikeOf_B73 N) n x = some res → ∀ (H : Heap) (locs : List Loc) (ls : Array Slot), va_P (zD v) vwCl (pM.1 v x.2.2) H → va_S (An nM v) s.heap H locs → lv_has ls 4 [(0, .ref (zA v 0)), (2, .int x.1), (3, .int x.2.1)] → W p l e rm_X8_alikeOf s m args below meth c H locs 0 0 Q (F0 m 73 ls []) := by
    refine lp_w (P := fun x : Int32 × Int32 × SM => ∀ (H : Heap) (locs : List Loc) (ls : Array Slot), va_P (zD v) vwCl (pM.1 v x.2.2) H → va_S (An nM v) s.heap H locs → lv_has ls 4 [(0, .ref (zA v 0)), (2, .int x.1), (3, .int x.2.1)] → W p l e rm_X8_alikeOf s m args below meth c H locs 0 0 Q (F0 m 73 ls [])) ?_
    intro h73 hh73 x hf H locs ls hP hS hl
    unfold x_X8_alikeOf_B73 at hf
    refine lv_iload_n hx hb dX8_alikeOf_73 rfl (lv_at hl 2 rfl) ?_
    refine lv_iconst (v := 5) hx hb dX8_alikeOf_74 kI_5 ?_
    refine lv_icmp_ge (tgt := 105) hx hb dX8_alikeOf_75 (by decide) (fun c3 => ?_) (fun c3 => ?_)
    · have hf := ite_t c3 hf
      refine lv_iload_n hx hb dX8_alikeOf_105 rfl (lv_at hl 1 rfl) ?_
      exact hret _ _ _ _ _ _ (Or.inl rfl) (Option.some.inj hf) hP hS dX8_alikeOf_106
    · have hf := ite_f c3 hf
      refine lv_aload_n hx hb dX8_alikeOf_78 rfl (lv_at hl 0 rfl) ?_
      refine va_get (D := zD v) (ci := 7) (v := .ref (zA v 11)) (C := RX8) (T := TX8) (N := 55) hx hb hts iX8 hown hk.1 hP 0 rfl rfl 33 (by decide) (hts _ fl_X8_54) (fun _ h9 => h9) rfl dX8_alikeOf_79 ?_
      refine lv_iload_n hx hb dX8_alikeOf_82 rfl (lv_at hl 2 rfl) ?_
      obtain ⟨c4, hf⟩ := gd_e hf
      refine va_iald hx hb hk.1 hP 11 0 rfl rfl (inb_in c4) dX8_alikeOf_83 ?_
      refine lv_iload_n hx hb dX8_alikeOf_84 rfl (lv_at hl 1 rfl) ?_
      refine lv_icmp_le (tgt := 97) hx hb dX8_alikeOf_85 (by decide) (fun c5 => ?_) (fun c5 => ?_)
      · have hf := ite_t c5 hf
        refine lv_iload_n hx hb dX8_alikeOf_97 rfl (lv_at hl 1 rfl) ?_
        exact wb98 h73 hh73 x.2.1 x.1 x.2.2 hf _ _ _ hP hS (lv_sub hl [0, 2] rfl)
      · have hf := ite_f c5 hf
        refine lv_aload_n hx hb dX8_alikeOf_88 rfl (lv_at hl 0 rfl) ?_
        refine va_get (D := zD v) (ci := 7) (v := .ref (zA v 11)) (C := RX8) (T := TX8) (N := 55) hx hb hts iX8 hown hk.1 hP 0 rfl rfl 33 (by decide) (hts _ fl_X8_54) (fun _ h9 => h9) rfl dX8_alikeOf_89 ?_
        refine lv_iload_n hx hb dX8_alikeOf_92 rfl (lv_at hl 2 rfl) ?_
        obtain ⟨c7, hf⟩ := gd_e hf
        refine va_iald hx hb hk.1 hP 11 0 rfl rfl (inb_in c7) dX8_alikeOf_93 ?_
        refine lv_goto (tgt := 98) hx hb dX8_alikeOf_94 (by decide) ?_
        exact wb98 h73 hh73 x.2.1 (x.2.2.1 11 (x.2.1).toNatClampNeg) x.2.2 hf _ _ _ hP hS (lv_sub hl [0, 2] rfl)
  have wb61 : ∀ (h22 : Int32 × Int32 × SM → Option (Int32 × SM)) (hh22 : ∀ x : Int32 × Int32 × SM, h22 x = some res → ∀ (H : Heap) (locs : List Loc) (ls : Array Slot), va_P (zD v) vwCl (pM.1 v x.2.2) H → va_S (An nM v) s.heap H locs → lv_has ls 4 [(0, .ref (zA v 0)), (1, .int x.1), (2, .int x.2.1)] → W p l e rm_X8_alikeOf s m args below meth c H locs 0 0 Q (F0 m 22 ls [])) (y1 : Int32) (y2 : Int32) (t0 : Int32) (t1 : Int32) (t2 : Int32) (g : SM) (hf : x_X8_alikeOf_b61 N h22 y1 y2 t0 t1 t2 g = some res) (H : Heap) (locs : List Loc) (ls : Array Slot) (hP : va_P (zD v) vwCl (pM.1 v g) H) (hS : va_S (An nM v) s.heap H locs) (hl : lv_has ls 4 [(0, .ref (zA v 0)), (1, .int y1), (2, .int y2)]), W p l e rm_X8_alikeOf s m args below meth c H locs 0 0 Q (F0 m 61 ls [.int t0, .int t1, .int t2, .ref (zA v 11)]) := by
    intro h22 hh22 y1 y2 t0 t1 t2 g hf H locs ls hP hS hl
    unfold x_X8_alikeOf_b61 at hf
    refine lv_iadd hx hb dX8_alikeOf_61 ?_
    obtain ⟨c12, hf⟩ := gd_e hf
    refine va_iast hx hb hk.1 hP (zw_D okM hk _) hS 11 0 rfl rfl (inb_in c12) dX8_alikeOf_62 (fun H locs hP1 _ hS => ?_)
    have hP : va_P (zD v) vwCl (pM.1 v (up g.1 11 (upd (g.1 11) (t2).toNatClampNeg (t1 + t0)), g.2)) H := hP1
    obtain ⟨g13, eg13, hf⟩ := lt_e hf
    rw [← eg13] at hP
    obtain ⟨x14, ex14, hf⟩ := lt_e hf
    refine lv_iinc (v := x14) (lv' := [(2, .int x14), (0, .ref (zA v 0)), (1, .int y1)]) hx hb dX8_alikeOf_63 hl (k := 2) rfl ((congrArg (fun z => y2 + z) kI_1).trans ex14.symm) (by decide) rfl (fun ls hl => ?_)
    refine lv_goto (tgt := 22) hx hb dX8_alikeOf_66 (by decide) ?_
    exact hh22 (y1, x14, g13) hf _ _ _ hP hS (lv_sub hl [1, 2, 0] rfl)
  have wL22 : ∀ (n : Nat) (x : Int32 × Int32 × SM), lp (x_X8_alikeOf_B22 N) n x = some res → ∀ (H : Heap) (locs : List Loc) (ls : Array Slot), va_P (zD v) vwCl (pM.1 v x.2.2) H → va_S (An nM v) s.heap H locs → lv_has ls 4 [(0, .ref (zA v 0)), (1, .int x.1), (2, .int x.2.1)] → W p l e rm_X8_alikeOf s m args below meth c H locs 0 0 Q (F0 m 22 ls []) := by
    refine lp_w (P := fun x : Int32 × Int32 × SM => ∀ (H : Heap) (locs : List Loc) (ls : Array Slot), va_P (zD v) vwCl (pM.1 v x.2.2) H → va_S (An nM v) s.heap H locs → lv_has ls 4 [(0, .ref (zA v 0)), (1, .int x.1), (2, .int x.2.1)] → W p l e rm_X8_alikeOf s m args below meth c H locs 0 0 Q (F0 m 22 ls [])) ?_
    intro h22 hh22 x hf H locs ls hP hS hl
    unfold x_X8_alikeOf_B22 at hf
    refine lv_iload_n hx hb dX8_alikeOf_22 rfl (lv_at hl 2 rfl) ?_
    refine lv_bipush (v := 100) hx hb dX8_alikeOf_23 kB_100 ?_
    refine lv_icmp_ge (tgt := 69) hx hb dX8_alikeOf_25 (by decide) (fun c2 => ?_) (fun c2 => ?_)
    · have hf := ite_t c2 hf
      refine lv_iconst (v := 0) hx hb dX8_alikeOf_69 kI_0 ?_
      refine lv_istore_n (lv' := [(2, .int (0 : Int32)), (0, .ref (zA v 0)), (1, .int x.1)]) hx hb dX8_alikeOf_70 rfl hl (by decide) rfl (fun ls hl => ?_)
      refine lv_iconst (v := 0) hx hb dX8_alikeOf_71 kI_0 ?_
      refine lv_istore_n (lv' := [(3, .int (0 : Int32)), (2, .int (0 : Int32)), (0, .ref (zA v 0)), (1, .int x.1)]) hx hb dX8_alikeOf_72 rfl hl (by decide) rfl (fun ls hl => ?_)
      exact wL73 N ((0 : Int32), (0 : Int32), x.2.2) hf _ _ _ hP hS (lv_sub hl [2, 1, 0] rfl)
    · have hf := ite_f c2 hf
      refine lv_aload_n hx hb dX8_alikeOf_28 rfl (lv_at hl 0 rfl) ?_
      refine va_get (D := zD v) (ci := 7) (v := .ref (zA v 11)) (C := RX8) (T := TX8) (N := 55) hx hb hts iX8 hown hk.1 hP 0 rfl rfl 33 (by decide) (hts _ fl_X8_54) (fun _ h9 => h9) rfl dX8_alikeOf_29 ?_
      refine lv_aload_n hx hb dX8_alikeOf_32 rfl (lv_at hl 0 rfl) ?_
      refine va_get (D := zD v) (ci := 7) (v := .ref (zA v 9)) (C := RX8) (T := TX8) (N := 55) hx hb hts iX8 hown hk.1 hP 0 rfl rfl 31 (by decide) (hts _ fl_X8_47) (fun _ h9 => h9) rfl dX8_alikeOf_33 ?_
      refine lv_bipush (v := 100) hx hb dX8_alikeOf_36 kB_100 ?_
      refine lv_iload_n hx hb dX8_alikeOf_38 rfl (lv_at hl 1 rfl) ?_
      refine lv_imul hx hb dX8_alikeOf_39 ?_
      refine lv_iload_n hx hb dX8_alikeOf_40 rfl (lv_at hl 2 rfl) ?_
      refine lv_iadd hx hb dX8_alikeOf_41 ?_
      obtain ⟨c8, hf⟩ := gd_e hf
      refine va_iald hx hb hk.1 hP 9 0 rfl rfl (inb_in c8) dX8_alikeOf_42 ?_
      refine lv_iconst (v := 2) hx hb dX8_alikeOf_43 kI_2 ?_
      refine lv_iadd hx hb dX8_alikeOf_44 ?_
      refine lv_dup2_11 hx hb dX8_alikeOf_45 rfl rfl ?_
      obtain ⟨c9, hf⟩ := gd_e hf
      refine va_iald hx hb hk.1 hP 11 0 rfl rfl (inb_in c9) dX8_alikeOf_46 ?_
      refine lv_aload_n hx hb dX8_alikeOf_47 rfl (lv_at hl 0 rfl) ?_
      refine va_get (D := zD v) (ci := 7) (v := .ref (zA v 10)) (C := RX8) (T := TX8) (N := 55) hx hb hts iX8 hown hk.1 hP 0 rfl rfl 32 (by decide) (hts _ fl_X8_50) (fun _ h9 => h9) rfl dX8_alikeOf_48 ?_
      refine lv_iload_n hx hb dX8_alikeOf_51 rfl (lv_at hl 2 rfl) ?_
      obtain ⟨c10, hf⟩ := gd_e hf
      refine va_zald hx hb hk.1 hP 10 1 rfl rfl (inb_in c10) dX8_alikeOf_52 ?_
      refine lv_if_eq (tgt := 60) hx hb dX8_alikeOf_53 (by decide) (fun c11 => ?_) (fun c11 => ?_)
      · have hf := ite_t c11 hf
        refine lv_iconst (v := 0) hx hb dX8_alikeOf_60 kI_0 ?_
        exact wb61 h22 hh22 x.1 x.2.1 (0 : Int32) (x.2.2.1 11 (((x.2.2.1 9 ((((100 : Int32) * x.1) + x.2.1)).toNatClampNeg) + (2 : Int32))).toNatClampNeg) ((x.2.2.1 9 ((((100 : Int32) * x.1) + x.2.1)).toNatClampNeg) + (2 : Int32)) x.2.2 hf _ _ _ hP hS (lv_sub hl [0, 1, 2] rfl)
      · have hf := ite_f c11 hf
        refine lv_iconst (v := 1) hx hb dX8_alikeOf_56 kI_1 ?_
        refine lv_goto (tgt := 61) hx hb dX8_alikeOf_57 (by decide) ?_
        exact wb61 h22 hh22 x.1 x.2.1 (1 : Int32) (x.2.2.1 11 (((x.2.2.1 9 ((((100 : Int32) * x.1) + x.2.1)).toNatClampNeg) + (2 : Int32))).toNatClampNeg) ((x.2.2.1 9 ((((100 : Int32) * x.1) + x.2.1)).toNatClampNeg) + (2 : Int32)) x.2.2 hf _ _ _ hP hS (lv_sub hl [0, 1, 2] rfl)
  have wL2 : ∀ (n : Nat) (x : Int32 × Int32 × SM), lp (x_X8_alikeOf_B2 N) n x = some res → ∀ (H : Heap) (locs : List Loc) (ls : Array Slot), va_P (zD v) vwCl (pM.1 v x.2.2) H → va_S (An nM v) s.heap H locs → lv_has ls 4 [(0, .ref (zA v 0)), (1, .int x.1), (2, .int x.2.1)] → W p l e rm_X8_alikeOf s m args below meth c H locs 0 0 Q (F0 m 2 ls []) := by
    refine lp_w (P := fun x : Int32 × Int32 × SM => ∀ (H : Heap) (locs : List Loc) (ls : Array Slot), va_P (zD v) vwCl (pM.1 v x.2.2) H → va_S (An nM v) s.heap H locs → lv_has ls 4 [(0, .ref (zA v 0)), (1, .int x.1), (2, .int x.2.1)] → W p l e rm_X8_alikeOf s m args below meth c H locs 0 0 Q (F0 m 2 ls [])) ?_
    intro h2 hh2 x hf H locs ls hP hS hl
    unfold x_X8_alikeOf_B2 at hf
    refine lv_iload_n hx hb dX8_alikeOf_2 rfl (lv_at hl 2 rfl) ?_
    refine lv_iconst (v := 5) hx hb dX8_alikeOf_3 kI_5 ?_
    refine lv_icmp_ge (tgt := 20) hx hb dX8_alikeOf_4 (by decide) (fun c1 => ?_) (fun c1 => ?_)
    · have hf := ite_t c1 hf
      refine lv_iconst (v := 0) hx hb dX8_alikeOf_20 kI_0 ?_
      refine lv_istore_n (lv' := [(2, .int (0 : Int32)), (0, .ref (zA v 0)), (1, .int x.1)]) hx hb dX8_alikeOf_21 rfl hl (by decide) rfl (fun ls hl => ?_)
      exact wL22 N (x.1, (0 : Int32), x.2.2) hf _ _ _ hP hS (lv_sub hl [1, 2, 0] rfl)
    · have hf := ite_f c1 hf
      refine lv_aload_n hx hb dX8_alikeOf_7 rfl (lv_at hl 0 rfl) ?_
      refine va_get (D := zD v) (ci := 7) (v := .ref (zA v 11)) (C := RX8) (T := TX8) (N := 55) hx hb hts iX8 hown hk.1 hP 0 rfl rfl 33 (by decide) (hts _ fl_X8_54) (fun _ h9 => h9) rfl dX8_alikeOf_8 ?_
      refine lv_iload_n hx hb dX8_alikeOf_11 rfl (lv_at hl 2 rfl) ?_
      refine lv_iconst (v := 0) hx hb dX8_alikeOf_12 kI_0 ?_
      obtain ⟨c15, hf⟩ := gd_e hf
      refine va_iast hx hb hk.1 hP (zw_D okM hk _) hS 11 0 rfl rfl (inb_in c15) dX8_alikeOf_13 (fun H locs hP1 _ hS => ?_)
      have hP : va_P (zD v) vwCl (pM.1 v (up x.2.2.1 11 (upd (x.2.2.1 11) (x.2.1).toNatClampNeg (0 : Int32)), x.2.2.2)) H := hP1
      obtain ⟨g16, eg16, hf⟩ := lt_e hf
      rw [← eg16] at hP
      obtain ⟨x17, ex17, hf⟩ := lt_e hf
      refine lv_iinc (v := x17) (lv' := [(2, .int x17), (0, .ref (zA v 0)), (1, .int x.1)]) hx hb dX8_alikeOf_14 hl (k := 2) rfl ((congrArg (fun z => x.2.1 + z) kI_1).trans ex17.symm) (by decide) rfl (fun ls hl => ?_)
      refine lv_goto (tgt := 2) hx hb dX8_alikeOf_17 (by decide) ?_
      exact hh2 (x.1, x17, g16) hf _ _ _ hP hS (lv_sub hl [1, 2, 0] rfl)
  unfold x_X8_alikeOf at hf
  refine lv_iconst (v := 0) hx hb dX8_alikeOf_0 kI_0 ?_
  refine lv_istore_n (lv' := [(2, .int (0 : Int32)), (0, .ref (zA v 0)), (1, .int a1)]) hx hb dX8_alikeOf_1 rfl hl (by decide) rfl (fun ls hl => ?_)
  exact wL2 N (a1, (0 : Int32), g) hf _ _ _ hP hS (lv_sub hl [1, 2, 0] rfl)
abbrev rm_X8_fetches : Room := { frames := 2, cells := 0, slots := 0, locals := 83 }
set_option maxRecDepth 100000 in
theorem t_X8_fetches (l : Launch) (v : Ev) (N : Nat) (g : SM) (res : Int32 × SM) (hf : x_X8_fetches N g = some res) : Ci l yX8_fetches cX8_fetches 4 .int rm_X8_fetches pM v [.ref (zA v 0)] g res := by
  refine ze_i (by decide +kernel) (Nat.le_of_ble_eq_true rfl) ?_
  intro p e s m args below meth c Q ls hcx hret hP hl
  obtain ⟨hx, hb, hml, hown, hts, hk⟩ := hcx
  have hown : s.vm.findClass RX8 = some m.cls := hown
  have hS : va_S (An nM v) s.heap s.heap [] := va_S.rf
  have hl : lv_has ls 4 [(0, .ref (zA v 0))] := hl
  have wb58 : ∀ (h9 : Int32 × Int32 × SM → Option (Int32 × SM)) (hh9 : ∀ x : Int32 × Int32 × SM, h9 x = some res → ∀ (H : Heap) (locs : List Loc) (ls : Array Slot), va_P (zD v) vwCl (pM.1 v x.2.2) H → va_S (An nM v) s.heap H locs → lv_has ls 4 [(0, .ref (zA v 0)), (1, .int x.1), (2, .int x.2.1)] → W p l e rm_X8_fetches s m args below meth c H locs 0 0 Q (F0 m 9 ls [])) (y1 : Int32) (y2 : Int32) (g : SM) (hf : x_X8_fetches_b58 N h9 y1 y2 g = some res) (H : Heap) (locs : List Loc) (ls : Array Slot) (hP : va_P (zD v) vwCl (pM.1 v g) H) (hS : va_S (An nM v) s.heap H locs) (hl : lv_has ls 4 [(0, .ref (zA v 0)), (1, .int y1), (2, .int y2)]), W p l e rm_X8_fetches s m args below meth c H locs 0 0 Q (F0 m 58 ls []) := by
    intro h9 hh9 y1 y2 g hf H locs ls hP hS hl
    unfold x_X8_fetches_b58 at hf
    obtain ⟨x5, ex5, hf⟩ := lt_e hf
    refine lv_iinc (v := x5) (lv' := [(2, .int x5), (0, .ref (zA v 0)), (1, .int y1)]) hx hb dX8_fetches_58 hl (k := 2) rfl ((congrArg (fun z => y2 + z) kI_1).trans ex5.symm) (by decide) rfl (fun ls hl => ?_)
    refine lv_goto (tgt := 9) hx hb dX8_fetches_61 (by decide) ?_
    exact hh9 (y1, x5, g) hf _ _ _ hP hS (lv_sub hl [1, 2, 0] rfl)
  have wb51 : ∀ (h9 : Int32 × Int32 × SM → Option (Int32 × SM)) (hh9 : ∀ x : Int32 × Int32 × SM, h9 x = some res → ∀ (H : Heap) (locs : List Loc) (ls : Array Slot), va_P (zD v) vwCl (pM.1 v x.2.2) H → va_S (An nM v) s.heap H locs → lv_has ls 4 [(0, .ref (zA v 0)), (1, .int x.1), (2, .int x.2.1)] → W p l e rm_X8_fetches s m args below meth c H locs 0 0 Q (F0 m 9 ls [])) (y2 : Int32) (y3 : Int32) (g : SM) (hf : x_X8_fetches_b51 N h9 y2 y3 g = some res) (H : Heap) (locs : List Loc) (ls : Array Slot) (hP : va_P (zD v) vwCl (pM.1 v g) H) (hS : va_S (An nM v) s.heap H locs) (hl : lv_has ls 4 [(0, .ref (zA v 0)), (2, .int y2), (3, .int y3)]), W p l e rm_X8_fetches s m args below meth c H locs 0 0 Q (F0 m 51 ls []) := by
    intro h9 hh9 y2 y3 g hf H locs ls hP hS hl
    unfold x_X8_fetches_b51 at hf
    refine lv_iload_n hx hb dX8_fetches_51 rfl (lv_at hl 1 rfl) ?_
    refine lv_istore_n (lv' := [(1, .int y2), (0, .ref (zA v 0)), (2, .int y2), (3, .int y3)]) hx hb dX8_fetches_52 rfl hl (by decide) rfl (fun ls hl => ?_)
    refine lv_aload_n hx hb dX8_fetches_53 rfl (lv_at hl 1 rfl) ?_
    refine lv_iload_n hx hb dX8_fetches_54 rfl (lv_at hl 3 rfl) ?_
    refine va_put (D := zD v) (ci := 7) (v := .int y3) (ty := .int) (C := RX8) (T := TX8) (N := 55) hx hb hts iX8 tyX8 tyX8_ok nmX8 hown hk.1 hP (zw_D okM hk _) hS 0 rfl rfl 34 (by decide) (hts _ fl_X8_297) (fun _ h9 => h9) rfl pd_I rfl rfl (Nat.le_of_ble_eq_true rfl) dX8_fetches_55 (fun H locs hP1 _ hS => ?_)
    have hP : va_P (zD v) vwCl (pM.1 v (up g.1 0 (upd (g.1 0) 34 y3), g.2)) H := hP1
    obtain ⟨g9, eg9, hf⟩ := lt_e hf
    rw [← eg9] at hP
    exact wb58 h9 hh9 y2 y2 g9 hf _ _ _ hP hS (lv_sub hl [1, 0, 2] rfl)
  have wL9 : ∀ (n : Nat) (x : Int32 × Int32 × SM), lp (x_X8_fetches_B9 N) n x = some res → ∀ (H : Heap) (locs : List Loc) (ls : Array Slot), va_P (zD v) vwCl (pM.1 v x.2.2) H → va_S (An nM v) s.heap H locs → lv_has ls 4 [(0, .ref (zA v 0)), (1, .int x.1), (2, .int x.2.1)] → W p l e rm_X8_fetches s m args below meth c H locs 0 0 Q (F0 m 9 ls []) := by
    refine lp_w (P := fun x : Int32 × Int32 × SM => ∀ (H : Heap) (locs : List Loc) (ls : Array Slot), va_P (zD v) vwCl (pM.1 v x.2.2) H → va_S (An nM v) s.heap H locs → lv_has ls 4 [(0, .ref (zA v 0)), (1, .int x.1), (2, .int x.2.1)] → W p l e rm_X8_fetches s m args below meth c H locs 0 0 Q (F0 m 9 ls [])) ?_
    intro h9 hh9 x hf H locs ls hP hS hl
    unfold x_X8_fetches_B9 at hf
    refine lv_iload_n hx hb dX8_fetches_9 rfl (lv_at hl 2 rfl) ?_
    refine lv_bipush (v := 20) hx hb dX8_fetches_10 kB_20 ?_
    refine lv_aload_n hx hb dX8_fetches_12 rfl (lv_at hl 0 rfl) ?_
    refine va_get (D := zD v) (ci := 7) (v := .int (x.2.2.1 0 15)) (C := RX8) (T := TX8) (N := 55) hx hb hts iX8 hown hk.1 hP 0 rfl rfl 15 (by decide) (hts _ fl_X8_97) (fun _ h9 => h9) rfl dX8_fetches_13 ?_
    refine lv_imul hx hb dX8_fetches_16 ?_
    refine lv_icmp_ge (tgt := 64) hx hb dX8_fetches_17 (by decide) (fun c2 => ?_) (fun c2 => ?_)
    · have hf := ite_t c2 hf
      refine lv_iload_n hx hb dX8_fetches_64 rfl (lv_at hl 1 rfl) ?_
      exact hret _ _ _ _ _ _ (Or.inl rfl) (Option.some.inj hf) hP hS dX8_fetches_65
    · have hf := ite_f c2 hf
      refine lv_aload_n hx hb dX8_fetches_20 rfl (lv_at hl 0 rfl) ?_
      refine lv_iload_n hx hb dX8_fetches_21 rfl (lv_at hl 2 rfl) ?_
      obtain ⟨q3, eq3, hf⟩ := bd_e hf
      refine zki hS (zrV (As := [.int x.2.1]) (rest := []) okM hx hb hml hown hts hk hP hS (t_X8_isStock l v N x.2.1 x.2.2 _ eq3) vk_X8_isStock ml_X8_277 rfl rfl ⟨(Nat.le_of_ble_eq_true rfl), (Nat.le_of_ble_eq_true rfl)⟩ (va_recv (q := (RX8, TX8, 55)) hk.1 hP (q0 := 0) (ci := 7) rfl rfl) rfl hl.1 rfl (Nat.le_of_ble_eq_true rfl) dX8_fetches_22) (fun H locs hP hS => ?_)
      refine lv_if_eq (tgt := 58) hx hb dX8_fetches_25 (by decide) (fun c4 => ?_) (fun c4 => ?_)
      · have hf := ite_t c4 hf
        exact wb58 h9 hh9 x.1 x.2.1 q3.2 hf _ _ _ hP hS (lv_sub hl [0, 1, 2] rfl)
      · have hf := ite_f c4 hf
        refine lv_aload_n hx hb dX8_fetches_28 rfl (lv_at hl 0 rfl) ?_
        refine lv_iload_n hx hb dX8_fetches_29 rfl (lv_at hl 2 rfl) ?_
        obtain ⟨q6, eq6, hf⟩ := bd_e hf
        refine zki hS (zrV (As := [.int x.2.1]) (rest := []) okM hx hb hml hown hts hk hP hS (t_X8_alikeOf l v N x.2.1 q3.2 _ eq6) vk_X8_alikeOf ml_X8_300 rfl rfl ⟨(Nat.le_of_ble_eq_true rfl), (Nat.le_of_ble_eq_true rfl)⟩ (va_recv (q := (RX8, TX8, 55)) hk.1 hP (q0 := 0) (ci := 7) rfl rfl) rfl hl.1 rfl (Nat.le_of_ble_eq_true rfl) dX8_fetches_30) (fun H locs hP hS => ?_)
        refine lv_istore_n (lv' := [(3, .int q6.1), (0, .ref (zA v 0)), (1, .int x.1), (2, .int x.2.1)]) hx hb dX8_fetches_33 rfl hl (by decide) rfl (fun ls hl => ?_)
        refine lv_iload_n hx hb dX8_fetches_34 rfl (lv_at hl 0 rfl) ?_
        refine lv_if_le (tgt := 58) hx hb dX8_fetches_35 (by decide) (fun c7 => ?_) (fun c7 => ?_)
        · have hf := ite_t c7 hf
          exact wb58 h9 hh9 x.1 x.2.1 q6.2 hf _ _ _ hP hS (lv_sub hl [1, 2, 3] rfl)
        · have hf := ite_f c7 hf
          refine lv_iload_n hx hb dX8_fetches_38 rfl (lv_at hl 2 rfl) ?_
          refine lv_iconst (v := -1) hx hb dX8_fetches_39 kI_m1 ?_
          refine lv_icmp_eq (tgt := 51) hx hb dX8_fetches_40 (by decide) (fun c8 => ?_) (fun c8 => ?_)
          · have hf := ite_t c8 hf
            exact wb51 h9 hh9 x.2.1 q6.1 q6.2 hf _ _ _ hP hS (lv_sub hl [1, 3, 0] rfl)
          · have hf := ite_f c8 hf
            refine lv_iload_n hx hb dX8_fetches_43 rfl (lv_at hl 0 rfl) ?_
            refine lv_aload_n hx hb dX8_fetches_44 rfl (lv_at hl 1 rfl) ?_
            refine va_get (D := zD v) (ci := 7) (v := .int (q6.2.1 0 34)) (C := RX8) (T := TX8) (N := 55) hx hb hts iX8 hown hk.1 hP 0 rfl rfl 34 (by decide) (hts _ fl_X8_297) (fun _ h9 => h9) rfl dX8_fetches_45 ?_
            refine lv_icmp_ge (tgt := 58) hx hb dX8_fetches_48 (by decide) (fun c10 => ?_) (fun c10 => ?_)
            · have hf := ite_t c10 hf
              exact wb58 h9 hh9 x.1 x.2.1 q6.2 hf _ _ _ hP hS (lv_sub hl [1, 2, 3] rfl)
            · have hf := ite_f c10 hf
              exact wb51 h9 hh9 x.2.1 q6.1 q6.2 hf _ _ _ hP hS (lv_sub hl [1, 3, 0] rfl)
  unfold x_X8_fetches at hf
  refine lv_iconst (v := -1) hx hb dX8_fetches_0 kI_m1 ?_
  refine lv_istore_n (lv' := [(1, .int (-1 : Int32)), (0, .ref (zA v 0))]) hx hb dX8_fetches_1 rfl hl (by decide) rfl (fun ls hl => ?_)
  refine lv_aload_n hx hb dX8_fetches_2 rfl (lv_at hl 1 rfl) ?_
  refine lv_iconst (v := -1) hx hb dX8_fetches_3 kI_m1 ?_
  refine va_put (D := zD v) (ci := 7) (v := .int (-1 : Int32)) (ty := .int) (C := RX8) (T := TX8) (N := 55) hx hb hts iX8 tyX8 tyX8_ok nmX8 hown hk.1 hP (zw_D okM hk _) hS 0 rfl rfl 34 (by decide) (hts _ fl_X8_297) (fun _ h9 => h9) rfl pd_I rfl rfl (Nat.le_of_ble_eq_true rfl) dX8_fetches_4 (fun H locs hP1 _ hS => ?_)
  have hP : va_P (zD v) vwCl (pM.1 v (up g.1 0 (upd (g.1 0) 34 (-1 : Int32)), g.2)) H := hP1
  obtain ⟨g1, eg1, hf⟩ := lt_e hf
  rw [← eg1] at hP
  refine lv_iconst (v := 0) hx hb dX8_fetches_7 kI_0 ?_
  refine lv_istore_n (lv' := [(2, .int (0 : Int32)), (1, .int (-1 : Int32)), (0, .ref (zA v 0))]) hx hb dX8_fetches_8 rfl hl (by decide) rfl (fun ls hl => ?_)
  exact wL9 N ((-1 : Int32), (0 : Int32), g1) hf _ _ _ hP hS (lv_sub hl [2, 1, 0] rfl)
abbrev rm_X8_fetch : Room := { frames := 5, cells := 0, slots := 0, locals := 159 }
set_option maxRecDepth 100000 in
theorem t_X8_fetch (l : Launch) (v : Ev) (N : Nat) (a1 : Int32) (a2 : Int32) (g : SM) (res : Int32 × SM) (hf : x_X8_fetch N a1 a2 g = some res) : Ci l yX8_fetch cX8_fetch 5 .int rm_X8_fetch pM v [.ref (zA v 0), .int a1, .int a2] g res := by
  refine ze_i (by decide +kernel) (Nat.le_of_ble_eq_true rfl) ?_
  intro p e s m args below meth c Q ls hcx hret hP hl
  obtain ⟨hx, hb, hml, hown, hts, hk⟩ := hcx
  have hown : s.vm.findClass RX8 = some m.cls := hown
  have hS : va_S (An nM v) s.heap s.heap [] := va_S.rf
  have hl : lv_has ls 5 [(0, .ref (zA v 0)), (1, .int a1), (2, .int a2)] := hl
  unfold x_X8_fetch at hf
  refine lv_iload_n hx hb dX8_fetch_0 rfl (lv_at hl 2 rfl) ?_
  refine lv_i2l hx hb dX8_fetch_1 rfl ?_
  refine lv_lconst (v := 0) hx hb dX8_fetch_2 kL_0 ?_
  refine lv_lconst (v := 1) hx hb dX8_fetch_3 kL_1 ?_
  obtain ⟨q1, eq1, hf⟩ := bd_e hf
  refine zki hS (zrS (As := [.long ((a2).toInt64), .long (0 : Int64), .long (1 : Int64)]) (rest := []) okM hx hb hml hown hts hk hP hS (t_X8_in l v N ((a2).toInt64) (0 : Int64) (1 : Int64) g _ eq1) sk_X8_in ml_X8_100 rfl rfl ⟨(Nat.le_of_ble_eq_true rfl), (Nat.le_of_ble_eq_true rfl)⟩ rfl hl.1 rfl (Nat.le_of_ble_eq_true rfl) dX8_fetch_4) (fun H locs hP hS => ?_)
  refine lv_if_ne (tgt := 13) hx hb dX8_fetch_7 (by decide) (fun c2 => ?_) (fun c2 => ?_)
  · have hf := ite_f c2 hf
    refine lv_aload_n hx hb dX8_fetch_13 rfl (lv_at hl 0 rfl) ?_
    refine lv_iload_n hx hb dX8_fetch_14 rfl (lv_at hl 1 rfl) ?_
    obtain ⟨q3, eq3, hf⟩ := bd_e hf
    refine zki hS (zrV (As := [.int a1]) (rest := []) okM hx hb hml hown hts hk hP hS (t_X8_canBad l v N a1 q1.2 _ eq3) vk_X8_canBad ml_X8_291 rfl rfl ⟨(Nat.le_of_ble_eq_true rfl), (Nat.le_of_ble_eq_true rfl)⟩ (va_recv (q := (RX8, TX8, 55)) hk.1 hP (q0 := 0) (ci := 7) rfl rfl) rfl hl.1 rfl (Nat.le_of_ble_eq_true rfl) dX8_fetch_15) (fun H locs hP hS => ?_)
    refine lv_istore_n (lv' := [(3, .int q3.1), (0, .ref (zA v 0)), (1, .int a1), (2, .int a2)]) hx hb dX8_fetch_18 rfl hl (by decide) rfl (fun ls hl => ?_)
    refine lv_iload_n hx hb dX8_fetch_19 rfl (lv_at hl 0 rfl) ?_
    refine lv_if_eq (tgt := 25) hx hb dX8_fetch_20 (by decide) (fun c4 => ?_) (fun c4 => ?_)
    · have hf := ite_t c4 hf
      refine lv_aload_n hx hb dX8_fetch_25 rfl (lv_at hl 1 rfl) ?_
      obtain ⟨q5, eq5, hf⟩ := bd_e hf
      refine zkv hS (zrV (As := []) (rest := []) okM hx hb hml hown hts hk hP hS (t_X8_gathers l v N q3.2 _ eq5) vk_X8_gathers ml_X8_303 rfl rfl ⟨(Nat.le_of_ble_eq_true rfl), (Nat.le_of_ble_eq_true rfl)⟩ (va_recv (q := (RX8, TX8, 55)) hk.1 hP (q0 := 0) (ci := 7) rfl rfl) rfl hl.1 rfl (Nat.le_of_ble_eq_true rfl) dX8_fetch_26) (fun H locs hP hS => ?_)
      refine lv_aload_n hx hb dX8_fetch_29 rfl (lv_at hl 1 rfl) ?_
      refine lv_iload_n hx hb dX8_fetch_30 rfl (lv_at hl 2 rfl) ?_
      obtain ⟨q6, eq6, hf⟩ := bd_e hf
      refine zki hS (zrV (As := [.int a1]) (rest := []) okM hx hb hml hown hts hk hP hS (t_X8_canMany l v N a1 q5 _ eq6) vk_X8_canMany ml_X8_294 rfl rfl ⟨(Nat.le_of_ble_eq_true rfl), (Nat.le_of_ble_eq_true rfl)⟩ (va_recv (q := (RX8, TX8, 55)) hk.1 hP (q0 := 0) (ci := 7) rfl rfl) rfl hl.1 rfl (Nat.le_of_ble_eq_true rfl) dX8_fetch_31) (fun H locs hP hS => ?_)
      refine lv_pop hx hb dX8_fetch_34 rfl ?_
      refine lv_aload_n hx hb dX8_fetch_35 rfl (lv_at hl 1 rfl) ?_
      obtain ⟨q7, eq7, hf⟩ := bd_e hf
      refine zki hS (zrV (As := []) (rest := []) okM hx hb hml hown hts hk hP hS (t_X8_fetches l v N q6.2 _ eq7) vk_X8_fetches ml_X8_306 rfl rfl ⟨(Nat.le_of_ble_eq_true rfl), (Nat.le_of_ble_eq_true rfl)⟩ (va_recv (q := (RX8, TX8, 55)) hk.1 hP (q0 := 0) (ci := 7) rfl rfl) rfl hl.1 rfl (Nat.le_of_ble_eq_true rfl) dX8_fetch_36) (fun H locs hP hS => ?_)
      refine lv_istore (lv' := [(4, .int q7.1), (3, .int q3.1), (0, .ref (zA v 0)), (1, .int a1), (2, .int a2)]) hx hb dX8_fetch_39 hl (by decide) rfl (fun ls hl => ?_)
      refine lv_iload_n hx hb dX8_fetch_41 rfl (lv_at hl 4 rfl) ?_
      refine lv_if_ne (tgt := 50) hx hb dX8_fetch_42 (by decide) (fun c8 => ?_) (fun c8 => ?_)
      · have hf := ite_f c8 hf
        refine lv_aload_n hx hb dX8_fetch_50 rfl (lv_at hl 2 rfl) ?_
        refine va_get (D := zD v) (ci := 7) (v := .int (q7.2.1 0 34)) (C := RX8) (T := TX8) (N := 55) hx hb hts iX8 hown hk.1 hP 0 rfl rfl 34 (by decide) (hts _ fl_X8_297) (fun _ h9 => h9) rfl dX8_fetch_51 ?_
        exact hret _ _ _ _ _ _ (Or.inl rfl) (Option.some.inj hf) hP hS dX8_fetch_54
      · have hf := ite_t c8 hf
        refine lv_iload hx hb dX8_fetch_45 (lv_at hl 0 rfl) ?_
        refine lv_goto (tgt := 54) hx hb dX8_fetch_47 (by decide) ?_
        exact hret _ _ _ _ _ _ (Or.inl rfl) (Option.some.inj hf) hP hS dX8_fetch_54
    · have hf := ite_f c4 hf
      refine lv_iload_n hx hb dX8_fetch_23 rfl (lv_at hl 0 rfl) ?_
      exact hret _ _ _ _ _ _ (Or.inl rfl) (Option.some.inj hf) hP hS dX8_fetch_24
  · have hf := ite_t c2 hf
    refine lv_bipush (v := -2) hx hb dX8_fetch_10 kB_m2 ?_
    exact hret _ _ _ _ _ _ (Or.inl rfl) (Option.some.inj hf) hP hS dX8_fetch_12
abbrev rm_X8_isAnyFit : Room := { frames := 2, cells := 0, slots := 0, locals := 81 }
set_option maxRecDepth 100000 in
theorem t_X8_isAnyFit (l : Launch) (v : Ev) (N : Nat) (g : SM) (res : Int32 × SM) (hf : x_X8_isAnyFit N g = some res) : Ci l yX8_isAnyFit cX8_isAnyFit 3 .boolean rm_X8_isAnyFit pM v [.ref (zA v 0)] g res := by
  refine ze_i (by decide +kernel) (Nat.le_of_ble_eq_true rfl) ?_
  intro p e s m args below meth c Q ls hcx hret hP hl
  obtain ⟨hx, hb, hml, hown, hts, hk⟩ := hcx
  have hown : s.vm.findClass RX8 = some m.cls := hown
  have hS : va_S (An nM v) s.heap s.heap [] := va_S.rf
  have hl : lv_has ls 3 [(0, .ref (zA v 0))] := hl
  have wb60 : ∀ (h2 : Int32 × SM → Option (Int32 × SM)) (hh2 : ∀ x : Int32 × SM, h2 x = some res → ∀ (H : Heap) (locs : List Loc) (ls : Array Slot), va_P (zD v) vwCl (pM.1 v x.2) H → va_S (An nM v) s.heap H locs → lv_has ls 3 [(0, .ref (zA v 0)), (1, .int x.1)] → W p l e rm_X8_isAnyFit s m args below meth c H locs 0 0 Q (F0 m 2 ls [])) (y1 : Int32) (g : SM) (hf : x_X8_isAnyFit_b60 N h2 y1 g = some res) (H : Heap) (locs : List Loc) (ls : Array Slot) (hP : va_P (zD v) vwCl (pM.1 v g) H) (hS : va_S (An nM v) s.heap H locs) (hl : lv_has ls 3 [(0, .ref (zA v 0)), (1, .int y1)]), W p l e rm_X8_isAnyFit s m args below meth c H locs 0 0 Q (F0 m 60 ls []) := by
    intro h2 hh2 y1 g hf H locs ls hP hS hl
    unfold x_X8_isAnyFit_b60 at hf
    obtain ⟨x3, ex3, hf⟩ := lt_e hf
    refine lv_iinc (v := x3) (lv' := [(1, .int x3), (0, .ref (zA v 0))]) hx hb dX8_isAnyFit_60 hl (k := 1) rfl ((congrArg (fun z => y1 + z) kI_1).trans ex3.symm) (by decide) rfl (fun ls hl => ?_)
    refine lv_goto (tgt := 2) hx hb dX8_isAnyFit_63 (by decide) ?_
    exact hh2 (x3, g) hf _ _ _ hP hS (lv_sub hl [1, 0] rfl)
  have wb54 : ∀ (h2 : Int32 × SM → Option (Int32 × SM)) (hh2 : ∀ x : Int32 × SM, h2 x = some res → ∀ (H : Heap) (locs : List Loc) (ls : Array Slot), va_P (zD v) vwCl (pM.1 v x.2) H → va_S (An nM v) s.heap H locs → lv_has ls 3 [(0, .ref (zA v 0)), (1, .int x.1)] → W p l e rm_X8_isAnyFit s m args below meth c H locs 0 0 Q (F0 m 2 ls [])) (h15 : Int32 × Int32 × SM → Option (Int32 × SM)) (hh15 : ∀ x : Int32 × Int32 × SM, h15 x = some res → ∀ (H : Heap) (locs : List Loc) (ls : Array Slot), va_P (zD v) vwCl (pM.1 v x.2.2) H → va_S (An nM v) s.heap H locs → lv_has ls 3 [(0, .ref (zA v 0)), (1, .int x.1), (2, .int x.2.1)] → W p l e rm_X8_isAnyFit s m args below meth c H locs 0 0 Q (F0 m 15 ls [])) (y1 : Int32) (y2 : Int32) (g : SM) (hf : x_X8_isAnyFit_b54 N h2 h15 y1 y2 g = some res) (H : Heap) (locs : List Loc) (ls : Array Slot) (hP : va_P (zD v) vwCl (pM.1 v g) H) (hS : va_S (An nM v) s.heap H locs) (hl : lv_has ls 3 [(0, .ref (zA v 0)), (1, .int y1), (2, .int y2)]), W p l e rm_X8_isAnyFit s m args below meth c H locs 0 0 Q (F0 m 54 ls []) := by
    intro h2 hh2 h15 hh15 y1 y2 g hf H locs ls hP hS hl
    unfold x_X8_isAnyFit_b54 at hf
    obtain ⟨x8, ex8, hf⟩ := lt_e hf
    refine lv_iinc (v := x8) (lv' := [(2, .int x8), (0, .ref (zA v 0)), (1, .int y1)]) hx hb dX8_isAnyFit_54 hl (k := 2) rfl ((congrArg (fun z => y2 + z) kI_1).trans ex8.symm) (by decide) rfl (fun ls hl => ?_)
    refine lv_goto (tgt := 15) hx hb dX8_isAnyFit_57 (by decide) ?_
    exact hh15 (y1, x8, g) hf _ _ _ hP hS (lv_sub hl [1, 2, 0] rfl)
  have wL15 : ∀ (h2 : Int32 × SM → Option (Int32 × SM)) (hh2 : ∀ x : Int32 × SM, h2 x = some res → ∀ (H : Heap) (locs : List Loc) (ls : Array Slot), va_P (zD v) vwCl (pM.1 v x.2) H → va_S (An nM v) s.heap H locs → lv_has ls 3 [(0, .ref (zA v 0)), (1, .int x.1)] → W p l e rm_X8_isAnyFit s m args below meth c H locs 0 0 Q (F0 m 2 ls [])) (n : Nat) (x : Int32 × Int32 × SM), lp (x_X8_isAnyFit_B15 N h2) n x = some res → ∀ (H : Heap) (locs : List Loc) (ls : Array Slot), va_P (zD v) vwCl (pM.1 v x.2.2) H → va_S (An nM v) s.heap H locs → lv_has ls 3 [(0, .ref (zA v 0)), (1, .int x.1), (2, .int x.2.1)] → W p l e rm_X8_isAnyFit s m args below meth c H locs 0 0 Q (F0 m 15 ls []) := by
    intro h2 hh2
    refine lp_w (P := fun x : Int32 × Int32 × SM => ∀ (H : Heap) (locs : List Loc) (ls : Array Slot), va_P (zD v) vwCl (pM.1 v x.2.2) H → va_S (An nM v) s.heap H locs → lv_has ls 3 [(0, .ref (zA v 0)), (1, .int x.1), (2, .int x.2.1)] → W p l e rm_X8_isAnyFit s m args below meth c H locs 0 0 Q (F0 m 15 ls [])) ?_
    intro h15 hh15 x hf H locs ls hP hS hl
    unfold x_X8_isAnyFit_B15 at hf
    refine lv_iload_n hx hb dX8_isAnyFit_15 rfl (lv_at hl 2 rfl) ?_
    refine lv_bipush (v := 100) hx hb dX8_isAnyFit_16 kB_100 ?_
    refine lv_icmp_ge (tgt := 60) hx hb dX8_isAnyFit_18 (by decide) (fun c2 => ?_) (fun c2 => ?_)
    · have hf := ite_t c2 hf
      exact wb60 h2 hh2 x.1 x.2.2 hf _ _ _ hP hS (lv_sub hl [0, 1] rfl)
    · have hf := ite_f c2 hf
      refine lv_aload_n hx hb dX8_isAnyFit_21 rfl (lv_at hl 0 rfl) ?_
      refine lv_iload_n hx hb dX8_isAnyFit_22 rfl (lv_at hl 1 rfl) ?_
      obtain ⟨q4, eq4, hf⟩ := bd_e hf
      refine zki hS (zrV (As := [.int x.1]) (rest := []) okM hx hb hml hown hts hk hP hS (t_X8_isStock l v N x.1 x.2.2 _ eq4) vk_X8_isStock ml_X8_277 rfl rfl ⟨(Nat.le_of_ble_eq_true rfl), (Nat.le_of_ble_eq_true rfl)⟩ (va_recv (q := (RX8, TX8, 55)) hk.1 hP (q0 := 0) (ci := 7) rfl rfl) rfl hl.1 rfl (Nat.le_of_ble_eq_true rfl) dX8_isAnyFit_23) (fun H locs hP hS => ?_)
      refine lv_if_eq (tgt := 60) hx hb dX8_isAnyFit_26 (by decide) (fun c5 => ?_) (fun c5 => ?_)
      · have hf := ite_t c5 hf
        exact wb60 h2 hh2 x.1 q4.2 hf _ _ _ hP hS (lv_sub hl [0, 1] rfl)
      · have hf := ite_f c5 hf
        refine lv_aload_n hx hb dX8_isAnyFit_29 rfl (lv_at hl 0 rfl) ?_
        refine va_get (D := zD v) (ci := 7) (v := .ref (zA v 10)) (C := RX8) (T := TX8) (N := 55) hx hb hts iX8 hown hk.1 hP 0 rfl rfl 32 (by decide) (hts _ fl_X8_50) (fun _ h9 => h9) rfl dX8_isAnyFit_30 ?_
        refine lv_iload_n hx hb dX8_isAnyFit_33 rfl (lv_at hl 2 rfl) ?_
        obtain ⟨c6, hf⟩ := gd_e hf
        refine va_zald hx hb hk.1 hP 10 1 rfl rfl (inb_in c6) dX8_isAnyFit_34 ?_
        refine lv_if_eq (tgt := 54) hx hb dX8_isAnyFit_35 (by decide) (fun c7 => ?_) (fun c7 => ?_)
        · have hf := ite_t c7 hf
          exact wb54 h2 hh2 h15 hh15 x.1 x.2.1 q4.2 hf _ _ _ hP hS (lv_sub hl [0, 1, 2] rfl)
        · have hf := ite_f c7 hf
          refine lv_aload_n hx hb dX8_isAnyFit_38 rfl (lv_at hl 0 rfl) ?_
          refine va_get (D := zD v) (ci := 7) (v := .ref (zA v 9)) (C := RX8) (T := TX8) (N := 55) hx hb hts iX8 hown hk.1 hP 0 rfl rfl 31 (by decide) (hts _ fl_X8_47) (fun _ h9 => h9) rfl dX8_isAnyFit_39 ?_
          refine lv_bipush (v := 100) hx hb dX8_isAnyFit_42 kB_100 ?_
          refine lv_iload_n hx hb dX8_isAnyFit_44 rfl (lv_at hl 1 rfl) ?_
          refine lv_imul hx hb dX8_isAnyFit_45 ?_
          refine lv_iload_n hx hb dX8_isAnyFit_46 rfl (lv_at hl 2 rfl) ?_
          refine lv_iadd hx hb dX8_isAnyFit_47 ?_
          obtain ⟨c9, hf⟩ := gd_e hf
          refine va_iald hx hb hk.1 hP 9 0 rfl rfl (inb_in c9) dX8_isAnyFit_48 ?_
          refine lv_if_ne (tgt := 54) hx hb dX8_isAnyFit_49 (by decide) (fun c10 => ?_) (fun c10 => ?_)
          · have hf := ite_f c10 hf
            exact wb54 h2 hh2 h15 hh15 x.1 x.2.1 q4.2 hf _ _ _ hP hS (lv_sub hl [0, 1, 2] rfl)
          · have hf := ite_t c10 hf
            refine lv_iconst (v := 1) hx hb dX8_isAnyFit_52 kI_1 ?_
            exact hret _ _ _ _ _ _ (Or.inr rfl) (Option.some.inj hf) hP hS dX8_isAnyFit_53
  have wL2 : ∀ (n : Nat) (x : Int32 × SM), lp (x_X8_isAnyFit_B2 N) n x = some res → ∀ (H : Heap) (locs : List Loc) (ls : Array Slot), va_P (zD v) vwCl (pM.1 v x.2) H → va_S (An nM v) s.heap H locs → lv_has ls 3 [(0, .ref (zA v 0)), (1, .int x.1)] → W p l e rm_X8_isAnyFit s m args below meth c H locs 0 0 Q (F0 m 2 ls []) := by
    refine lp_w (P := fun x : Int32 × SM => ∀ (H : Heap) (locs : List Loc) (ls : Array Slot), va_P (zD v) vwCl (pM.1 v x.2) H → va_S (An nM v) s.heap H locs → lv_has ls 3 [(0, .ref (zA v 0)), (1, .int x.1)] → W p l e rm_X8_isAnyFit s m args below meth c H locs 0 0 Q (F0 m 2 ls [])) ?_
    intro h2 hh2 x hf H locs ls hP hS hl
    unfold x_X8_isAnyFit_B2 at hf
    refine lv_iload_n hx hb dX8_isAnyFit_2 rfl (lv_at hl 1 rfl) ?_
    refine lv_bipush (v := 20) hx hb dX8_isAnyFit_3 kB_20 ?_
    refine lv_aload_n hx hb dX8_isAnyFit_5 rfl (lv_at hl 0 rfl) ?_
    refine va_get (D := zD v) (ci := 7) (v := .int (x.2.1 0 15)) (C := RX8) (T := TX8) (N := 55) hx hb hts iX8 hown hk.1 hP 0 rfl rfl 15 (by decide) (hts _ fl_X8_97) (fun _ h9 => h9) rfl dX8_isAnyFit_6 ?_
    refine lv_imul hx hb dX8_isAnyFit_9 ?_
    refine lv_icmp_ge (tgt := 66) hx hb dX8_isAnyFit_10 (by decide) (fun c1 => ?_) (fun c1 => ?_)
    · have hf := ite_t c1 hf
      refine lv_iconst (v := 0) hx hb dX8_isAnyFit_66 kI_0 ?_
      exact hret _ _ _ _ _ _ (Or.inr rfl) (Option.some.inj hf) hP hS dX8_isAnyFit_67
    · have hf := ite_f c1 hf
      refine lv_iconst (v := 0) hx hb dX8_isAnyFit_13 kI_0 ?_
      refine lv_istore_n (lv' := [(2, .int (0 : Int32)), (0, .ref (zA v 0)), (1, .int x.1)]) hx hb dX8_isAnyFit_14 rfl hl (by decide) rfl (fun ls hl => ?_)
      exact wL15 h2 hh2 N (x.1, (0 : Int32), x.2) hf _ _ _ hP hS (lv_sub hl [1, 2, 0] rfl)
  unfold x_X8_isAnyFit at hf
  refine lv_iconst (v := 0) hx hb dX8_isAnyFit_0 kI_0 ?_
  refine lv_istore_n (lv' := [(1, .int (0 : Int32)), (0, .ref (zA v 0))]) hx hb dX8_isAnyFit_1 rfl hl (by decide) rfl (fun ls hl => ?_)
  exact wL2 N ((0 : Int32), g) hf _ _ _ hP hS (lv_sub hl [1, 0] rfl)
abbrev rm_X8_hasAny : Room := { frames := 1, cells := 0, slots := 0, locals := 60 }
set_option maxRecDepth 100000 in
theorem t_X8_hasAny (l : Launch) (v : Ev) (N : Nat) (a1 : Int32) (g : SM) (res : Int32 × SM) (hf : x_X8_hasAny N a1 g = some res) : Ci l yX8_hasAny cX8_hasAny 3 .boolean rm_X8_hasAny pM v [.ref (zA v 0), .int a1] g res := by
  refine ze_i (by decide +kernel) (Nat.le_of_ble_eq_true rfl) ?_
  intro p e s m args below meth c Q ls hcx hret hP hl
  obtain ⟨hx, hb, hml, hown, hts, hk⟩ := hcx
  have hown : s.vm.findClass RX8 = some m.cls := hown
  have hS : va_S (An nM v) s.heap s.heap [] := va_S.rf
  have hl : lv_has ls 3 [(0, .ref (zA v 0)), (1, .int a1)] := hl
  have wL2 : ∀ (n : Nat) (x : Int32 × Int32 × SM), lp (x_X8_hasAny_B2 N) n x = some res → ∀ (H : Heap) (locs : List Loc) (ls : Array Slot), va_P (zD v) vwCl (pM.1 v x.2.2) H → va_S (An nM v) s.heap H locs → lv_has ls 3 [(0, .ref (zA v 0)), (1, .int x.1), (2, .int x.2.1)] → W p l e rm_X8_hasAny s m args below meth c H locs 0 0 Q (F0 m 2 ls []) := by
    refine lp_w (P := fun x : Int32 × Int32 × SM => ∀ (H : Heap) (locs : List Loc) (ls : Array Slot), va_P (zD v) vwCl (pM.1 v x.2.2) H → va_S (An nM v) s.heap H locs → lv_has ls 3 [(0, .ref (zA v 0)), (1, .int x.1), (2, .int x.2.1)] → W p l e rm_X8_hasAny s m args below meth c H locs 0 0 Q (F0 m 2 ls [])) ?_
    intro h2 hh2 x hf H locs ls hP hS hl
    unfold x_X8_hasAny_B2 at hf
    refine lv_iload_n hx hb dX8_hasAny_2 rfl (lv_at hl 2 rfl) ?_
    refine lv_bipush (v := 100) hx hb dX8_hasAny_3 kB_100 ?_
    refine lv_icmp_ge (tgt := 26) hx hb dX8_hasAny_5 (by decide) (fun c1 => ?_) (fun c1 => ?_)
    · have hf := ite_t c1 hf
      refine lv_iconst (v := 0) hx hb dX8_hasAny_26 kI_0 ?_
      exact hret _ _ _ _ _ _ (Or.inr rfl) (Option.some.inj hf) hP hS dX8_hasAny_27
    · have hf := ite_f c1 hf
      refine lv_aload_n hx hb dX8_hasAny_8 rfl (lv_at hl 0 rfl) ?_
      refine va_get (D := zD v) (ci := 7) (v := .ref (zA v 13)) (C := RX8) (T := TX8) (N := 55) hx hb hts iX8 hown hk.1 hP 0 rfl rfl 36 (by decide) (hts _ fl_X8_60) (fun _ h9 => h9) rfl dX8_hasAny_9 ?_
      refine lv_iload_n hx hb dX8_hasAny_12 rfl (lv_at hl 2 rfl) ?_
      obtain ⟨c2, hf⟩ := gd_e hf
      refine va_iald hx hb hk.1 hP 13 0 rfl rfl (inb_in c2) dX8_hasAny_13 ?_
      refine lv_iload_n hx hb dX8_hasAny_14 rfl (lv_at hl 1 rfl) ?_
      refine lv_icmp_ne (tgt := 20) hx hb dX8_hasAny_15 (by decide) (fun c3 => ?_) (fun c3 => ?_)
      · have hf := ite_f c3 hf
        obtain ⟨x4, ex4, hf⟩ := lt_e hf
        refine lv_iinc (v := x4) (lv' := [(2, .int x4), (0, .ref (zA v 0)), (1, .int x.1)]) hx hb dX8_hasAny_20 hl (k := 2) rfl ((congrArg (fun z => x.2.1 + z) kI_1).trans ex4.symm) (by decide) rfl (fun ls hl => ?_)
        refine lv_goto (tgt := 2) hx hb dX8_hasAny_23 (by decide) ?_
        exact hh2 (x.1, x4, x.2.2) hf _ _ _ hP hS (lv_sub hl [1, 2, 0] rfl)
      · have hf := ite_t c3 hf
        refine lv_iconst (v := 1) hx hb dX8_hasAny_18 kI_1 ?_
        exact hret _ _ _ _ _ _ (Or.inr rfl) (Option.some.inj hf) hP hS dX8_hasAny_19
  unfold x_X8_hasAny at hf
  refine lv_iconst (v := 0) hx hb dX8_hasAny_0 kI_0 ?_
  refine lv_istore_n (lv' := [(2, .int (0 : Int32)), (0, .ref (zA v 0)), (1, .int a1)]) hx hb dX8_hasAny_1 rfl hl (by decide) rfl (fun ls hl => ?_)
  exact wL2 N (a1, (0 : Int32), g) hf _ _ _ hP hS (lv_sub hl [1, 2, 0] rfl)
set_option maxRecDepth 100000 in
theorem t_X8_splits (l : Launch) (v : Ev) (N : Nat) (rec : Nat → Int32 → Int32 → Int32 → SM → Option (SM)) (d : Nat) (hr0 : ∀ (b0 b1 : Int32) (g : SM) (res : SM), rec 0 b0 b1 0 g = some res → Cv l yX8_splits cX8_splits 7 (rmG 8 800 60 d) pM v [.ref (zA v 0), .int b0, .int b1] g res) (a1 : Int32) (a2 : Int32) (g : SM) (res : SM) (hf : x_X8_splits N rec a1 a2 g = some res) : Cv l yX8_splits cX8_splits 7 (rmG 8 800 60 (d + 1)) pM v [.ref (zA v 0), .int a1, .int a2] g res := by
  refine ze_v (by decide +kernel) (Nat.le_of_ble_eq_true rfl) ?_
  intro p e s m args below meth c Q ls hcx hret hP hl
  obtain ⟨hx, hb, hml, hown, hts, hk⟩ := hcx
  have hown : s.vm.findClass RX8 = some m.cls := hown
  have hS : va_S (An nM v) s.heap s.heap [] := va_S.rf
  have hl : lv_has ls 7 [(0, .ref (zA v 0)), (1, .int a1), (2, .int a2)] := hl
  have wb191 : ∀ (h155 : Int32 × Int32 × Int32 × SM → Option (SM)) (hh155 : ∀ x : Int32 × Int32 × Int32 × SM, h155 x = some res → ∀ (H : Heap) (locs : List Loc) (ls : Array Slot), va_P (zD v) vwCl (pM.1 v x.2.2.2) H → va_S (An nM v) s.heap H locs → lv_has ls 7 [(0, .ref (zA v 0)), (2, .int x.1), (4, .int x.2.1), (5, .int x.2.2.1)] → W p l e (rmG 8 800 60 (d + 1)) s m args below meth c H locs 0 0 Q (F0 m 155 ls [])) (y2 : Int32) (y4 : Int32) (y5 : Int32) (g : SM) (hf : x_X8_splits_b191 N rec h155 y2 y4 y5 g = some res) (H : Heap) (locs : List Loc) (ls : Array Slot) (hP : va_P (zD v) vwCl (pM.1 v g) H) (hS : va_S (An nM v) s.heap H locs) (hl : lv_has ls 7 [(0, .ref (zA v 0)), (2, .int y2), (4, .int y4), (5, .int y5)]), W p l e (rmG 8 800 60 (d + 1)) s m args below meth c H locs 0 0 Q (F0 m 191 ls []) := by
    intro h155 hh155 y2 y4 y5 g hf H locs ls hP hS hl
    unfold x_X8_splits_b191 at hf
    obtain ⟨x11, ex11, hf⟩ := lt_e hf
    refine lv_iinc (v := x11) (lv' := [(5, .int x11), (0, .ref (zA v 0)), (2, .int y2), (4, .int y4)]) hx hb dX8_splits_191 hl (k := 3) rfl ((congrArg (fun z => y5 + z) kI_1).trans ex11.symm) (by decide) rfl (fun ls hl => ?_)
    refine lv_goto (tgt := 155) hx hb dX8_splits_194 (by decide) ?_
    exact hh155 (y2, y4, x11, g) hf _ _ _ hP hS (lv_sub hl [1, 2, 3, 0] rfl)
  have wL155 : ∀ (n : Nat) (x : Int32 × Int32 × Int32 × SM), lp (x_X8_splits_B155 N rec) n x = some res → ∀ (H : Heap) (locs : List Loc) (ls : Array Slot), va_P (zD v) vwCl (pM.1 v x.2.2.2) H → va_S (An nM v) s.heap H locs → lv_has ls 7 [(0, .ref (zA v 0)), (2, .int x.1), (4, .int x.2.1), (5, .int x.2.2.1)] → W p l e (rmG 8 800 60 (d + 1)) s m args below meth c H locs 0 0 Q (F0 m 155 ls []) := by
    refine lp_w (P := fun x : Int32 × Int32 × Int32 × SM => ∀ (H : Heap) (locs : List Loc) (ls : Array Slot), va_P (zD v) vwCl (pM.1 v x.2.2.2) H → va_S (An nM v) s.heap H locs → lv_has ls 7 [(0, .ref (zA v 0)), (2, .int x.1), (4, .int x.2.1), (5, .int x.2.2.1)] → W p l e (rmG 8 800 60 (d + 1)) s m args below meth c H locs 0 0 Q (F0 m 155 ls [])) ?_
    intro h155 hh155 x hf H locs ls hP hS hl
    unfold x_X8_splits_B155 at hf
    refine lv_iload hx hb dX8_splits_155 (lv_at hl 3 rfl) ?_
    refine lv_iconst (v := 5) hx hb dX8_splits_157 kI_5 ?_
    refine lv_icmp_ge (tgt := 197) hx hb dX8_splits_158 (by decide) (fun c9 => ?_) (fun c9 => ?_)
    · have hf := ite_t c9 hf
      exact hret _ _ _ _ _ (Option.some.inj hf) hP hS dX8_splits_197
    · have hf := ite_f c9 hf
      refine lv_iload hx hb dX8_splits_161 (lv_at hl 3 rfl) ?_
      refine lv_iconst (v := 2) hx hb dX8_splits_163 kI_2 ?_
      refine lv_icmp_eq (tgt := 191) hx hb dX8_splits_164 (by decide) (fun c10 => ?_) (fun c10 => ?_)
      · have hf := ite_t c10 hf
        exact wb191 h155 hh155 x.1 x.2.1 x.2.2.1 x.2.2.2 hf _ _ _ hP hS (lv_sub hl [0, 1, 2, 3] rfl)
      · have hf := ite_f c10 hf
        refine lv_aload_n hx hb dX8_splits_167 rfl (lv_at hl 0 rfl) ?_
        refine lv_iload hx hb dX8_splits_168 (lv_at hl 2 rfl) ?_
        refine lv_iload hx hb dX8_splits_170 (lv_at hl 3 rfl) ?_
        refine lv_iadd hx hb dX8_splits_172 ?_
        obtain ⟨q12, eq12, hf⟩ := bd_e hf
        refine zki hS (zrV (As := [.int (x.2.1 + x.2.2.1)]) (rest := []) okM hx hb hml hown hts hk hP hS (t_X8_hasAny l v N (x.2.1 + x.2.2.1) x.2.2.2 _ eq12) vk_X8_hasAny ml_X8_315 rfl rfl (rmG_lo (Nat.le_of_ble_eq_true rfl) (Nat.le_of_ble_eq_true rfl)) (va_recv (q := (RX8, TX8, 55)) hk.1 hP (q0 := 0) (ci := 7) rfl rfl) rfl hl.1 rfl (Nat.le_of_ble_eq_true rfl) dX8_splits_173) (fun H locs hP hS => ?_)
        refine lv_if_eq (tgt := 191) hx hb dX8_splits_176 (by decide) (fun c13 => ?_) (fun c13 => ?_)
        · have hf := ite_t c13 hf
          exact wb191 h155 hh155 x.1 x.2.1 x.2.2.1 q12.2 hf _ _ _ hP hS (lv_sub hl [0, 1, 2, 3] rfl)
        · have hf := ite_f c13 hf
          refine lv_aload_n hx hb dX8_splits_179 rfl (lv_at hl 0 rfl) ?_
          refine lv_iload hx hb dX8_splits_180 (lv_at hl 2 rfl) ?_
          refine lv_iload hx hb dX8_splits_182 (lv_at hl 3 rfl) ?_
          refine lv_iadd hx hb dX8_splits_184 ?_
          refine lv_iload_n hx hb dX8_splits_185 rfl (lv_at hl 1 rfl) ?_
          refine lv_iconst (v := 1) hx hb dX8_splits_186 kI_1 ?_
          refine lv_iadd hx hb dX8_splits_187 ?_
          obtain ⟨q14, eq14, hf⟩ := bd_e hf
          refine zkv hS (zrV (As := [.int (x.2.1 + x.2.2.1), .int (x.1 + (1 : Int32))]) (rest := []) okM hx hb hml hown hts hk hP hS (hr0 (x.2.1 + x.2.2.1) (x.1 + (1 : Int32)) q12.2 _ eq14) vk_X8_splits ml_X8_318 rfl rfl (rmG_go (by decide)) (va_recv (q := (RX8, TX8, 55)) hk.1 hP (q0 := 0) (ci := 7) rfl rfl) rfl hl.1 rfl (Nat.le_of_ble_eq_true rfl) dX8_splits_188) (fun H locs hP hS => ?_)
          exact wb191 h155 hh155 x.1 x.2.1 x.2.2.1 q14 hf _ _ _ hP hS (lv_sub hl [0, 1, 2, 3] rfl)
  have wb146 : ∀ (h73 : Int32 × Int32 × Int32 × Int32 × SM → Option (SM)) (hh73 : ∀ x : Int32 × Int32 × Int32 × Int32 × SM, h73 x = some res → ∀ (H : Heap) (locs : List Loc) (ls : Array Slot), va_P (zD v) vwCl (pM.1 v x.2.2.2.2) H → va_S (An nM v) s.heap H locs → lv_has ls 7 [(0, .ref (zA v 0)), (2, .int x.1), (3, .int x.2.1), (4, .int x.2.2.1), (5, .int x.2.2.2.1)] → W p l e (rmG 8 800 60 (d + 1)) s m args below meth c H locs 0 0 Q (F0 m 73 ls [])) (y2 : Int32) (y3 : Int32) (y4 : Int32) (y5 : Int32) (g : SM) (hf : x_X8_splits_b146 N rec h73 y2 y3 y4 y5 g = some res) (H : Heap) (locs : List Loc) (ls : Array Slot) (hP : va_P (zD v) vwCl (pM.1 v g) H) (hS : va_S (An nM v) s.heap H locs) (hl : lv_has ls 7 [(0, .ref (zA v 0)), (2, .int y2), (3, .int y3), (4, .int y4), (5, .int y5)]), W p l e (rmG 8 800 60 (d + 1)) s m args below meth c H locs 0 0 Q (F0 m 146 ls []) := by
    intro h73 hh73 y2 y3 y4 y5 g hf H locs ls hP hS hl
    unfold x_X8_splits_b146 at hf
    obtain ⟨x17, ex17, hf⟩ := lt_e hf
    refine lv_iinc (v := x17) (lv' := [(5, .int x17), (0, .ref (zA v 0)), (2, .int y2), (3, .int y3), (4, .int y4)]) hx hb dX8_splits_146 hl (k := 4) rfl ((congrArg (fun z => y5 + z) kI_1).trans ex17.symm) (by decide) rfl (fun ls hl => ?_)
    refine lv_goto (tgt := 73) hx hb dX8_splits_149 (by decide) ?_
    exact hh73 (y2, y3, y4, x17, g) hf _ _ _ hP hS (lv_sub hl [1, 2, 3, 4, 0] rfl)
  have wb145 : ∀ (h73 : Int32 × Int32 × Int32 × Int32 × SM → Option (SM)) (hh73 : ∀ x : Int32 × Int32 × Int32 × Int32 × SM, h73 x = some res → ∀ (H : Heap) (locs : List Loc) (ls : Array Slot), va_P (zD v) vwCl (pM.1 v x.2.2.2.2) H → va_S (An nM v) s.heap H locs → lv_has ls 7 [(0, .ref (zA v 0)), (2, .int x.1), (3, .int x.2.1), (4, .int x.2.2.1), (5, .int x.2.2.2.1)] → W p l e (rmG 8 800 60 (d + 1)) s m args below meth c H locs 0 0 Q (F0 m 73 ls [])) (y2 : Int32) (y3 : Int32) (y4 : Int32) (y5 : Int32) (t0 : Int32) (t1 : Int32) (g : SM) (hf : x_X8_splits_b145 N rec h73 y2 y3 y4 y5 t0 t1 g = some res) (H : Heap) (locs : List Loc) (ls : Array Slot) (hP : va_P (zD v) vwCl (pM.1 v g) H) (hS : va_S (An nM v) s.heap H locs) (hl : lv_has ls 7 [(0, .ref (zA v 0)), (2, .int y2), (3, .int y3), (4, .int y4), (5, .int y5)]), W p l e (rmG 8 800 60 (d + 1)) s m args below meth c H locs 0 0 Q (F0 m 145 ls [.int t0, .int t1, .ref (zA v 13)]) := by
    intro h73 hh73 y2 y3 y4 y5 t0 t1 g hf H locs ls hP hS hl
    unfold x_X8_splits_b145 at hf
    obtain ⟨c24, hf⟩ := gd_e hf
    refine va_iast hx hb hk.1 hP (zw_D okM hk _) hS 13 0 rfl rfl (inb_in c24) dX8_splits_145 (fun H locs hP1 _ hS => ?_)
    have hP : va_P (zD v) vwCl (pM.1 v (up g.1 13 (upd (g.1 13) (t1).toNatClampNeg t0), g.2)) H := hP1
    obtain ⟨g25, eg25, hf⟩ := lt_e hf
    rw [← eg25] at hP
    exact wb146 h73 hh73 y2 y3 y4 y5 g25 hf _ _ _ hP hS (lv_sub hl [0, 1, 2, 3, 4] rfl)
  have wb122 : ∀ (h73 : Int32 × Int32 × Int32 × Int32 × SM → Option (SM)) (hh73 : ∀ x : Int32 × Int32 × Int32 × Int32 × SM, h73 x = some res → ∀ (H : Heap) (locs : List Loc) (ls : Array Slot), va_P (zD v) vwCl (pM.1 v x.2.2.2.2) H → va_S (An nM v) s.heap H locs → lv_has ls 7 [(0, .ref (zA v 0)), (2, .int x.1), (3, .int x.2.1), (4, .int x.2.2.1), (5, .int x.2.2.2.1)] → W p l e (rmG 8 800 60 (d + 1)) s m args below meth c H locs 0 0 Q (F0 m 73 ls [])) (y2 : Int32) (y3 : Int32) (y4 : Int32) (y5 : Int32) (y6 : Int32) (t0 : Int32) (t1 : Int32) (g : SM) (hf : x_X8_splits_b122 N rec h73 y2 y3 y4 y5 y6 t0 t1 g = some res) (H : Heap) (locs : List Loc) (ls : Array Slot) (hP : va_P (zD v) vwCl (pM.1 v g) H) (hS : va_S (An nM v) s.heap H locs) (hl : lv_has ls 7 [(0, .ref (zA v 0)), (2, .int y2), (3, .int y3), (4, .int y4), (5, .int y5), (6, .int y6)]), W p l e (rmG 8 800 60 (d + 1)) s m args below meth c H locs 0 0 Q (F0 m 122 ls [.int t0, .int t1, .ref (zA v 12)]) := by
    intro h73 hh73 y2 y3 y4 y5 y6 t0 t1 g hf H locs ls hP hS hl
    unfold x_X8_splits_b122 at hf
    obtain ⟨c21, hf⟩ := gd_e hf
    refine va_iast hx hb hk.1 hP (zw_D okM hk _) hS 12 0 rfl rfl (inb_in c21) dX8_splits_122 (fun H locs hP1 _ hS => ?_)
    have hP : va_P (zD v) vwCl (pM.1 v (up g.1 12 (upd (g.1 12) (t1).toNatClampNeg t0), g.2)) H := hP1
    obtain ⟨g22, eg22, hf⟩ := lt_e hf
    rw [← eg22] at hP
    refine lv_aload_n hx hb dX8_splits_123 rfl (lv_at hl 0 rfl) ?_
    refine va_get (D := zD v) (ci := 7) (v := .ref (zA v 13)) (C := RX8) (T := TX8) (N := 55) hx hb hts iX8 hown hk.1 hP 0 rfl rfl 36 (by decide) (hts _ fl_X8_60) (fun _ h9 => h9) rfl dX8_splits_124 ?_
    refine lv_iload hx hb dX8_splits_127 (lv_at hl 4 rfl) ?_
    refine lv_iload hx hb dX8_splits_129 (lv_at hl 5 rfl) ?_
    refine lv_if_ne (tgt := 138) hx hb dX8_splits_131 (by decide) (fun c23 => ?_) (fun c23 => ?_)
    · have hf := ite_f c23 hf
      refine lv_iload hx hb dX8_splits_138 (lv_at hl 3 rfl) ?_
      refine lv_iload hx hb dX8_splits_140 (lv_at hl 5 rfl) ?_
      refine lv_iadd hx hb dX8_splits_142 ?_
      refine lv_iconst (v := 2) hx hb dX8_splits_143 kI_2 ?_
      refine lv_iadd hx hb dX8_splits_144 ?_
      exact wb145 h73 hh73 y2 y3 y4 y5 ((y4 + y6) + (2 : Int32)) y5 g22 hf _ _ _ hP hS (lv_sub hl [0, 1, 2, 3, 4] rfl)
    · have hf := ite_t c23 hf
      refine lv_iconst (v := -1) hx hb dX8_splits_134 kI_m1 ?_
      refine lv_goto (tgt := 145) hx hb dX8_splits_135 (by decide) ?_
      exact wb145 h73 hh73 y2 y3 y4 y5 (-1 : Int32) y5 g22 hf _ _ _ hP hS (lv_sub hl [0, 1, 2, 3, 4] rfl)
  have wL73 : ∀ (n : Nat) (x : Int32 × Int32 × Int32 × Int32 × SM), lp (x_X8_splits_B73 N rec) n x = some res → ∀ (H : Heap) (locs : List Loc) (ls : Array Slot), va_P (zD v) vwCl (pM.1 v x.2.2.2.2) H → va_S (An nM v) s.heap H locs → lv_has ls 7 [(0, .ref (zA v 0)), (2, .int x.1), (3, .int x.2.1), (4, .int x.2.2.1), (5, .int x.2.2.2.1)] → W p l e (rmG 8 800 60 (d + 1)) s m args below meth c H locs 0 0 Q (F0 m 73 ls []) := by
    refine lp_w (P := fun x : Int32 × Int32 × Int32 × Int32 × SM => ∀ (H : Heap) (locs : List Loc) (ls : Array Slot), va_P (zD v) vwCl (pM.1 v x.2.2.2.2) H → va_S (An nM v) s.heap H locs → lv_has ls 7 [(0, .ref (zA v 0)), (2, .int x.1), (3, .int x.2.1), (4, .int x.2.2.1), (5, .int x.2.2.2.1)] → W p l e (rmG 8 800 60 (d + 1)) s m args below meth c H locs 0 0 Q (F0 m 73 ls [])) ?_
    intro h73 hh73 x hf H locs ls hP hS hl
    unfold x_X8_splits_B73 at hf
    refine lv_iload hx hb dX8_splits_73 (lv_at hl 4 rfl) ?_
    refine lv_bipush (v := 100) hx hb dX8_splits_75 kB_100 ?_
    refine lv_icmp_ge (tgt := 152) hx hb dX8_splits_77 (by decide) (fun c8 => ?_) (fun c8 => ?_)
    · have hf := ite_t c8 hf
      refine lv_iconst (v := 0) hx hb dX8_splits_152 kI_0 ?_
      refine lv_istore (lv' := [(5, .int (0 : Int32)), (0, .ref (zA v 0)), (2, .int x.1), (3, .int x.2.1), (4, .int x.2.2.1)]) hx hb dX8_splits_153 hl (by decide) rfl (fun ls hl => ?_)
      exact wL155 N (x.1, x.2.2.1, (0 : Int32), x.2.2.2.2) hf _ _ _ hP hS (lv_sub hl [1, 2, 4, 0] rfl)
    · have hf := ite_f c8 hf
      refine lv_aload_n hx hb dX8_splits_80 rfl (lv_at hl 0 rfl) ?_
      refine va_get (D := zD v) (ci := 7) (v := .ref (zA v 10)) (C := RX8) (T := TX8) (N := 55) hx hb hts iX8 hown hk.1 hP 0 rfl rfl 32 (by decide) (hts _ fl_X8_50) (fun _ h9 => h9) rfl dX8_splits_81 ?_
      refine lv_iload hx hb dX8_splits_84 (lv_at hl 4 rfl) ?_
      obtain ⟨c15, hf⟩ := gd_e hf
      refine va_zald hx hb hk.1 hP 10 1 rfl rfl (inb_in c15) dX8_splits_86 ?_
      refine lv_if_eq (tgt := 146) hx hb dX8_splits_87 (by decide) (fun c16 => ?_) (fun c16 => ?_)
      · have hf := ite_t c16 hf
        exact wb146 h73 hh73 x.1 x.2.1 x.2.2.1 x.2.2.2.1 x.2.2.2.2 hf _ _ _ hP hS (lv_sub hl [0, 1, 2, 3, 4] rfl)
      · have hf := ite_f c16 hf
        refine lv_aload_n hx hb dX8_splits_90 rfl (lv_at hl 0 rfl) ?_
        refine va_get (D := zD v) (ci := 7) (v := .ref (zA v 9)) (C := RX8) (T := TX8) (N := 55) hx hb hts iX8 hown hk.1 hP 0 rfl rfl 31 (by decide) (hts _ fl_X8_47) (fun _ h9 => h9) rfl dX8_splits_91 ?_
        refine lv_bipush (v := 100) hx hb dX8_splits_94 kB_100 ?_
        refine lv_iload_n hx hb dX8_splits_96 rfl (lv_at hl 2 rfl) ?_
        refine lv_imul hx hb dX8_splits_97 ?_
        refine lv_iload hx hb dX8_splits_98 (lv_at hl 4 rfl) ?_
        refine lv_iadd hx hb dX8_splits_100 ?_
        obtain ⟨c18, hf⟩ := gd_e hf
        refine va_iald hx hb hk.1 hP 9 0 rfl rfl (inb_in c18) dX8_splits_101 ?_
        obtain ⟨x19, ex19, hf⟩ := lt_e hf
        refine lv_nm ex19 ?_
        refine lv_istore (lv' := [(6, .int x19), (0, .ref (zA v 0)), (2, .int x.1), (3, .int x.2.1), (4, .int x.2.2.1), (5, .int x.2.2.2.1)]) hx hb dX8_splits_102 hl (by decide) rfl (fun ls hl => ?_)
        refine lv_aload_n hx hb dX8_splits_104 rfl (lv_at hl 1 rfl) ?_
        refine va_get (D := zD v) (ci := 7) (v := .ref (zA v 12)) (C := RX8) (T := TX8) (N := 55) hx hb hts iX8 hown hk.1 hP 0 rfl rfl 35 (by decide) (hts _ fl_X8_57) (fun _ h9 => h9) rfl dX8_splits_105 ?_
        refine lv_iload hx hb dX8_splits_108 (lv_at hl 5 rfl) ?_
        refine lv_iload hx hb dX8_splits_110 (lv_at hl 0 rfl) ?_
        refine lv_if_ne (tgt := 121) hx hb dX8_splits_112 (by decide) (fun c20 => ?_) (fun c20 => ?_)
        · have hf := ite_f c20 hf
          refine lv_iconst (v := -1) hx hb dX8_splits_121 kI_m1 ?_
          exact wb122 h73 hh73 x.1 x.2.1 x.2.2.1 x.2.2.2.1 x19 (-1 : Int32) x.2.2.2.1 x.2.2.2.2 hf _ _ _ hP hS (lv_sub hl [1, 2, 3, 4, 5, 0] rfl)
        · have hf := ite_t c20 hf
          refine lv_iload_n hx hb dX8_splits_115 rfl (lv_at hl 2 rfl) ?_
          refine lv_iconst (v := 1) hx hb dX8_splits_116 kI_1 ?_
          refine lv_iadd hx hb dX8_splits_117 ?_
          refine lv_goto (tgt := 122) hx hb dX8_splits_118 (by decide) ?_
          exact wb122 h73 hh73 x.1 x.2.1 x.2.2.1 x.2.2.2.1 x19 (x.1 + (1 : Int32)) x.2.2.2.1 x.2.2.2.2 hf _ _ _ hP hS (lv_sub hl [1, 2, 3, 4, 5, 0] rfl)
  have wb28 : ∀ (h2 : Int32 × Int32 × Int32 × SM → Option (SM)) (hh2 : ∀ x : Int32 × Int32 × Int32 × SM, h2 x = some res → ∀ (H : Heap) (locs : List Loc) (ls : Array Slot), va_P (zD v) vwCl (pM.1 v x.2.2.2) H → va_S (An nM v) s.heap H locs → lv_has ls 7 [(0, .ref (zA v 0)), (1, .int x.1), (2, .int x.2.1), (3, .int x.2.2.1)] → W p l e (rmG 8 800 60 (d + 1)) s m args below meth c H locs 0 0 Q (F0 m 2 ls [])) (y1 : Int32) (y2 : Int32) (y3 : Int32) (t0 : Int32) (t1 : Int32) (g : SM) (hf : x_X8_splits_b28 N rec h2 y1 y2 y3 t0 t1 g = some res) (H : Heap) (locs : List Loc) (ls : Array Slot) (hP : va_P (zD v) vwCl (pM.1 v g) H) (hS : va_S (An nM v) s.heap H locs) (hl : lv_has ls 7 [(0, .ref (zA v 0)), (1, .int y1), (2, .int y2), (3, .int y3)]), W p l e (rmG 8 800 60 (d + 1)) s m args below meth c H locs 0 0 Q (F0 m 28 ls [.int t0, .int t1, .ref (zA v 10)]) := by
    intro h2 hh2 y1 y2 y3 t0 t1 g hf H locs ls hP hS hl
    unfold x_X8_splits_b28 at hf
    obtain ⟨c28, hf⟩ := gd_e hf
    refine va_zast hx hb hk.1 hP (zw_D okM hk _) hS 10 1 rfl rfl (inb_in c28) dX8_splits_28 (fun H locs hP1 _ hS => ?_)
    have hP : va_P (zD v) vwCl (pM.1 v (up g.1 10 (upd (g.1 10) (t1).toNatClampNeg (vp_nar .boolean t0)), g.2)) H := hP1
    obtain ⟨g29, eg29, hf⟩ := lt_e hf
    rw [← eg29] at hP
    obtain ⟨x30, ex30, hf⟩ := lt_e hf
    refine lv_iinc (v := x30) (lv' := [(3, .int x30), (0, .ref (zA v 0)), (1, .int y1), (2, .int y2)]) hx hb dX8_splits_29 hl (k := 3) rfl ((congrArg (fun z => y3 + z) kI_1).trans ex30.symm) (by decide) rfl (fun ls hl => ?_)
    refine lv_goto (tgt := 2) hx hb dX8_splits_32 (by decide) ?_
    exact hh2 (y1, y2, x30, g29) hf _ _ _ hP hS (lv_sub hl [1, 2, 3, 0] rfl)
  have wL2 : ∀ (n : Nat) (x : Int32 × Int32 × Int32 × SM), lp (x_X8_splits_B2 N rec) n x = some res → ∀ (H : Heap) (locs : List Loc) (ls : Array Slot), va_P (zD v) vwCl (pM.1 v x.2.2.2) H → va_S (An nM v) s.heap H locs → lv_has ls 7 [(0, .ref (zA v 0)), (1, .int x.1), (2, .int x.2.1), (3, .int x.2.2.1)] → W p l e (rmG 8 800 60 (d + 1)) s m args below meth c H locs 0 0 Q (F0 m 2 ls []) := by
    refine lp_w (P := fun x : Int32 × Int32 × Int32 × SM => ∀ (H : Heap) (locs : List Loc) (ls : Array Slot), va_P (zD v) vwCl (pM.1 v x.2.2.2) H → va_S (An nM v) s.heap H locs → lv_has ls 7 [(0, .ref (zA v 0)), (1, .int x.1), (2, .int x.2.1), (3, .int x.2.2.1)] → W p l e (rmG 8 800 60 (d + 1)) s m args below meth c H locs 0 0 Q (F0 m 2 ls [])) ?_
    intro h2 hh2 x hf H locs ls hP hS hl
    unfold x_X8_splits_B2 at hf
    refine lv_iload_n hx hb dX8_splits_2 rfl (lv_at hl 3 rfl) ?_
    refine lv_bipush (v := 100) hx hb dX8_splits_3 kB_100 ?_
    refine lv_icmp_ge (tgt := 35) hx hb dX8_splits_5 (by decide) (fun c1 => ?_) (fun c1 => ?_)
    · have hf := ite_t c1 hf
      refine lv_iload_n hx hb dX8_splits_35 rfl (lv_at hl 2 rfl) ?_
      refine lv_bipush (v := 20) hx hb dX8_splits_36 kB_20 ?_
      refine lv_icmp_eq (tgt := 48) hx hb dX8_splits_38 (by decide) (fun c2 => ?_) (fun c2 => ?_)
      · have hf := ite_t c2 hf
        exact hret _ _ _ _ _ (Option.some.inj hf) hP hS dX8_splits_48
      · have hf := ite_f c2 hf
        refine lv_aload_n hx hb dX8_splits_41 rfl (lv_at hl 0 rfl) ?_
        obtain ⟨q3, eq3, hf⟩ := bd_e hf
        refine zki hS (zrV (As := []) (rest := []) okM hx hb hml hown hts hk hP hS (t_X8_isAnyFit l v N x.2.2.2 _ eq3) vk_X8_isAnyFit ml_X8_309 rfl rfl (rmG_lo (Nat.le_of_ble_eq_true rfl) (Nat.le_of_ble_eq_true rfl)) (va_recv (q := (RX8, TX8, 55)) hk.1 hP (q0 := 0) (ci := 7) rfl rfl) rfl hl.1 rfl (Nat.le_of_ble_eq_true rfl) dX8_splits_42) (fun H locs hP hS => ?_)
        refine lv_if_ne (tgt := 49) hx hb dX8_splits_45 (by decide) (fun c4 => ?_) (fun c4 => ?_)
        · have hf := ite_f c4 hf
          refine lv_aload_n hx hb dX8_splits_49 rfl (lv_at hl 0 rfl) ?_
          obtain ⟨q5, eq5, hf⟩ := bd_e hf
          refine zki hS (zrV (As := []) (rest := []) okM hx hb hml hown hts hk hP hS (t_X8_fetches l v N q3.2 _ eq5) vk_X8_fetches ml_X8_306 rfl rfl (rmG_lo (Nat.le_of_ble_eq_true rfl) (Nat.le_of_ble_eq_true rfl)) (va_recv (q := (RX8, TX8, 55)) hk.1 hP (q0 := 0) (ci := 7) rfl rfl) rfl hl.1 rfl (Nat.le_of_ble_eq_true rfl) dX8_splits_50) (fun H locs hP hS => ?_)
          refine lv_istore_n (lv' := [(3, .int q5.1), (0, .ref (zA v 0)), (1, .int x.1), (2, .int x.2.1)]) hx hb dX8_splits_53 rfl hl (by decide) rfl (fun ls hl => ?_)
          refine lv_aload_n hx hb dX8_splits_54 rfl (lv_at hl 1 rfl) ?_
          refine va_get (D := zD v) (ci := 7) (v := .int (q5.2.1 0 37)) (C := RX8) (T := TX8) (N := 55) hx hb hts iX8 hown hk.1 hP 0 rfl rfl 37 (by decide) (hts _ fl_X8_312) (fun _ h9 => h9) rfl dX8_splits_55 ?_
          obtain ⟨x6, ex6, hf⟩ := lt_e hf
          refine lv_nm ex6 ?_
          refine lv_istore (lv' := [(4, .int x6), (3, .int q5.1), (0, .ref (zA v 0)), (1, .int x.1), (2, .int x.2.1)]) hx hb dX8_splits_58 hl (by decide) rfl (fun ls hl => ?_)
          refine lv_aload_n hx hb dX8_splits_60 rfl (lv_at hl 2 rfl) ?_
          refine lv_dup hx hb dX8_splits_61 rfl ?_
          refine va_get (D := zD v) (ci := 7) (v := .int (q5.2.1 0 37)) (C := RX8) (T := TX8) (N := 55) hx hb hts iX8 hown hk.1 hP 0 rfl rfl 37 (by decide) (hts _ fl_X8_312) (fun _ h9 => h9) rfl dX8_splits_62 ?_
          refine lv_iconst (v := 5) hx hb dX8_splits_65 kI_5 ?_
          refine lv_iadd hx hb dX8_splits_66 ?_
          refine va_put (D := zD v) (ci := 7) (v := .int ((q5.2.1 0 37) + (5 : Int32))) (ty := .int) (C := RX8) (T := TX8) (N := 55) hx hb hts iX8 tyX8 tyX8_ok nmX8 hown hk.1 hP (zw_D okM hk _) hS 0 rfl rfl 37 (by decide) (hts _ fl_X8_312) (fun _ h9 => h9) rfl pd_I rfl rfl (Nat.le_of_ble_eq_true rfl) dX8_splits_67 (fun H locs hP1 _ hS => ?_)
          have hP : va_P (zD v) vwCl (pM.1 v (up q5.2.1 0 (upd (q5.2.1 0) 37 ((q5.2.1 0 37) + (5 : Int32))), q5.2.2)) H := hP1
          obtain ⟨g7, eg7, hf⟩ := lt_e hf
          rw [← eg7] at hP
          refine lv_iconst (v := 0) hx hb dX8_splits_70 kI_0 ?_
          refine lv_istore (lv' := [(5, .int (0 : Int32)), (4, .int x6), (3, .int q5.1), (0, .ref (zA v 0)), (1, .int x.1), (2, .int x.2.1)]) hx hb dX8_splits_71 hl (by decide) rfl (fun ls hl => ?_)
          exact wL73 N (x.2.1, q5.1, x6, (0 : Int32), g7) hf _ _ _ hP hS (lv_sub hl [3, 5, 2, 1, 0] rfl)
        · have hf := ite_t c4 hf
          exact hret _ _ _ _ _ (Option.some.inj hf) hP hS dX8_splits_48
    · have hf := ite_f c1 hf
      refine lv_aload_n hx hb dX8_splits_8 rfl (lv_at hl 0 rfl) ?_
      refine va_get (D := zD v) (ci := 7) (v := .ref (zA v 10)) (C := RX8) (T := TX8) (N := 55) hx hb hts iX8 hown hk.1 hP 0 rfl rfl 32 (by decide) (hts _ fl_X8_50) (fun _ h9 => h9) rfl dX8_splits_9 ?_
      refine lv_iload_n hx hb dX8_splits_12 rfl (lv_at hl 3 rfl) ?_
      refine lv_aload_n hx hb dX8_splits_13 rfl (lv_at hl 0 rfl) ?_
      refine va_get (D := zD v) (ci := 7) (v := .ref (zA v 13)) (C := RX8) (T := TX8) (N := 55) hx hb hts iX8 hown hk.1 hP 0 rfl rfl 36 (by decide) (hts _ fl_X8_60) (fun _ h9 => h9) rfl dX8_splits_14 ?_
      refine lv_iload_n hx hb dX8_splits_17 rfl (lv_at hl 3 rfl) ?_
      obtain ⟨c26, hf⟩ := gd_e hf
      refine va_iald hx hb hk.1 hP 13 0 rfl rfl (inb_in c26) dX8_splits_18 ?_
      refine lv_iload_n hx hb dX8_splits_19 rfl (lv_at hl 1 rfl) ?_
      refine lv_icmp_ne (tgt := 27) hx hb dX8_splits_20 (by decide) (fun c27 => ?_) (fun c27 => ?_)
      · have hf := ite_f c27 hf
        refine lv_iconst (v := 0) hx hb dX8_splits_27 kI_0 ?_
        exact wb28 h2 hh2 x.1 x.2.1 x.2.2.1 (0 : Int32) x.2.2.1 x.2.2.2 hf _ _ _ hP hS (lv_sub hl [0, 1, 2, 3] rfl)
      · have hf := ite_t c27 hf
        refine lv_iconst (v := 1) hx hb dX8_splits_23 kI_1 ?_
        refine lv_goto (tgt := 28) hx hb dX8_splits_24 (by decide) ?_
        exact wb28 h2 hh2 x.1 x.2.1 x.2.2.1 (1 : Int32) x.2.2.1 x.2.2.2 hf _ _ _ hP hS (lv_sub hl [0, 1, 2, 3] rfl)
  unfold x_X8_splits at hf
  refine lv_iconst (v := 0) hx hb dX8_splits_0 kI_0 ?_
  refine lv_istore_n (lv' := [(3, .int (0 : Int32)), (0, .ref (zA v 0)), (1, .int a1), (2, .int a2)]) hx hb dX8_splits_1 rfl hl (by decide) rfl (fun ls hl => ?_)
  exact wL2 N (a1, a2, (0 : Int32), g) hf _ _ _ hP hS (lv_sub hl [1, 2, 3, 0] rfl)
theorem tg_S_all (l : Launch) (v : Ev) (N : Nat) : ∀ d : Nat, (∀ (b0 b1 : Int32) (g : SM) (res : SM), gr_S N d 0 b0 b1 0 g = some res → Cv l yX8_splits cX8_splits 7 (rmG 8 800 60 d) pM v [.ref (zA v 0), .int b0, .int b1] g res) := by
  intro d
  induction d with
  | zero => exact fun _ _ _ _ h => nn_e h
  | succ d ih => exact fun b0 b1 g res hf => t_X8_splits l v N (gr_S N d) d ih b0 b1 g res hf
theorem tg_X8_splits (l : Launch) (v : Ev) (N d : Nat) : ∀ (b0 b1 : Int32) (g : SM) (res : SM), gr_S N d 0 b0 b1 0 g = some res → Cv l yX8_splits cX8_splits 7 (rmG 8 800 60 d) pM v [.ref (zA v 0), .int b0, .int b1] g res := (tg_S_all l v N d)
abbrev rm_X8_findsAll : Room := { frames := 34, cells := 0, slots := 0, locals := 2326 }
set_option maxRecDepth 100000 in
theorem t_X8_findsAll (l : Launch) (v : Ev) (N : Nat) (g : SM) (res : SM) (hf : x_X8_findsAll N g = some res) : Cv l yX8_findsAll cX8_findsAll 2 rm_X8_findsAll pM v [.ref (zA v 0)] g res := by
  refine ze_v (by decide +kernel) (Nat.le_of_ble_eq_true rfl) ?_
  intro p e s m args below meth c Q ls hcx hret hP hl
  obtain ⟨hx, hb, hml, hown, hts, hk⟩ := hcx
  have hown : s.vm.findClass RX8 = some m.cls := hown
  have hS : va_S (An nM v) s.heap s.heap [] := va_S.rf
  have hl : lv_has ls 2 [(0, .ref (zA v 0))] := hl
  have wL6 : ∀ (n : Nat) (x : Int32 × SM), lp (x_X8_findsAll_B6 N) n x = some res → ∀ (H : Heap) (locs : List Loc) (ls : Array Slot), va_P (zD v) vwCl (pM.1 v x.2) H → va_S (An nM v) s.heap H locs → lv_has ls 2 [(0, .ref (zA v 0)), (1, .int x.1)] → W p l e rm_X8_findsAll s m args below meth c H locs 0 0 Q (F0 m 6 ls []) := by
    refine lp_w (P := fun x : Int32 × SM => ∀ (H : Heap) (locs : List Loc) (ls : Array Slot), va_P (zD v) vwCl (pM.1 v x.2) H → va_S (An nM v) s.heap H locs → lv_has ls 2 [(0, .ref (zA v 0)), (1, .int x.1)] → W p l e rm_X8_findsAll s m args below meth c H locs 0 0 Q (F0 m 6 ls [])) ?_
    intro h6 hh6 x hf H locs ls hP hS hl
    unfold x_X8_findsAll_B6 at hf
    refine lv_iload_n hx hb dX8_findsAll_6 rfl (lv_at hl 1 rfl) ?_
    refine lv_bipush (v := 100) hx hb dX8_findsAll_7 kB_100 ?_
    refine lv_icmp_ge (tgt := 32) hx hb dX8_findsAll_9 (by decide) (fun c2 => ?_) (fun c2 => ?_)
    · have hf := ite_t c2 hf
      refine lv_aload_n hx hb dX8_findsAll_32 rfl (lv_at hl 0 rfl) ?_
      refine lv_iconst (v := 1) hx hb dX8_findsAll_33 kI_1 ?_
      refine va_put (D := zD v) (ci := 7) (v := .int (1 : Int32)) (ty := .int) (C := RX8) (T := TX8) (N := 55) hx hb hts iX8 tyX8 tyX8_ok nmX8 hown hk.1 hP (zw_D okM hk _) hS 0 rfl rfl 37 (by decide) (hts _ fl_X8_312) (fun _ h9 => h9) rfl pd_I rfl rfl (Nat.le_of_ble_eq_true rfl) dX8_findsAll_34 (fun H locs hP1 _ hS => ?_)
      have hP : va_P (zD v) vwCl (pM.1 v (up x.2.1 0 (upd (x.2.1 0) 37 (1 : Int32)), x.2.2)) H := hP1
      obtain ⟨g3, eg3, hf⟩ := lt_e hf
      rw [← eg3] at hP
      refine lv_aload_n hx hb dX8_findsAll_37 rfl (lv_at hl 0 rfl) ?_
      refine lv_iconst (v := 0) hx hb dX8_findsAll_38 kI_0 ?_
      refine lv_iconst (v := 0) hx hb dX8_findsAll_39 kI_0 ?_
      obtain ⟨q4, eq4, hf⟩ := bd_e hf
      refine zkv hS (zrV (As := [.int (0 : Int32), .int (0 : Int32)]) (rest := []) okM hx hb hml hown hts hk hP hS (tg_X8_splits l v N 25 (0 : Int32) (0 : Int32) g3 _ eq4) vk_X8_splits ml_X8_318 rfl rfl ⟨(Nat.le_of_ble_eq_true rfl), (Nat.le_of_ble_eq_true rfl)⟩ (va_recv (q := (RX8, TX8, 55)) hk.1 hP (q0 := 0) (ci := 7) rfl rfl) rfl hl.1 rfl (Nat.le_of_ble_eq_true rfl) dX8_findsAll_40) (fun H locs hP hS => ?_)
      exact hret _ _ _ _ _ (Option.some.inj hf) hP hS dX8_findsAll_43
    · have hf := ite_f c2 hf
      refine lv_aload_n hx hb dX8_findsAll_12 rfl (lv_at hl 0 rfl) ?_
      refine va_get (D := zD v) (ci := 7) (v := .ref (zA v 12)) (C := RX8) (T := TX8) (N := 55) hx hb hts iX8 hown hk.1 hP 0 rfl rfl 35 (by decide) (hts _ fl_X8_57) (fun _ h9 => h9) rfl dX8_findsAll_13 ?_
      refine lv_iload_n hx hb dX8_findsAll_16 rfl (lv_at hl 1 rfl) ?_
      refine lv_iconst (v := -1) hx hb dX8_findsAll_17 kI_m1 ?_
      obtain ⟨c5, hf⟩ := gd_e hf
      refine va_iast hx hb hk.1 hP (zw_D okM hk _) hS 12 0 rfl rfl (inb_in c5) dX8_findsAll_18 (fun H locs hP1 _ hS => ?_)
      have hP : va_P (zD v) vwCl (pM.1 v (up x.2.1 12 (upd (x.2.1 12) (x.1).toNatClampNeg (-1 : Int32)), x.2.2)) H := hP1
      obtain ⟨g6, eg6, hf⟩ := lt_e hf
      rw [← eg6] at hP
      refine lv_aload_n hx hb dX8_findsAll_19 rfl (lv_at hl 0 rfl) ?_
      refine va_get (D := zD v) (ci := 7) (v := .ref (zA v 13)) (C := RX8) (T := TX8) (N := 55) hx hb hts iX8 hown hk.1 hP 0 rfl rfl 36 (by decide) (hts _ fl_X8_60) (fun _ h9 => h9) rfl dX8_findsAll_20 ?_
      refine lv_iload_n hx hb dX8_findsAll_23 rfl (lv_at hl 1 rfl) ?_
      refine lv_iconst (v := 0) hx hb dX8_findsAll_24 kI_0 ?_
      obtain ⟨c7, hf⟩ := gd_e hf
      refine va_iast hx hb hk.1 hP (zw_D okM hk _) hS 13 0 rfl rfl (inb_in c7) dX8_findsAll_25 (fun H locs hP1 _ hS => ?_)
      have hP : va_P (zD v) vwCl (pM.1 v (up g6.1 13 (upd (g6.1 13) (x.1).toNatClampNeg (0 : Int32)), g6.2)) H := hP1
      obtain ⟨g8, eg8, hf⟩ := lt_e hf
      rw [← eg8] at hP
      obtain ⟨x9, ex9, hf⟩ := lt_e hf
      refine lv_iinc (v := x9) (lv' := [(1, .int x9), (0, .ref (zA v 0))]) hx hb dX8_findsAll_26 hl (k := 1) rfl ((congrArg (fun z => x.1 + z) kI_1).trans ex9.symm) (by decide) rfl (fun ls hl => ?_)
      refine lv_goto (tgt := 6) hx hb dX8_findsAll_29 (by decide) ?_
      exact hh6 (x9, g8) hf _ _ _ hP hS (lv_sub hl [1, 0] rfl)
  unfold x_X8_findsAll at hf
  refine lv_aload_n hx hb dX8_findsAll_0 rfl (lv_at hl 0 rfl) ?_
  obtain ⟨q1, eq1, hf⟩ := bd_e hf
  refine zkv hS (zrV (As := []) (rest := []) okM hx hb hml hown hts hk hP hS (t_X8_gathers l v N g _ eq1) vk_X8_gathers ml_X8_303 rfl rfl ⟨(Nat.le_of_ble_eq_true rfl), (Nat.le_of_ble_eq_true rfl)⟩ (va_recv (q := (RX8, TX8, 55)) hk.1 hP (q0 := 0) (ci := 7) rfl rfl) rfl hl.1 rfl (Nat.le_of_ble_eq_true rfl) dX8_findsAll_1) (fun H locs hP hS => ?_)
  refine lv_iconst (v := 0) hx hb dX8_findsAll_4 kI_0 ?_
  refine lv_istore_n (lv' := [(1, .int (0 : Int32)), (0, .ref (zA v 0))]) hx hb dX8_findsAll_5 rfl hl (by decide) rfl (fun ls hl => ?_)
  exact wL6 N ((0 : Int32), q1) hf _ _ _ hP hS (lv_sub hl [1, 0] rfl)
abbrev rm_X8_goes : Room := { frames := 35, cells := 0, slots := 0, locals := 2347 }
set_option maxRecDepth 100000 in
theorem t_X8_goes (l : Launch) (v : Ev) (N : Nat) (a1 : Int32) (g : SM) (res : Int32 × SM) (hf : x_X8_goes N a1 g = some res) : Ci l yX8_goes cX8_goes 2 .int rm_X8_goes pM v [.ref (zA v 0), .int a1] g res := by
  refine ze_i (by decide +kernel) (Nat.le_of_ble_eq_true rfl) ?_
  intro p e s m args below meth c Q ls hcx hret hP hl
  obtain ⟨hx, hb, hml, hown, hts, hk⟩ := hcx
  have hown : s.vm.findClass RX8 = some m.cls := hown
  have hS : va_S (An nM v) s.heap s.heap [] := va_S.rf
  have hl : lv_has ls 2 [(0, .ref (zA v 0)), (1, .int a1)] := hl
  unfold x_X8_goes at hf
  refine lv_iload_n hx hb dX8_goes_0 rfl (lv_at hl 1 rfl) ?_
  obtain ⟨q1, eq1, hf⟩ := bd_e hf
  refine zki hS (zrS (As := [.int a1]) (rest := []) okM hx hb hml hown hts hk hP hS (t_X8_isFoot l v N a1 g _ eq1) sk_X8_isFoot ml_X8_108 rfl rfl ⟨(Nat.le_of_ble_eq_true rfl), (Nat.le_of_ble_eq_true rfl)⟩ rfl hl.1 rfl (Nat.le_of_ble_eq_true rfl) dX8_goes_1) (fun H locs hP hS => ?_)
  refine lv_if_ne (tgt := 10) hx hb dX8_goes_4 (by decide) (fun c2 => ?_) (fun c2 => ?_)
  · have hf := ite_f c2 hf
    refine lv_aload_n hx hb dX8_goes_10 rfl (lv_at hl 0 rfl) ?_
    obtain ⟨q3, eq3, hf⟩ := bd_e hf
    refine zkv hS (zrV (As := []) (rest := []) okM hx hb hml hown hts hk hP hS (t_X8_findsAll l v N q1.2 _ eq3) vk_X8_findsAll ml_X8_322 rfl rfl ⟨(Nat.le_of_ble_eq_true rfl), (Nat.le_of_ble_eq_true rfl)⟩ (va_recv (q := (RX8, TX8, 55)) hk.1 hP (q0 := 0) (ci := 7) rfl rfl) rfl hl.1 rfl (Nat.le_of_ble_eq_true rfl) dX8_goes_11) (fun H locs hP hS => ?_)
    refine lv_aload_n hx hb dX8_goes_14 rfl (lv_at hl 0 rfl) ?_
    refine va_get (D := zD v) (ci := 7) (v := .ref (zA v 12)) (C := RX8) (T := TX8) (N := 55) hx hb hts iX8 hown hk.1 hP 0 rfl rfl 35 (by decide) (hts _ fl_X8_57) (fun _ h9 => h9) rfl dX8_goes_15 ?_
    refine lv_iload_n hx hb dX8_goes_18 rfl (lv_at hl 1 rfl) ?_
    obtain ⟨c4, hf⟩ := gd_e hf
    refine va_iald hx hb hk.1 hP 12 0 rfl rfl (inb_in c4) dX8_goes_19 ?_
    exact hret _ _ _ _ _ _ (Or.inl rfl) (Option.some.inj hf) hP hS dX8_goes_20
  · have hf := ite_t c2 hf
    refine lv_bipush (v := -2) hx hb dX8_goes_7 kB_m2 ?_
    exact hret _ _ _ _ _ _ (Or.inl rfl) (Option.some.inj hf) hP hS dX8_goes_9
