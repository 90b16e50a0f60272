theorem sk_X8_plain : SOK yX8_plain cX8_plain 1 (some .int) 1 := sok_of (by decide +kernel)
theorem ml_X8_325 : Cond.methodLink RX8 325 yX8_plain ∈ WL := wl (by decide +kernel) rfl
theorem vk_X8_asksFor : VOK yX8_asksFor cX8_asksFor 5 (some .int) 4 := vok_of (by decide +kernel)
theorem ml_X8_328 : Cond.methodLink RX8 328 yX8_asksFor ∈ WL := wl (by decide +kernel) rfl
theorem fl_X8_332 : Cond.fieldLink RX8 332 "HalfASizeModel" "bestRubs" "I" ∈ WL := wl (by decide +kernel) rfl
theorem vk_X8_rubsOf : VOK yX8_rubsOf cX8_rubsOf 3 (some .int) 2 := vok_of (by decide +kernel)
theorem ml_X8_335 : Cond.methodLink RX8 335 yX8_rubsOf ∈ WL := wl (by decide +kernel) rfl
theorem vk_X8_bestFor : VOK yX8_bestFor cX8_bestFor 5 (some .int) 1 := vok_of (by decide +kernel)
theorem ml_X8_339 : Cond.methodLink RX8 339 yX8_bestFor ∈ WL := wl (by decide +kernel) rfl
theorem kc_X8_338 : Cond.constant RX8 338 (-100000) ∈ WL := wl (by decide +kernel) rfl
theorem vk_X8_doesFit : VOK yX8_doesFit cX8_doesFit 5 (some .boolean) 3 := vok_of (by decide +kernel)
theorem ml_X8_342 : Cond.methodLink RX8 342 yX8_doesFit ∈ WL := wl (by decide +kernel) rfl
theorem vk_X8_isServed : VOK yX8_isServed cX8_isServed 3 (some .boolean) 1 := vok_of (by decide +kernel)
theorem ml_X8_345 : Cond.methodLink RX8 345 yX8_isServed ∈ WL := wl (by decide +kernel) rfl
theorem vk_X8_servedBy : VOK yX8_servedBy cX8_servedBy 5 (some .int) 2 := vok_of (by decide +kernel)
theorem ml_X8_351 : Cond.methodLink RX8 351 yX8_servedBy ∈ WL := wl (by decide +kernel) rfl
theorem vk_X8_servedAll : VOK yX8_servedAll cX8_servedAll 3 (some .int) 0 := vok_of (by decide +kernel)
theorem ml_X8_348 : Cond.methodLink RX8 348 yX8_servedAll ∈ WL := wl (by decide +kernel) rfl
theorem fl_X8_63 : Cond.fieldLink RX8 63 "HalfASizeModel" "fitRow" "[Z" ∈ WL := wl (by decide +kernel) rfl
theorem sk_X8_lowest : SOK yX8_lowest cX8_lowest 2 (some .int) 1 := sok_of (by decide +kernel)
theorem ml_X8_354 : Cond.methodLink RX8 354 yX8_lowest ∈ WL := wl (by decide +kernel) rfl
theorem vk_X8_orders : VOK yX8_orders cX8_orders 5 none 3 := vok_of (by decide +kernel)
theorem ml_X8_366 : Cond.methodLink RX8 366 yX8_orders ∈ WL := wl (by decide +kernel) rfl
theorem vk_X8_servedBySizes : VOK yX8_servedBySizes cX8_servedBySizes 6 (some .int) 1 := vok_of (by decide +kernel)
theorem ml_X8_357 : Cond.methodLink RX8 357 yX8_servedBySizes ∈ WL := wl (by decide +kernel) rfl
theorem fl_X8_360 : Cond.fieldLink RX8 360 "HalfASizeModel" "bestServed" "I" ∈ WL := wl (by decide +kernel) rfl
theorem fl_X8_363 : Cond.fieldLink RX8 363 "HalfASizeModel" "bestSet" "I" ∈ WL := wl (by decide +kernel) rfl
theorem kc_X8_404 : Cond.constantLong RX8 404 (-1) ∈ WL := wl (by decide +kernel) rfl
theorem fl_X8_81 : Cond.fieldLink RX8 81 "HalfASizeModel" "sorts" "[I" ∈ WL := wl (by decide +kernel) rfl
theorem kc_X8_372 : Cond.constantLong RX8 372 (20) ∈ WL := wl (by decide +kernel) rfl
theorem vk_X8_stockMany : VOK yX8_stockMany cX8_stockMany 3 (some .int) 0 := vok_of (by decide +kernel)
theorem ml_X8_374 : Cond.methodLink RX8 374 yX8_stockMany ∈ WL := wl (by decide +kernel) rfl
theorem vk_X8_sheet : VOK yX8_sheet cX8_sheet 5 (some .int) 3 := vok_of (by decide +kernel)
theorem ml_X8_377 : Cond.methodLink RX8 377 yX8_sheet ∈ WL := wl (by decide +kernel) rfl
theorem vk_X8_townAll : VOK yX8_townAll cX8_townAll 3 (some .int) 0 := vok_of (by decide +kernel)
theorem ml_X8_381 : Cond.methodLink RX8 381 yX8_townAll ∈ WL := wl (by decide +kernel) rfl
theorem fl_X8_384 : Cond.fieldLink RX8 384 "HalfASizeModel" "drawnAll" "I" ∈ WL := wl (by decide +kernel) rfl
theorem fl_X8_66 : Cond.fieldLink RX8 66 "HalfASizeModel" "townWas" "[I" ∈ WL := wl (by decide +kernel) rfl
theorem kc_X8_380 : Cond.constant RX8 380 (1103515245) ∈ WL := wl (by decide +kernel) rfl
theorem vk_X8_draws : VOK yX8_draws cX8_draws 5 (some .int) 1 := vok_of (by decide +kernel)
theorem ml_X8_387 : Cond.methodLink RX8 387 yX8_draws ∈ WL := wl (by decide +kernel) rfl
theorem kc_X8_390 : Cond.constantLong RX8 390 (-4611686018427387904) ∈ WL := wl (by decide +kernel) rfl
theorem fl_X8_75 : Cond.fieldLink RX8 75 "HalfASizeModel" "manyKept" "I" ∈ WL := wl (by decide +kernel) rfl
theorem fl_X8_392 : Cond.fieldLink RX8 392 "HalfASizeModel" "leftKept" "I" ∈ WL := wl (by decide +kernel) rfl
theorem fl_X8_395 : Cond.fieldLink RX8 395 "HalfASizeModel" "rightKept" "I" ∈ WL := wl (by decide +kernel) rfl
theorem fl_X8_398 : Cond.fieldLink RX8 398 "HalfASizeModel" "hourKept" "I" ∈ WL := wl (by decide +kernel) rfl
theorem fl_X8_401 : Cond.fieldLink RX8 401 "HalfASizeModel" "ruleKept" "I" ∈ WL := wl (by decide +kernel) rfl
theorem fl_X8_72 : Cond.fieldLink RX8 72 "HalfASizeModel" "makesKept" "[I" ∈ WL := wl (by decide +kernel) rfl
theorem fl_X8_69 : Cond.fieldLink RX8 69 "HalfASizeModel" "townKept" "[I" ∈ WL := wl (by decide +kernel) rfl
theorem vk_X8_set : VOK yX8_set cX8_set 5 (some .int) 3 := vok_of (by decide +kernel)
theorem ml_X8_406 : Cond.methodLink RX8 406 yX8_set ∈ WL := wl (by decide +kernel) rfl
theorem sk_X8_over : SOK yX8_over cX8_over 1 (some .int) 1 := sok_of (by decide +kernel)
theorem ml_X8_409 : Cond.methodLink RX8 409 yX8_over ∈ WL := wl (by decide +kernel) rfl
abbrev rm_X8_worst : Room := { frames := 35, cells := 0, slots := 0, locals := 2347 }
set_option maxRecDepth 100000 in
theorem t_X8_worst (l : Launch) (v : Ev) (N : Nat) (a1 : Int32) (g : SM) (res : Int32 × SM) (hf : x_X8_worst N a1 g = some res) : Ci l yX8_worst cX8_worst 5 .int rm_X8_worst pM v [.ref (zA v 0), .int a1] g res := by
  refine ze_i (by decide +kernel) (Nat.le_of_ble_eq_true rfl) ?_
  intro p e s m args below meth c Q ls hcx hret hP hl
  obtain ⟨hx, hb, hml, hown, hts, hk⟩ := hcx
  have hown : s.vm.findClass RX8 = some m.cls := hown
  have hS : va_S (An nM v) s.heap s.heap [] := va_S.rf
  have hl : lv_has ls 5 [(0, .ref (zA v 0)), (1, .int a1)] := hl
  have wb71 : ∀ (h24 : Int32 × Int32 × Int32 × Int32 × SM → Option (Int32 × SM)) (hh24 : ∀ x : Int32 × Int32 × Int32 × Int32 × SM, h24 x = some res → ∀ (H : Heap) (locs : List Loc) (ls : Array Slot), va_P (zD v) vwCl (pM.1 v x.2.2.2.2) H → va_S (An nM v) s.heap H locs → lv_has ls 5 [(0, .ref (zA v 0)), (1, .int x.1), (2, .int x.2.1), (3, .int x.2.2.1), (4, .int x.2.2.2.1)] → W p l e rm_X8_worst s m args below meth c H locs 0 0 Q (F0 m 24 ls [])) (y1 : Int32) (y2 : Int32) (y4 : Int32) (t0 : Int32) (t1 : Int32) (g : SM) (hf : x_X8_worst_b71 N h24 y1 y2 y4 t0 t1 g = some res) (H : Heap) (locs : List Loc) (ls : Array Slot) (hP : va_P (zD v) vwCl (pM.1 v g) H) (hS : va_S (An nM v) s.heap H locs) (hl : lv_has ls 5 [(0, .ref (zA v 0)), (1, .int y1), (2, .int y2), (4, .int y4)]), W p l e rm_X8_worst s m args below meth c H locs 0 0 Q (F0 m 71 ls [.int t0, .int t1]) := by
    intro h24 hh24 y1 y2 y4 t0 t1 g hf H locs ls hP hS hl
    unfold x_X8_worst_b71 at hf
    refine lv_iadd hx hb dX8_worst_71 ?_
    obtain ⟨x10, ex10, hf⟩ := lt_e hf
    refine lv_nm ex10 ?_
    refine lv_istore_n (lv' := [(3, .int x10), (0, .ref (zA v 0)), (1, .int y1), (2, .int y2), (4, .int y4)]) hx hb dX8_worst_72 rfl hl (by decide) rfl (fun ls hl => ?_)
    obtain ⟨x11, ex11, hf⟩ := lt_e hf
    refine lv_iinc (v := x11) (lv' := [(4, .int x11), (3, .int x10), (0, .ref (zA v 0)), (1, .int y1), (2, .int y2)]) hx hb dX8_worst_73 hl (k := 4) rfl ((congrArg (fun z => y4 + z) kI_1).trans ex11.symm) (by decide) rfl (fun ls hl => ?_)
    refine lv_goto (tgt := 24) hx hb dX8_worst_76 (by decide) ?_
    exact hh24 (y1, y2, x10, x11, g) hf _ _ _ hP hS (lv_sub hl [2, 3, 4, 1, 0] rfl)
  have wb53 : ∀ (h24 : Int32 × Int32 × Int32 × Int32 × SM → Option (Int32 × SM)) (hh24 : ∀ x : Int32 × Int32 × Int32 × Int32 × SM, h24 x = some res → ∀ (H : Heap) (locs : List Loc) (ls : Array Slot), va_P (zD v) vwCl (pM.1 v x.2.2.2.2) H → va_S (An nM v) s.heap H locs → lv_has ls 5 [(0, .ref (zA v 0)), (1, .int x.1), (2, .int x.2.1), (3, .int x.2.2.1), (4, .int x.2.2.2.1)] → W p l e rm_X8_worst s m args below meth c H locs 0 0 Q (F0 m 24 ls [])) (y1 : Int32) (y3 : Int32) (y4 : Int32) (t0 : Int32) (g : SM) (hf : x_X8_worst_b53 N h24 y1 y3 y4 t0 g = some res) (H : Heap) (locs : List Loc) (ls : Array Slot) (hP : va_P (zD v) vwCl (pM.1 v g) H) (hS : va_S (An nM v) s.heap H locs) (hl : lv_has ls 5 [(0, .ref (zA v 0)), (1, .int y1), (3, .int y3), (4, .int y4)]), W p l e rm_X8_worst s m args below meth c H locs 0 0 Q (F0 m 53 ls [.int t0]) := by
    intro h24 hh24 y1 y3 y4 t0 g hf H locs ls hP hS hl
    unfold x_X8_worst_b53 at hf
    refine lv_istore_n (lv' := [(2, .int t0), (0, .ref (zA v 0)), (1, .int y1), (3, .int y3), (4, .int y4)]) hx hb dX8_worst_53 rfl hl (by decide) rfl (fun ls hl => ?_)
    refine lv_iload_n hx hb dX8_worst_54 rfl (lv_at hl 3 rfl) ?_
    refine lv_aload_n hx hb dX8_worst_55 rfl (lv_at hl 1 rfl) ?_
    refine va_get (D := zD v) (ci := 7) (v := .ref (zA v 12)) (C := RX8) (T := TX8) (N := 55) hx hb hts iX8 hown hk.1 hP 0 rfl rfl 35 (by decide) (hts _ fl_X8_57) (fun _ h9 => h9) rfl dX8_worst_56 ?_
    refine lv_iload hx hb dX8_worst_59 (lv_at hl 4 rfl) ?_
    obtain ⟨c8, hf⟩ := gd_e hf
    refine va_iald hx hb hk.1 hP 12 0 rfl rfl (inb_in c8) dX8_worst_61 ?_
    refine lv_iconst (v := -1) hx hb dX8_worst_62 kI_m1 ?_
    refine lv_icmp_ne (tgt := 70) hx hb dX8_worst_63 (by decide) (fun c9 => ?_) (fun c9 => ?_)
    · have hf := ite_f c9 hf
      refine lv_iconst (v := 0) hx hb dX8_worst_70 kI_0 ?_
      exact wb71 h24 hh24 y1 t0 y4 (0 : Int32) y3 g hf _ _ _ hP hS (lv_sub hl [1, 2, 0, 4] rfl)
    · have hf := ite_t c9 hf
      refine lv_iconst (v := 1) hx hb dX8_worst_66 kI_1 ?_
      refine lv_goto (tgt := 71) hx hb dX8_worst_67 (by decide) ?_
      exact wb71 h24 hh24 y1 t0 y4 (1 : Int32) y3 g hf _ _ _ hP hS (lv_sub hl [1, 2, 0, 4] rfl)
  have wL24 : ∀ (n : Nat) (x : Int32 × Int32 × Int32 × Int32 × SM), lp (x_X8_worst_B24 N) n x = some res → ∀ (H : Heap) (locs : List Loc) (ls : Array Slot), va_P (zD v) vwCl (pM.1 v x.2.2.2.2) H → va_S (An nM v) s.heap H locs → lv_has ls 5 [(0, .ref (zA v 0)), (1, .int x.1), (2, .int x.2.1), (3, .int x.2.2.1), (4, .int x.2.2.2.1)] → W p l e rm_X8_worst s m args below meth c H locs 0 0 Q (F0 m 24 ls []) := by
    refine lp_w (P := fun x : Int32 × Int32 × Int32 × Int32 × SM => ∀ (H : Heap) (locs : List Loc) (ls : Array Slot), va_P (zD v) vwCl (pM.1 v x.2.2.2.2) H → va_S (An nM v) s.heap H locs → lv_has ls 5 [(0, .ref (zA v 0)), (1, .int x.1), (2, .int x.2.1), (3, .int x.2.2.1), (4, .int x.2.2.2.1)] → W p l e rm_X8_worst s m args below meth c H locs 0 0 Q (F0 m 24 ls [])) ?_
    intro h24 hh24 x hf H locs ls hP hS hl
    unfold x_X8_worst_B24 at hf
    refine lv_iload hx hb dX8_worst_24 (lv_at hl 4 rfl) ?_
    refine lv_bipush (v := 100) hx hb dX8_worst_26 kB_100 ?_
    refine lv_icmp_ge (tgt := 79) hx hb dX8_worst_28 (by decide) (fun c4 => ?_) (fun c4 => ?_)
    · have hf := ite_t c4 hf
      refine lv_iload_n hx hb dX8_worst_79 rfl (lv_at hl 1 rfl) ?_
      refine lv_if_ne (tgt := 87) hx hb dX8_worst_80 (by decide) (fun c5 => ?_) (fun c5 => ?_)
      · have hf := ite_f c5 hf
        refine lv_iload_n hx hb dX8_worst_87 rfl (lv_at hl 3 rfl) ?_
        exact hret _ _ _ _ _ _ (Or.inl rfl) (Option.some.inj hf) hP hS dX8_worst_88
      · have hf := ite_t c5 hf
        refine lv_iload_n hx hb dX8_worst_83 rfl (lv_at hl 2 rfl) ?_
        refine lv_goto (tgt := 88) hx hb dX8_worst_84 (by decide) ?_
        exact hret _ _ _ _ _ _ (Or.inl rfl) (Option.some.inj hf) hP hS dX8_worst_88
    · have hf := ite_f c4 hf
      refine lv_aload_n hx hb dX8_worst_31 rfl (lv_at hl 0 rfl) ?_
      refine va_get (D := zD v) (ci := 7) (v := .ref (zA v 12)) (C := RX8) (T := TX8) (N := 55) hx hb hts iX8 hown hk.1 hP 0 rfl rfl 35 (by decide) (hts _ fl_X8_57) (fun _ h9 => h9) rfl dX8_worst_32 ?_
      refine lv_iload hx hb dX8_worst_35 (lv_at hl 4 rfl) ?_
      obtain ⟨c6, hf⟩ := gd_e hf
      refine va_iald hx hb hk.1 hP 12 0 rfl rfl (inb_in c6) dX8_worst_37 ?_
      refine lv_iload_n hx hb dX8_worst_38 rfl (lv_at hl 2 rfl) ?_
      refine lv_icmp_le (tgt := 52) hx hb dX8_worst_39 (by decide) (fun c7 => ?_) (fun c7 => ?_)
      · have hf := ite_t c7 hf
        refine lv_iload_n hx hb dX8_worst_52 rfl (lv_at hl 2 rfl) ?_
        exact wb53 h24 hh24 x.1 x.2.2.1 x.2.2.2.1 x.2.1 x.2.2.2.2 hf _ _ _ hP hS (lv_sub hl [0, 1, 3, 4] rfl)
      · have hf := ite_f c7 hf
        refine lv_aload_n hx hb dX8_worst_42 rfl (lv_at hl 0 rfl) ?_
        refine va_get (D := zD v) (ci := 7) (v := .ref (zA v 12)) (C := RX8) (T := TX8) (N := 55) hx hb hts iX8 hown hk.1 hP 0 rfl rfl 35 (by decide) (hts _ fl_X8_57) (fun _ h9 => h9) rfl dX8_worst_43 ?_
        refine lv_iload hx hb dX8_worst_46 (lv_at hl 4 rfl) ?_
        obtain ⟨c12, hf⟩ := gd_e hf
        refine va_iald hx hb hk.1 hP 12 0 rfl rfl (inb_in c12) dX8_worst_48 ?_
        refine lv_goto (tgt := 53) hx hb dX8_worst_49 (by decide) ?_
        exact wb53 h24 hh24 x.1 x.2.2.1 x.2.2.2.1 (x.2.2.2.2.1 12 (x.2.2.2.1).toNatClampNeg) x.2.2.2.2 hf _ _ _ hP hS (lv_sub hl [0, 1, 3, 4] rfl)
  unfold x_X8_worst at hf
  refine lv_iload_n hx hb dX8_worst_0 rfl (lv_at hl 1 rfl) ?_
  refine lv_i2l hx hb dX8_worst_1 rfl ?_
  refine lv_lconst (v := 0) hx hb dX8_worst_2 kL_0 ?_
  refine lv_lconst (v := 1) hx hb dX8_worst_3 kL_1 ?_
  obtain ⟨q1, eq1, hf⟩ := bd_e hf
  refine zki hS (zrS (As := [.long ((a1).toInt64), .long (0 : Int64), .long (1 : Int64)]) (rest := []) okM hx hb hml hown hts hk hP hS (t_X8_in l v N ((a1).toInt64) (0 : Int64) (1 : Int64) g _ eq1) sk_X8_in ml_X8_100 rfl rfl ⟨(Nat.le_of_ble_eq_true rfl), (Nat.le_of_ble_eq_true rfl)⟩ rfl hl.1 rfl (Nat.le_of_ble_eq_true rfl) dX8_worst_4) (fun H locs hP hS => ?_)
  refine lv_if_ne (tgt := 13) hx hb dX8_worst_7 (by decide) (fun c2 => ?_) (fun c2 => ?_)
  · have hf := ite_f c2 hf
    refine lv_aload_n hx hb dX8_worst_13 rfl (lv_at hl 0 rfl) ?_
    obtain ⟨q3, eq3, hf⟩ := bd_e hf
    refine zkv hS (zrV (As := []) (rest := []) okM hx hb hml hown hts hk hP hS (t_X8_findsAll l v N q1.2 _ eq3) vk_X8_findsAll ml_X8_322 rfl rfl ⟨(Nat.le_of_ble_eq_true rfl), (Nat.le_of_ble_eq_true rfl)⟩ (va_recv (q := (RX8, TX8, 55)) hk.1 hP (q0 := 0) (ci := 7) rfl rfl) rfl hl.1 rfl (Nat.le_of_ble_eq_true rfl) dX8_worst_14) (fun H locs hP hS => ?_)
    refine lv_iconst (v := -1) hx hb dX8_worst_17 kI_m1 ?_
    refine lv_istore_n (lv' := [(2, .int (-1 : Int32)), (0, .ref (zA v 0)), (1, .int a1)]) hx hb dX8_worst_18 rfl hl (by decide) rfl (fun ls hl => ?_)
    refine lv_iconst (v := 0) hx hb dX8_worst_19 kI_0 ?_
    refine lv_istore_n (lv' := [(3, .int (0 : Int32)), (2, .int (-1 : Int32)), (0, .ref (zA v 0)), (1, .int a1)]) hx hb dX8_worst_20 rfl hl (by decide) rfl (fun ls hl => ?_)
    refine lv_iconst (v := 0) hx hb dX8_worst_21 kI_0 ?_
    refine lv_istore (lv' := [(4, .int (0 : Int32)), (3, .int (0 : Int32)), (2, .int (-1 : Int32)), (0, .ref (zA v 0)), (1, .int a1)]) hx hb dX8_worst_22 hl (by decide) rfl (fun ls hl => ?_)
    exact wL24 N (a1, (-1 : Int32), (0 : Int32), (0 : Int32), q3) hf _ _ _ hP hS (lv_sub hl [3, 4, 2, 1, 0] rfl)
  · have hf := ite_t c2 hf
    refine lv_bipush (v := -2) hx hb dX8_worst_10 kB_m2 ?_
    exact hret _ _ _ _ _ _ (Or.inl rfl) (Option.some.inj hf) hP hS dX8_worst_12
abbrev rm_X8_rubsOf : Room := { frames := 72, cells := 0, slots := 0, locals := 4493 }
set_option maxRecDepth 100000 in
theorem t_X8_rubsOf (l : Launch) (v : Ev) (N : Nat) (a1 : Int32) (a2 : Int32) (g : SM) (res : Int32 × SM) (hf : x_X8_rubsOf N a1 a2 g = some res) : Ci l yX8_rubsOf cX8_rubsOf 3 .int rm_X8_rubsOf pM v [.ref (zA v 0), .int a1, .int a2] g res := by
  refine ze_i (by decide +kernel) (Nat.le_of_ble_eq_true rfl) ?_
  intro p e s m args below meth c Q ls hcx hret hP hl
  obtain ⟨hx, hb, hml, hown, hts, hk⟩ := hcx
  have hown : s.vm.findClass RX8 = some m.cls := hown
  have hS : va_S (An nM v) s.heap s.heap [] := va_S.rf
  have hl : lv_has ls 3 [(0, .ref (zA v 0)), (1, .int a1), (2, .int a2)] := hl
  unfold x_X8_rubsOf at hf
  refine lv_aload_n hx hb dX8_rubsOf_0 rfl (lv_at hl 0 rfl) ?_
  refine lv_iconst (v := 1) hx hb dX8_rubsOf_1 kI_1 ?_
  refine lv_iload_n hx hb dX8_rubsOf_2 rfl (lv_at hl 1 rfl) ?_
  refine lv_aload_n hx hb dX8_rubsOf_3 rfl (lv_at hl 0 rfl) ?_
  refine lv_iload_n hx hb dX8_rubsOf_4 rfl (lv_at hl 1 rfl) ?_
  obtain ⟨q1, eq1, hf⟩ := bd_e hf
  refine zki hS (zrV (As := [.int a1]) (rest := [.int a1, .int (1 : Int32), .ref (zA v 0)]) okM hx hb hml hown hts hk hP hS (t_X8_longOf l v N a1 g _ eq1) vk_X8_longOf ml_X8_139 rfl rfl ⟨(Nat.le_of_ble_eq_true rfl), (Nat.le_of_ble_eq_true rfl)⟩ (va_recv (q := (RX8, TX8, 55)) hk.1 hP (q0 := 0) (ci := 7) rfl rfl) rfl hl.1 rfl (Nat.le_of_ble_eq_true rfl) dX8_rubsOf_5) (fun H locs hP hS => ?_)
  refine lv_aload_n hx hb dX8_rubsOf_8 rfl (lv_at hl 0 rfl) ?_
  refine lv_iload_n hx hb dX8_rubsOf_9 rfl (lv_at hl 2 rfl) ?_
  obtain ⟨q2, eq2, hf⟩ := bd_e hf
  refine zki hS (zrV (As := [.int a2]) (rest := [.int q1.1, .int a1, .int (1 : Int32), .ref (zA v 0)]) okM hx hb hml hown hts hk hP hS (t_X8_footNow l v N a2 q1.2 _ eq2) vk_X8_footNow ml_X8_135 rfl rfl ⟨(Nat.le_of_ble_eq_true rfl), (Nat.le_of_ble_eq_true rfl)⟩ (va_recv (q := (RX8, TX8, 55)) hk.1 hP (q0 := 0) (ci := 7) rfl rfl) rfl hl.1 rfl (Nat.le_of_ble_eq_true rfl) dX8_rubsOf_10) (fun H locs hP hS => ?_)
  refine lv_isub hx hb dX8_rubsOf_13 ?_
  obtain ⟨q3, eq3, hf⟩ := bd_e hf
  refine zki hS (zrS (As := [.int (q1.1 - q2.1)]) (rest := [.int a1, .int (1 : Int32), .ref (zA v 0)]) okM hx hb hml hown hts hk hP hS (t_X8_plain l v N (q1.1 - q2.1) q2.2 _ eq3) sk_X8_plain ml_X8_325 rfl rfl ⟨(Nat.le_of_ble_eq_true rfl), (Nat.le_of_ble_eq_true rfl)⟩ rfl hl.1 rfl (Nat.le_of_ble_eq_true rfl) dX8_rubsOf_14) (fun H locs hP hS => ?_)
  refine lv_iload_n hx hb dX8_rubsOf_17 rfl (lv_at hl 2 rfl) ?_
  obtain ⟨q4, eq4, hf⟩ := bd_e hf
  refine zki hS (zrV (As := [.int (1 : Int32), .int a1, .int q3.1, .int a2]) (rest := []) okM hx hb hml hown hts hk hP hS (t_X8_asksFor l v N (1 : Int32) a1 q3.1 a2 q3.2 _ eq4) vk_X8_asksFor ml_X8_328 rfl rfl ⟨(Nat.le_of_ble_eq_true rfl), (Nat.le_of_ble_eq_true rfl)⟩ (va_recv (q := (RX8, TX8, 55)) hk.1 hP (q0 := 0) (ci := 7) rfl rfl) rfl hl.1 rfl (Nat.le_of_ble_eq_true rfl) dX8_rubsOf_18) (fun H locs hP hS => ?_)
  exact hret _ _ _ _ _ _ (Or.inl rfl) (Option.some.inj hf) hP hS dX8_rubsOf_21
abbrev rm_X8_bestFor : Room := { frames := 73, cells := 0, slots := 0, locals := 4515 }
set_option maxRecDepth 100000 in
theorem t_X8_bestFor (l : Launch) (v : Ev) (N : Nat) (a1 : Int32) (g : SM) (res : Int32 × SM) (hf : x_X8_bestFor N a1 g = some res) : Ci l yX8_bestFor cX8_bestFor 5 .int rm_X8_bestFor pM v [.ref (zA v 0), .int a1] g res := by
  refine ze_i (by decide +kernel) (Nat.le_of_ble_eq_true rfl) ?_
  intro p e s m args below meth c Q ls hcx hret hP hl
  obtain ⟨hx, hb, hml, hown, hts, hk⟩ := hcx
  have hown : s.vm.findClass RX8 = some m.cls := hown
  have hS : va_S (An nM v) s.heap s.heap [] := va_S.rf
  have hl : lv_has ls 5 [(0, .ref (zA v 0)), (1, .int a1)] := hl
  have wb82 : ∀ (h9 : Int32 × Int32 × Int32 × SM → Option (Int32 × SM)) (hh9 : ∀ x : Int32 × Int32 × Int32 × SM, h9 x = some res → ∀ (H : Heap) (locs : List Loc) (ls : Array Slot), va_P (zD v) vwCl (pM.1 v x.2.2.2) H → va_S (An nM v) s.heap H locs → lv_has ls 5 [(0, .ref (zA v 0)), (1, .int x.1), (2, .int x.2.1), (3, .int x.2.2.1)] → W p l e rm_X8_bestFor s m args below meth c H locs 0 0 Q (F0 m 9 ls [])) (y1 : Int32) (y2 : Int32) (y3 : Int32) (g : SM) (hf : x_X8_bestFor_b82 N h9 y1 y2 y3 g = some res) (H : Heap) (locs : List Loc) (ls : Array Slot) (hP : va_P (zD v) vwCl (pM.1 v g) H) (hS : va_S (An nM v) s.heap H locs) (hl : lv_has ls 5 [(0, .ref (zA v 0)), (1, .int y1), (2, .int y2), (3, .int y3)]), W p l e rm_X8_bestFor s m args below meth c H locs 0 0 Q (F0 m 82 ls []) := by
    intro h9 hh9 y1 y2 y3 g hf H locs ls hP hS hl
    unfold x_X8_bestFor_b82 at hf
    obtain ⟨x5, ex5, hf⟩ := lt_e hf
    refine lv_iinc (v := x5) (lv' := [(3, .int x5), (0, .ref (zA v 0)), (1, .int y1), (2, .int y2)]) hx hb dX8_bestFor_82 hl (k := 3) rfl ((congrArg (fun z => y3 + z) kI_1).trans ex5.symm) (by decide) rfl (fun ls hl => ?_)
    refine lv_goto (tgt := 9) hx hb dX8_bestFor_85 (by decide) ?_
    exact hh9 (y1, y2, x5, g) hf _ _ _ hP hS (lv_sub hl [1, 2, 3, 0] rfl)
  have wb74 : ∀ (h9 : Int32 × Int32 × Int32 × SM → Option (Int32 × SM)) (hh9 : ∀ x : Int32 × Int32 × Int32 × SM, h9 x = some res → ∀ (H : Heap) (locs : List Loc) (ls : Array Slot), va_P (zD v) vwCl (pM.1 v x.2.2.2) H → va_S (An nM v) s.heap H locs → lv_has ls 5 [(0, .ref (zA v 0)), (1, .int x.1), (2, .int x.2.1), (3, .int x.2.2.1)] → W p l e rm_X8_bestFor s m args below meth c H locs 0 0 Q (F0 m 9 ls [])) (y1 : Int32) (y3 : Int32) (y4 : Int32) (g : SM) (hf : x_X8_bestFor_b74 N h9 y1 y3 y4 g = some res) (H : Heap) (locs : List Loc) (ls : Array Slot) (hP : va_P (zD v) vwCl (pM.1 v g) H) (hS : va_S (An nM v) s.heap H locs) (hl : lv_has ls 5 [(0, .ref (zA v 0)), (1, .int y1), (3, .int y3), (4, .int y4)]), W p l e rm_X8_bestFor s m args below meth c H locs 0 0 Q (F0 m 74 ls []) := by
    intro h9 hh9 y1 y3 y4 g hf H locs ls hP hS hl
    unfold x_X8_bestFor_b74 at hf
    refine lv_iload_n hx hb dX8_bestFor_74 rfl (lv_at hl 2 rfl) ?_
    refine lv_istore_n (lv' := [(2, .int y3), (0, .ref (zA v 0)), (1, .int y1), (3, .int y3), (4, .int y4)]) hx hb dX8_bestFor_75 rfl hl (by decide) rfl (fun ls hl => ?_)
    refine lv_aload_n hx hb dX8_bestFor_76 rfl (lv_at hl 1 rfl) ?_
    refine lv_iload hx hb dX8_bestFor_77 (lv_at hl 4 rfl) ?_
    refine va_put (D := zD v) (ci := 7) (v := .int y4) (ty := .int) (C := RX8) (T := TX8) (N := 55) hx hb hts iX8 tyX8 tyX8_ok nmX8 hown hk.1 hP (zw_D okM hk _) hS 0 rfl rfl 38 (by decide) (hts _ fl_X8_332) (fun _ h9 => h9) rfl pd_I rfl rfl (Nat.le_of_ble_eq_true rfl) dX8_bestFor_79 (fun H locs hP1 _ hS => ?_)
    have hP : va_P (zD v) vwCl (pM.1 v (up g.1 0 (upd (g.1 0) 38 y4), g.2)) H := hP1
    obtain ⟨g12, eg12, hf⟩ := lt_e hf
    rw [← eg12] at hP
    exact wb82 h9 hh9 y1 y3 y3 g12 hf _ _ _ hP hS (lv_sub hl [1, 2, 0, 3] rfl)
  have wb57 : ∀ (h9 : Int32 × Int32 × Int32 × SM → Option (Int32 × SM)) (hh9 : ∀ x : Int32 × Int32 × Int32 × SM, h9 x = some res → ∀ (H : Heap) (locs : List Loc) (ls : Array Slot), va_P (zD v) vwCl (pM.1 v x.2.2.2) H → va_S (An nM v) s.heap H locs → lv_has ls 5 [(0, .ref (zA v 0)), (1, .int x.1), (2, .int x.2.1), (3, .int x.2.2.1)] → W p l e rm_X8_bestFor s m args below meth c H locs 0 0 Q (F0 m 9 ls [])) (y1 : Int32) (y2 : Int32) (y3 : Int32) (t0 : Int32) (t1 : Int32) (g : SM) (hf : x_X8_bestFor_b57 N h9 y1 y2 y3 t0 t1 g = some res) (H : Heap) (locs : List Loc) (ls : Array Slot) (hP : va_P (zD v) vwCl (pM.1 v g) H) (hS : va_S (An nM v) s.heap H locs) (hl : lv_has ls 5 [(0, .ref (zA v 0)), (1, .int y1), (2, .int y2), (3, .int y3)]), W p l e rm_X8_bestFor s m args below meth c H locs 0 0 Q (F0 m 57 ls [.int t0, .int t1]) := by
    intro h9 hh9 y1 y2 y3 t0 t1 g hf H locs ls hP hS hl
    unfold x_X8_bestFor_b57 at hf
    refine lv_iadd hx hb dX8_bestFor_57 ?_
    obtain ⟨x10, ex10, hf⟩ := lt_e hf
    refine lv_nm ex10 ?_
    refine lv_istore (lv' := [(4, .int x10), (0, .ref (zA v 0)), (1, .int y1), (2, .int y2), (3, .int y3)]) hx hb dX8_bestFor_58 hl (by decide) rfl (fun ls hl => ?_)
    refine lv_iload_n hx hb dX8_bestFor_60 rfl (lv_at hl 3 rfl) ?_
    refine lv_iconst (v := -1) hx hb dX8_bestFor_61 kI_m1 ?_
    refine lv_icmp_eq (tgt := 74) hx hb dX8_bestFor_62 (by decide) (fun c11 => ?_) (fun c11 => ?_)
    · have hf := ite_t c11 hf
      exact wb74 h9 hh9 y1 y3 x10 g hf _ _ _ hP hS (lv_sub hl [1, 2, 4, 0] rfl)
    · have hf := ite_f c11 hf
      refine lv_iload hx hb dX8_bestFor_65 (lv_at hl 0 rfl) ?_
      refine lv_aload_n hx hb dX8_bestFor_67 rfl (lv_at hl 1 rfl) ?_
      refine va_get (D := zD v) (ci := 7) (v := .int (g.1 0 38)) (C := RX8) (T := TX8) (N := 55) hx hb hts iX8 hown hk.1 hP 0 rfl rfl 38 (by decide) (hts _ fl_X8_332) (fun _ h9 => h9) rfl dX8_bestFor_68 ?_
      refine lv_icmp_ge (tgt := 82) hx hb dX8_bestFor_71 (by decide) (fun c13 => ?_) (fun c13 => ?_)
      · have hf := ite_t c13 hf
        exact wb82 h9 hh9 y1 y2 y3 g hf _ _ _ hP hS (lv_sub hl [1, 2, 3, 4] rfl)
      · have hf := ite_f c13 hf
        exact wb74 h9 hh9 y1 y3 x10 g hf _ _ _ hP hS (lv_sub hl [1, 2, 4, 0] rfl)
  have wb43 : ∀ (h9 : Int32 × Int32 × Int32 × SM → Option (Int32 × SM)) (hh9 : ∀ x : Int32 × Int32 × Int32 × SM, h9 x = some res → ∀ (H : Heap) (locs : List Loc) (ls : Array Slot), va_P (zD v) vwCl (pM.1 v x.2.2.2) H → va_S (An nM v) s.heap H locs → lv_has ls 5 [(0, .ref (zA v 0)), (1, .int x.1), (2, .int x.2.1), (3, .int x.2.2.1)] → W p l e rm_X8_bestFor s m args below meth c H locs 0 0 Q (F0 m 9 ls [])) (y1 : Int32) (y2 : Int32) (y3 : Int32) (t0 : Int32) (g : SM) (hf : x_X8_bestFor_b43 N h9 y1 y2 y3 t0 g = some res) (H : Heap) (locs : List Loc) (ls : Array Slot) (hP : va_P (zD v) vwCl (pM.1 v g) H) (hS : va_S (An nM v) s.heap H locs) (hl : lv_has ls 5 [(0, .ref (zA v 0)), (1, .int y1), (2, .int y2), (3, .int y3)]), W p l e rm_X8_bestFor s m args below meth c H locs 0 0 Q (F0 m 43 ls [.int t0]) := by
    intro h9 hh9 y1 y2 y3 t0 g hf H locs ls hP hS hl
    unfold x_X8_bestFor_b43 at hf
    refine lv_iload_n hx hb dX8_bestFor_43 rfl (lv_at hl 1 rfl) ?_
    refine lv_if_ne (tgt := 51) hx hb dX8_bestFor_44 (by decide) (fun c8 => ?_) (fun c8 => ?_)
    · have hf := ite_f c8 hf
      refine lv_aload_n hx hb dX8_bestFor_51 rfl (lv_at hl 0 rfl) ?_
      refine lv_iload_n hx hb dX8_bestFor_52 rfl (lv_at hl 3 rfl) ?_
      refine lv_iconst (v := 1) hx hb dX8_bestFor_53 kI_1 ?_
      obtain ⟨q9, eq9, hf⟩ := bd_e hf
      refine zki hS (zrV (As := [.int y3, .int (1 : Int32)]) (rest := [.int t0]) okM hx hb hml hown hts hk hP hS (t_X8_rubsOf l v N y3 (1 : Int32) g _ eq9) vk_X8_rubsOf ml_X8_335 rfl rfl ⟨(Nat.le_of_ble_eq_true rfl), (Nat.le_of_ble_eq_true rfl)⟩ (va_recv (q := (RX8, TX8, 55)) hk.1 hP (q0 := 0) (ci := 7) rfl rfl) rfl hl.1 rfl (Nat.le_of_ble_eq_true rfl) dX8_bestFor_54) (fun H locs hP hS => ?_)
      exact wb57 h9 hh9 y1 y2 y3 q9.1 t0 q9.2 hf _ _ _ hP hS (lv_sub hl [0, 1, 2, 3] rfl)
    · have hf := ite_t c8 hf
      refine lv_iconst (v := 0) hx hb dX8_bestFor_47 kI_0 ?_
      refine lv_goto (tgt := 57) hx hb dX8_bestFor_48 (by decide) ?_
      exact wb57 h9 hh9 y1 y2 y3 (0 : Int32) t0 g hf _ _ _ hP hS (lv_sub hl [0, 1, 2, 3] rfl)
  have wL9 : ∀ (n : Nat) (x : Int32 × Int32 × Int32 × SM), lp (x_X8_bestFor_B9 N) n x = some res → ∀ (H : Heap) (locs : List Loc) (ls : Array Slot), va_P (zD v) vwCl (pM.1 v x.2.2.2) H → va_S (An nM v) s.heap H locs → lv_has ls 5 [(0, .ref (zA v 0)), (1, .int x.1), (2, .int x.2.1), (3, .int x.2.2.1)] → W p l e rm_X8_bestFor s m args below meth c H locs 0 0 Q (F0 m 9 ls []) := by
    refine lp_w (P := fun x : Int32 × Int32 × Int32 × SM => ∀ (H : Heap) (locs : List Loc) (ls : Array Slot), va_P (zD v) vwCl (pM.1 v x.2.2.2) H → va_S (An nM v) s.heap H locs → lv_has ls 5 [(0, .ref (zA v 0)), (1, .int x.1), (2, .int x.2.1), (3, .int x.2.2.1)] → W p l e rm_X8_bestFor s m args below meth c H locs 0 0 Q (F0 m 9 ls [])) ?_
    intro h9 hh9 x hf H locs ls hP hS hl
    unfold x_X8_bestFor_B9 at hf
    refine lv_iload_n hx hb dX8_bestFor_9 rfl (lv_at hl 3 rfl) ?_
    refine lv_bipush (v := 20) hx hb dX8_bestFor_10 kB_20 ?_
    refine lv_aload_n hx hb dX8_bestFor_12 rfl (lv_at hl 0 rfl) ?_
    refine va_get (D := zD v) (ci := 7) (v := .int (x.2.2.2.1 0 15)) (C := RX8) (T := TX8) (N := 55) hx hb hts iX8 hown hk.1 hP 0 rfl rfl 15 (by decide) (hts _ fl_X8_97) (fun _ h9 => h9) rfl dX8_bestFor_13 ?_
    refine lv_imul hx hb dX8_bestFor_16 ?_
    refine lv_icmp_ge (tgt := 88) hx hb dX8_bestFor_17 (by decide) (fun c2 => ?_) (fun c2 => ?_)
    · have hf := ite_t c2 hf
      refine lv_iload_n hx hb dX8_bestFor_88 rfl (lv_at hl 2 rfl) ?_
      exact hret _ _ _ _ _ _ (Or.inl rfl) (Option.some.inj hf) hP hS dX8_bestFor_89
    · have hf := ite_f c2 hf
      refine lv_aload_n hx hb dX8_bestFor_20 rfl (lv_at hl 0 rfl) ?_
      refine lv_iload_n hx hb dX8_bestFor_21 rfl (lv_at hl 3 rfl) ?_
      obtain ⟨q3, eq3, hf⟩ := bd_e hf
      refine zki hS (zrV (As := [.int x.2.2.1]) (rest := []) okM hx hb hml hown hts hk hP hS (t_X8_isStock l v N x.2.2.1 x.2.2.2 _ eq3) vk_X8_isStock ml_X8_277 rfl rfl ⟨(Nat.le_of_ble_eq_true rfl), (Nat.le_of_ble_eq_true rfl)⟩ (va_recv (q := (RX8, TX8, 55)) hk.1 hP (q0 := 0) (ci := 7) rfl rfl) rfl hl.1 rfl (Nat.le_of_ble_eq_true rfl) dX8_bestFor_22) (fun H locs hP hS => ?_)
      refine lv_if_eq (tgt := 82) hx hb dX8_bestFor_25 (by decide) (fun c4 => ?_) (fun c4 => ?_)
      · have hf := ite_t c4 hf
        exact wb82 h9 hh9 x.1 x.2.1 x.2.2.1 q3.2 hf _ _ _ hP hS (lv_sub hl [0, 1, 2, 3] rfl)
      · have hf := ite_f c4 hf
        refine lv_iload_n hx hb dX8_bestFor_28 rfl (lv_at hl 1 rfl) ?_
        refine lv_iconst (v := 1) hx hb dX8_bestFor_29 kI_1 ?_
        refine lv_icmp_ne (tgt := 37) hx hb dX8_bestFor_30 (by decide) (fun c6 => ?_) (fun c6 => ?_)
        · have hf := ite_f c6 hf
          refine lv_aload_n hx hb dX8_bestFor_37 rfl (lv_at hl 0 rfl) ?_
          refine lv_iload_n hx hb dX8_bestFor_38 rfl (lv_at hl 3 rfl) ?_
          refine lv_iconst (v := 0) hx hb dX8_bestFor_39 kI_0 ?_
          obtain ⟨q7, eq7, hf⟩ := bd_e hf
          refine zki hS (zrV (As := [.int x.2.2.1, .int (0 : Int32)]) (rest := []) okM hx hb hml hown hts hk hP hS (t_X8_rubsOf l v N x.2.2.1 (0 : Int32) q3.2 _ eq7) vk_X8_rubsOf ml_X8_335 rfl rfl ⟨(Nat.le_of_ble_eq_true rfl), (Nat.le_of_ble_eq_true rfl)⟩ (va_recv (q := (RX8, TX8, 55)) hk.1 hP (q0 := 0) (ci := 7) rfl rfl) rfl hl.1 rfl (Nat.le_of_ble_eq_true rfl) dX8_bestFor_40) (fun H locs hP hS => ?_)
          exact wb43 h9 hh9 x.1 x.2.1 x.2.2.1 q7.1 q7.2 hf _ _ _ hP hS (lv_sub hl [0, 1, 2, 3] rfl)
        · have hf := ite_t c6 hf
          refine lv_iconst (v := 0) hx hb dX8_bestFor_33 kI_0 ?_
          refine lv_goto (tgt := 43) hx hb dX8_bestFor_34 (by decide) ?_
          exact wb43 h9 hh9 x.1 x.2.1 x.2.2.1 (0 : Int32) q3.2 hf _ _ _ hP hS (lv_sub hl [0, 1, 2, 3] rfl)
  unfold x_X8_bestFor at hf
  refine lv_iconst (v := -1) hx hb dX8_bestFor_0 kI_m1 ?_
  refine lv_istore_n (lv' := [(2, .int (-1 : Int32)), (0, .ref (zA v 0)), (1, .int a1)]) hx hb dX8_bestFor_1 rfl hl (by decide) rfl (fun ls hl => ?_)
  refine lv_aload_n hx hb dX8_bestFor_2 rfl (lv_at hl 1 rfl) ?_
  refine lv_iconst (v := -1) hx hb dX8_bestFor_3 kI_m1 ?_
  refine va_put (D := zD v) (ci := 7) (v := .int (-1 : Int32)) (ty := .int) (C := RX8) (T := TX8) (N := 55) hx hb hts iX8 tyX8 tyX8_ok nmX8 hown hk.1 hP (zw_D okM hk _) hS 0 rfl rfl 38 (by decide) (hts _ fl_X8_332) (fun _ h9 => h9) rfl pd_I rfl rfl (Nat.le_of_ble_eq_true rfl) dX8_bestFor_4 (fun H locs hP1 _ hS => ?_)
  have hP : va_P (zD v) vwCl (pM.1 v (up g.1 0 (upd (g.1 0) 38 (-1 : Int32)), g.2)) H := hP1
  obtain ⟨g1, eg1, hf⟩ := lt_e hf
  rw [← eg1] at hP
  refine lv_iconst (v := 0) hx hb dX8_bestFor_7 kI_0 ?_
  refine lv_istore_n (lv' := [(3, .int (0 : Int32)), (2, .int (-1 : Int32)), (0, .ref (zA v 0)), (1, .int a1)]) hx hb dX8_bestFor_8 rfl hl (by decide) rfl (fun ls hl => ?_)
  exact wL9 N (a1, (-1 : Int32), (0 : Int32), g1) hf _ _ _ hP hS (lv_sub hl [2, 3, 1, 0] rfl)
abbrev rm_X8_pair : Room := { frames := 74, cells := 0, slots := 0, locals := 4539 }
set_option maxRecDepth 100000 in
theorem t_X8_pair (l : Launch) (v : Ev) (N : Nat) (a1 : Int32) (g : SM) (res : Int32 × SM) (hf : x_X8_pair N a1 g = some res) : Ci l yX8_pair cX8_pair 7 .int rm_X8_pair pM v [.ref (zA v 0), .int a1] g res := by
  refine ze_i (by decide +kernel) (Nat.le_of_ble_eq_true rfl) ?_
  intro p e s m args below meth c Q ls hcx hret hP hl
  obtain ⟨hx, hb, hml, hown, hts, hk⟩ := hcx
  have hown : s.vm.findClass RX8 = some m.cls := hown
  have hS : va_S (An nM v) s.heap s.heap [] := va_S.rf
  have hl : lv_has ls 7 [(0, .ref (zA v 0)), (1, .int a1)] := hl
  unfold x_X8_pair at hf
  refine lv_iload_n hx hb dX8_pair_0 rfl (lv_at hl 1 rfl) ?_
  refine lv_i2l hx hb dX8_pair_1 rfl ?_
  refine lv_lconst (v := 0) hx hb dX8_pair_2 kL_0 ?_
  refine lv_ldc2 (v := 5) hx hb hown (hts _ kc_X8_127) dX8_pair_3 ?_
  obtain ⟨q1, eq1, hf⟩ := bd_e hf
  refine zki hS (zrS (As := [.long ((a1).toInt64), .long (0 : Int64), .long (5 : Int64)]) (rest := []) okM hx hb hml hown hts hk hP hS (t_X8_in l v N ((a1).toInt64) (0 : Int64) (5 : Int64) g _ eq1) sk_X8_in ml_X8_100 rfl rfl ⟨(Nat.le_of_ble_eq_true rfl), (Nat.le_of_ble_eq_true rfl)⟩ rfl hl.1 rfl (Nat.le_of_ble_eq_true rfl) dX8_pair_6) (fun H locs hP hS => ?_)
  refine lv_if_ne (tgt := 16) hx hb dX8_pair_9 (by decide) (fun c2 => ?_) (fun c2 => ?_)
  · have hf := ite_f c2 hf
    refine lv_aload_n hx hb dX8_pair_16 rfl (lv_at hl 0 rfl) ?_
    refine lv_iconst (v := 2) hx hb dX8_pair_17 kI_2 ?_
    obtain ⟨q3, eq3, hf⟩ := bd_e hf
    refine zki hS (zrV (As := [.int (2 : Int32)]) (rest := []) okM hx hb hml hown hts hk hP hS (t_X8_bestFor l v N (2 : Int32) q1.2 _ eq3) vk_X8_bestFor ml_X8_339 rfl rfl ⟨(Nat.le_of_ble_eq_true rfl), (Nat.le_of_ble_eq_true rfl)⟩ (va_recv (q := (RX8, TX8, 55)) hk.1 hP (q0 := 0) (ci := 7) rfl rfl) rfl hl.1 rfl (Nat.le_of_ble_eq_true rfl) dX8_pair_18) (fun H locs hP hS => ?_)
    refine lv_istore_n (lv' := [(2, .int q3.1), (0, .ref (zA v 0)), (1, .int a1)]) hx hb dX8_pair_21 rfl hl (by decide) rfl (fun ls hl => ?_)
    refine lv_aload_n hx hb dX8_pair_22 rfl (lv_at hl 1 rfl) ?_
    refine va_get (D := zD v) (ci := 7) (v := .int (q3.2.1 0 38)) (C := RX8) (T := TX8) (N := 55) hx hb hts iX8 hown hk.1 hP 0 rfl rfl 38 (by decide) (hts _ fl_X8_332) (fun _ h9 => h9) rfl dX8_pair_23 ?_
    obtain ⟨x4, ex4, hf⟩ := lt_e hf
    refine lv_nm ex4 ?_
    refine lv_istore_n (lv' := [(3, .int x4), (2, .int q3.1), (0, .ref (zA v 0)), (1, .int a1)]) hx hb dX8_pair_26 rfl hl (by decide) rfl (fun ls hl => ?_)
    refine lv_iload_n hx hb dX8_pair_27 rfl (lv_at hl 3 rfl) ?_
    refine lv_iconst (v := 2) hx hb dX8_pair_28 kI_2 ?_
    refine lv_icmp_ge (tgt := 42) hx hb dX8_pair_29 (by decide) (fun c5 => ?_) (fun c5 => ?_)
    · have hf := ite_t c5 hf
      refine lv_aload_n hx hb dX8_pair_42 rfl (lv_at hl 2 rfl) ?_
      refine lv_iconst (v := 0) hx hb dX8_pair_43 kI_0 ?_
      obtain ⟨q6, eq6, hf⟩ := bd_e hf
      refine zki hS (zrV (As := [.int (0 : Int32)]) (rest := []) okM hx hb hml hown hts hk hP hS (t_X8_bestFor l v N (0 : Int32) q3.2 _ eq6) vk_X8_bestFor ml_X8_339 rfl rfl ⟨(Nat.le_of_ble_eq_true rfl), (Nat.le_of_ble_eq_true rfl)⟩ (va_recv (q := (RX8, TX8, 55)) hk.1 hP (q0 := 0) (ci := 7) rfl rfl) rfl hl.1 rfl (Nat.le_of_ble_eq_true rfl) dX8_pair_44) (fun H locs hP hS => ?_)
      refine lv_istore (lv' := [(4, .int q6.1), (3, .int x4), (2, .int q3.1), (0, .ref (zA v 0)), (1, .int a1)]) hx hb dX8_pair_47 hl (by decide) rfl (fun ls hl => ?_)
      refine lv_aload_n hx hb dX8_pair_49 rfl (lv_at hl 3 rfl) ?_
      refine va_get (D := zD v) (ci := 7) (v := .int (q6.2.1 0 38)) (C := RX8) (T := TX8) (N := 55) hx hb hts iX8 hown hk.1 hP 0 rfl rfl 38 (by decide) (hts _ fl_X8_332) (fun _ h9 => h9) rfl dX8_pair_50 ?_
      obtain ⟨x7, ex7, hf⟩ := lt_e hf
      refine lv_nm ex7 ?_
      refine lv_istore (lv' := [(5, .int x7), (4, .int q6.1), (3, .int x4), (2, .int q3.1), (0, .ref (zA v 0)), (1, .int a1)]) hx hb dX8_pair_53 hl (by decide) rfl (fun ls hl => ?_)
      refine lv_aload_n hx hb dX8_pair_55 rfl (lv_at hl 4 rfl) ?_
      refine lv_iconst (v := 1) hx hb dX8_pair_56 kI_1 ?_
      obtain ⟨q8, eq8, hf⟩ := bd_e hf
      refine zki hS (zrV (As := [.int (1 : Int32)]) (rest := []) okM hx hb hml hown hts hk hP hS (t_X8_bestFor l v N (1 : Int32) q6.2 _ eq8) vk_X8_bestFor ml_X8_339 rfl rfl ⟨(Nat.le_of_ble_eq_true rfl), (Nat.le_of_ble_eq_true rfl)⟩ (va_recv (q := (RX8, TX8, 55)) hk.1 hP (q0 := 0) (ci := 7) rfl rfl) rfl hl.1 rfl (Nat.le_of_ble_eq_true rfl) dX8_pair_57) (fun H locs hP hS => ?_)
      refine lv_istore (lv' := [(6, .int q8.1), (5, .int x7), (4, .int q6.1), (3, .int x4), (2, .int q3.1), (0, .ref (zA v 0)), (1, .int a1)]) hx hb dX8_pair_60 hl (by decide) rfl (fun ls hl => ?_)
      refine lv_iload_n hx hb dX8_pair_62 rfl (lv_at hl 6 rfl) ?_
      refine lv_iconst (v := 4) hx hb dX8_pair_63 kI_4 ?_
      refine lv_icmp_ge (tgt := 80) hx hb dX8_pair_64 (by decide) (fun c9 => ?_) (fun c9 => ?_)
      · have hf := ite_t c9 hf
        refine lv_iload_n hx hb dX8_pair_80 rfl (lv_at hl 4 rfl) ?_
        refine lv_iconst (v := -1) hx hb dX8_pair_81 kI_m1 ?_
        refine lv_icmp_ne (tgt := 96) hx hb dX8_pair_82 (by decide) (fun c10 => ?_) (fun c10 => ?_)
        · have hf := ite_f c10 hf
          refine lv_iload hx hb dX8_pair_96 (lv_at hl 1 rfl) ?_
          refine lv_aload_n hx hb dX8_pair_98 rfl (lv_at hl 5 rfl) ?_
          refine va_get (D := zD v) (ci := 7) (v := .int (q8.2.1 0 38)) (C := RX8) (T := TX8) (N := 55) hx hb hts iX8 hown hk.1 hP 0 rfl rfl 38 (by decide) (hts _ fl_X8_332) (fun _ h9 => h9) rfl dX8_pair_99 ?_
          refine lv_iadd hx hb dX8_pair_102 ?_
          obtain ⟨x11, ex11, hf⟩ := lt_e hf
          refine lv_nm ex11 ?_
          refine lv_istore (lv' := [(5, .int x11), (6, .int q8.1), (4, .int q6.1), (3, .int x4), (2, .int q3.1), (0, .ref (zA v 0)), (1, .int a1)]) hx hb dX8_pair_103 hl (by decide) rfl (fun ls hl => ?_)
          refine lv_iload_n hx hb dX8_pair_105 rfl (lv_at hl 6 rfl) ?_
          refine lv_iconst (v := 4) hx hb dX8_pair_106 kI_4 ?_
          refine lv_icmp_ne (tgt := 115) hx hb dX8_pair_107 (by decide) (fun c12 => ?_) (fun c12 => ?_)
          · have hf := ite_f c12 hf
            refine lv_iload_n hx hb dX8_pair_115 rfl (lv_at hl 3 rfl) ?_
            refine lv_iload hx hb dX8_pair_116 (lv_at hl 0 rfl) ?_
            refine lv_isub hx hb dX8_pair_118 ?_
            refine lv_aload_n hx hb dX8_pair_119 rfl (lv_at hl 5 rfl) ?_
            refine lv_iconst (v := 2) hx hb dX8_pair_120 kI_2 ?_
            refine lv_iload_n hx hb dX8_pair_121 rfl (lv_at hl 4 rfl) ?_
            refine lv_iconst (v := 0) hx hb dX8_pair_122 kI_0 ?_
            refine lv_iconst (v := 0) hx hb dX8_pair_123 kI_0 ?_
            obtain ⟨q13, eq13, hf⟩ := bd_e hf
            refine zki hS (zrV (As := [.int (2 : Int32), .int q3.1, .int (0 : Int32), .int (0 : Int32)]) (rest := [.int (x4 - x11)]) okM hx hb hml hown hts hk hP hS (t_X8_asksFor l v N (2 : Int32) q3.1 (0 : Int32) (0 : Int32) q8.2 _ eq13) vk_X8_asksFor ml_X8_328 rfl rfl ⟨(Nat.le_of_ble_eq_true rfl), (Nat.le_of_ble_eq_true rfl)⟩ (va_recv (q := (RX8, TX8, 55)) hk.1 hP (q0 := 0) (ci := 7) rfl rfl) rfl hl.1 rfl (Nat.le_of_ble_eq_true rfl) dX8_pair_124) (fun H locs hP hS => ?_)
            refine lv_iadd hx hb dX8_pair_127 ?_
            refine lv_aload_n hx hb dX8_pair_128 rfl (lv_at hl 5 rfl) ?_
            refine lv_iconst (v := 2) hx hb dX8_pair_129 kI_2 ?_
            refine lv_iload hx hb dX8_pair_130 (lv_at hl 2 rfl) ?_
            refine lv_iconst (v := 0) hx hb dX8_pair_132 kI_0 ?_
            refine lv_iconst (v := 0) hx hb dX8_pair_133 kI_0 ?_
            obtain ⟨q14, eq14, hf⟩ := bd_e hf
            refine zki hS (zrV (As := [.int (2 : Int32), .int q6.1, .int (0 : Int32), .int (0 : Int32)]) (rest := [.int ((x4 - x11) + q13.1)]) okM hx hb hml hown hts hk hP hS (t_X8_asksFor l v N (2 : Int32) q6.1 (0 : Int32) (0 : Int32) q13.2 _ eq14) vk_X8_asksFor ml_X8_328 rfl rfl ⟨(Nat.le_of_ble_eq_true rfl), (Nat.le_of_ble_eq_true rfl)⟩ (va_recv (q := (RX8, TX8, 55)) hk.1 hP (q0 := 0) (ci := 7) rfl rfl) rfl hl.1 rfl (Nat.le_of_ble_eq_true rfl) dX8_pair_134) (fun H locs hP hS => ?_)
            refine lv_aload_n hx hb dX8_pair_137 rfl (lv_at hl 5 rfl) ?_
            refine lv_iconst (v := 2) hx hb dX8_pair_138 kI_2 ?_
            refine lv_iload hx hb dX8_pair_139 (lv_at hl 1 rfl) ?_
            refine lv_iconst (v := 0) hx hb dX8_pair_141 kI_0 ?_
            refine lv_iconst (v := 0) hx hb dX8_pair_142 kI_0 ?_
            obtain ⟨q15, eq15, hf⟩ := bd_e hf
            refine zki hS (zrV (As := [.int (2 : Int32), .int q8.1, .int (0 : Int32), .int (0 : Int32)]) (rest := [.int q14.1, .int ((x4 - x11) + q13.1)]) okM hx hb hml hown hts hk hP hS (t_X8_asksFor l v N (2 : Int32) q8.1 (0 : Int32) (0 : Int32) q14.2 _ eq15) vk_X8_asksFor ml_X8_328 rfl rfl ⟨(Nat.le_of_ble_eq_true rfl), (Nat.le_of_ble_eq_true rfl)⟩ (va_recv (q := (RX8, TX8, 55)) hk.1 hP (q0 := 0) (ci := 7) rfl rfl) rfl hl.1 rfl (Nat.le_of_ble_eq_true rfl) dX8_pair_143) (fun H locs hP hS => ?_)
            refine lv_iadd hx hb dX8_pair_146 ?_
            refine lv_iconst (v := 2) hx hb dX8_pair_147 kI_2 ?_
            refine lv_idiv hx hb dX8_pair_148 kz_2 ?_
            refine lv_isub hx hb dX8_pair_149 ?_
            exact hret _ _ _ _ _ _ (Or.inl rfl) (Option.some.inj hf) hP hS dX8_pair_150
          · have hf := ite_t c12 hf
            refine lv_iload hx hb dX8_pair_110 (lv_at hl 0 rfl) ?_
            refine lv_goto (tgt := 150) hx hb dX8_pair_112 (by decide) ?_
            exact hret _ _ _ _ _ _ (Or.inl rfl) (Option.some.inj hf) hP hS dX8_pair_150
        · have hf := ite_t c10 hf
          refine lv_iload_n hx hb dX8_pair_85 rfl (lv_at hl 6 rfl) ?_
          refine lv_iconst (v := 4) hx hb dX8_pair_86 kI_4 ?_
          refine lv_icmp_ne (tgt := 94) hx hb dX8_pair_87 (by decide) (fun c16 => ?_) (fun c16 => ?_)
          · have hf := ite_f c16 hf
            refine lv_iconst (v := 0) hx hb dX8_pair_94 kI_0 ?_
            exact hret _ _ _ _ _ _ (Or.inl rfl) (Option.some.inj hf) hP hS dX8_pair_95
          · have hf := ite_t c16 hf
            refine lv_iconst (v := -1) hx hb dX8_pair_90 kI_m1 ?_
            refine lv_goto (tgt := 95) hx hb dX8_pair_91 (by decide) ?_
            exact hret _ _ _ _ _ _ (Or.inl rfl) (Option.some.inj hf) hP hS dX8_pair_95
      · have hf := ite_f c9 hf
        refine lv_iload_n hx hb dX8_pair_67 rfl (lv_at hl 6 rfl) ?_
        refine lv_iconst (v := 2) hx hb dX8_pair_68 kI_2 ?_
        refine lv_icmp_ne (tgt := 77) hx hb dX8_pair_69 (by decide) (fun c17 => ?_) (fun c17 => ?_)
        · have hf := ite_f c17 hf
          refine lv_iload hx hb dX8_pair_77 (lv_at hl 0 rfl) ?_
          exact hret _ _ _ _ _ _ (Or.inl rfl) (Option.some.inj hf) hP hS dX8_pair_79
        · have hf := ite_t c17 hf
          refine lv_iload hx hb dX8_pair_72 (lv_at hl 2 rfl) ?_
          refine lv_goto (tgt := 79) hx hb dX8_pair_74 (by decide) ?_
          exact hret _ _ _ _ _ _ (Or.inl rfl) (Option.some.inj hf) hP hS dX8_pair_79
    · have hf := ite_f c5 hf
      refine lv_iload_n hx hb dX8_pair_32 rfl (lv_at hl 3 rfl) ?_
      refine lv_if_ne (tgt := 40) hx hb dX8_pair_33 (by decide) (fun c18 => ?_) (fun c18 => ?_)
      · have hf := ite_f c18 hf
        refine lv_iload_n hx hb dX8_pair_40 rfl (lv_at hl 0 rfl) ?_
        exact hret _ _ _ _ _ _ (Or.inl rfl) (Option.some.inj hf) hP hS dX8_pair_41
      · have hf := ite_t c18 hf
        refine lv_iload_n hx hb dX8_pair_36 rfl (lv_at hl 1 rfl) ?_
        refine lv_goto (tgt := 41) hx hb dX8_pair_37 (by decide) ?_
        exact hret _ _ _ _ _ _ (Or.inl rfl) (Option.some.inj hf) hP hS dX8_pair_41
  · have hf := ite_t c2 hf
    refine lv_ldcw (v := -100000) hx hb hown (hts _ kc_X8_338) dX8_pair_12 ?_
    exact hret _ _ _ _ _ _ (Or.inl rfl) (Option.some.inj hf) hP hS dX8_pair_15
abbrev rm_X8_doesFit : Room := { frames := 3, cells := 0, slots := 0, locals := 111 }
set_option maxRecDepth 100000 in
theorem t_X8_doesFit (l : Launch) (v : Ev) (N : Nat) (a1 : Int32) (a2 : Int32) (a3 : Int32) (g : SM) (res : Int32 × SM) (hf : x_X8_doesFit N a1 a2 a3 g = some res) : Ci l yX8_doesFit cX8_doesFit 5 .boolean rm_X8_doesFit pM v [.ref (zA v 0), .int a1, .int a2, .int a3] g res := by
  refine ze_i (by decide +kernel) (Nat.le_of_ble_eq_true rfl) ?_
  intro p e s m args below meth c Q ls hcx hret hP hl
  obtain ⟨hx, hb, hml, hown, hts, hk⟩ := hcx
  have hown : s.vm.findClass RX8 = some m.cls := hown
  have hS : va_S (An nM v) s.heap s.heap [] := va_S.rf
  have hl : lv_has ls 5 [(0, .ref (zA v 0)), (1, .int a1), (2, .int a2), (3, .int a3)] := hl
  have wb37 : ∀ (h3 : Int32 × Int32 × Int32 × Int32 × SM → Option (Int32 × SM)) (hh3 : ∀ x : Int32 × Int32 × Int32 × Int32 × SM, h3 x = some res → ∀ (H : Heap) (locs : List Loc) (ls : Array Slot), va_P (zD v) vwCl (pM.1 v x.2.2.2.2) H → va_S (An nM v) s.heap H locs → lv_has ls 5 [(0, .ref (zA v 0)), (1, .int x.1), (2, .int x.2.1), (3, .int x.2.2.1), (4, .int x.2.2.2.1)] → W p l e rm_X8_doesFit s m args below meth c H locs 0 0 Q (F0 m 3 ls [])) (y1 : Int32) (y2 : Int32) (y3 : Int32) (y4 : Int32) (g : SM) (hf : x_X8_doesFit_b37 N h3 y1 y2 y3 y4 g = some res) (H : Heap) (locs : List Loc) (ls : Array Slot) (hP : va_P (zD v) vwCl (pM.1 v g) H) (hS : va_S (An nM v) s.heap H locs) (hl : lv_has ls 5 [(0, .ref (zA v 0)), (1, .int y1), (2, .int y2), (3, .int y3), (4, .int y4)]), W p l e rm_X8_doesFit s m args below meth c H locs 0 0 Q (F0 m 37 ls []) := by
    intro h3 hh3 y1 y2 y3 y4 g hf H locs ls hP hS hl
    unfold x_X8_doesFit_b37 at hf
    obtain ⟨x3, ex3, hf⟩ := lt_e hf
    refine lv_iinc (v := x3) (lv' := [(4, .int x3), (0, .ref (zA v 0)), (1, .int y1), (2, .int y2), (3, .int y3)]) hx hb dX8_doesFit_37 hl (k := 4) rfl ((congrArg (fun z => y4 + z) kI_1).trans ex3.symm) (by decide) rfl (fun ls hl => ?_)
    refine lv_goto (tgt := 3) hx hb dX8_doesFit_40 (by decide) ?_
    exact hh3 (y1, y2, y3, x3, g) hf _ _ _ hP hS (lv_sub hl [1, 2, 3, 4, 0] rfl)
  have wL3 : ∀ (n : Nat) (x : Int32 × Int32 × Int32 × Int32 × SM), lp (x_X8_doesFit_B3 N) n x = some res → ∀ (H : Heap) (locs : List Loc) (ls : Array Slot), va_P (zD v) vwCl (pM.1 v x.2.2.2.2) H → va_S (An nM v) s.heap H locs → lv_has ls 5 [(0, .ref (zA v 0)), (1, .int x.1), (2, .int x.2.1), (3, .int x.2.2.1), (4, .int x.2.2.2.1)] → W p l e rm_X8_doesFit s m args below meth c H locs 0 0 Q (F0 m 3 ls []) := by
    refine lp_w (P := fun x : Int32 × Int32 × Int32 × Int32 × SM => ∀ (H : Heap) (locs : List Loc) (ls : Array Slot), va_P (zD v) vwCl (pM.1 v x.2.2.2.2) H → va_S (An nM v) s.heap H locs → lv_has ls 5 [(0, .ref (zA v 0)), (1, .int x.1), (2, .int x.2.1), (3, .int x.2.2.1), (4, .int x.2.2.2.1)] → W p l e rm_X8_doesFit s m args below meth c H locs 0 0 Q (F0 m 3 ls [])) ?_
    intro h3 hh3 x hf H locs ls hP hS hl
    unfold x_X8_doesFit_B3 at hf
    refine lv_iload hx hb dX8_doesFit_3 (lv_at hl 4 rfl) ?_
    refine lv_bipush (v := 20) hx hb dX8_doesFit_5 kB_20 ?_
    refine lv_icmp_ge (tgt := 43) hx hb dX8_doesFit_7 (by decide) (fun c1 => ?_) (fun c1 => ?_)
    · have hf := ite_t c1 hf
      refine lv_iconst (v := 0) hx hb dX8_doesFit_43 kI_0 ?_
      exact hret _ _ _ _ _ _ (Or.inr rfl) (Option.some.inj hf) hP hS dX8_doesFit_44
    · have hf := ite_f c1 hf
      refine lv_iload_n hx hb dX8_doesFit_10 rfl (lv_at hl 2 rfl) ?_
      refine lv_iload hx hb dX8_doesFit_11 (lv_at hl 4 rfl) ?_
      refine lv_ishr hx hb dX8_doesFit_13 ?_
      refine lv_iconst (v := 1) hx hb dX8_doesFit_14 kI_1 ?_
      refine lv_iand hx hb dX8_doesFit_15 ?_
      refine lv_iconst (v := 1) hx hb dX8_doesFit_16 kI_1 ?_
      refine lv_icmp_ne (tgt := 37) hx hb dX8_doesFit_17 (by decide) (fun c2 => ?_) (fun c2 => ?_)
      · have hf := ite_f c2 hf
        exact wb37 h3 hh3 x.1 x.2.1 x.2.2.1 x.2.2.2.1 x.2.2.2.2 hf _ _ _ hP hS (lv_sub hl [0, 1, 2, 3, 4] rfl)
      · have hf := ite_t c2 hf
        refine lv_aload_n hx hb dX8_doesFit_20 rfl (lv_at hl 0 rfl) ?_
        refine lv_bipush (v := 20) hx hb dX8_doesFit_21 kB_20 ?_
        refine lv_iload_n hx hb dX8_doesFit_23 rfl (lv_at hl 1 rfl) ?_
        refine lv_imul hx hb dX8_doesFit_24 ?_
        refine lv_iload hx hb dX8_doesFit_25 (lv_at hl 4 rfl) ?_
        refine lv_iadd hx hb dX8_doesFit_27 ?_
        refine lv_iload_n hx hb dX8_doesFit_28 rfl (lv_at hl 3 rfl) ?_
        obtain ⟨q4, eq4, hf⟩ := bd_e hf
        refine zki hS (zrV (As := [.int (((20 : Int32) * x.1) + x.2.2.2.1), .int x.2.2.1]) (rest := []) okM hx hb hml hown hts hk hP hS (t_X8_saysOf l v N (((20 : Int32) * x.1) + x.2.2.2.1) x.2.2.1 x.2.2.2.2 _ eq4) vk_X8_saysOf ml_X8_148 rfl rfl ⟨(Nat.le_of_ble_eq_true rfl), (Nat.le_of_ble_eq_true rfl)⟩ (va_recv (q := (RX8, TX8, 55)) hk.1 hP (q0 := 0) (ci := 7) rfl rfl) rfl hl.1 rfl (Nat.le_of_ble_eq_true rfl) dX8_doesFit_29) (fun H locs hP hS => ?_)
        refine lv_if_ne (tgt := 37) hx hb dX8_doesFit_32 (by decide) (fun c5 => ?_) (fun c5 => ?_)
        · have hf := ite_f c5 hf
          exact wb37 h3 hh3 x.1 x.2.1 x.2.2.1 x.2.2.2.1 q4.2 hf _ _ _ hP hS (lv_sub hl [0, 1, 2, 3, 4] rfl)
        · have hf := ite_t c5 hf
          refine lv_iconst (v := 1) hx hb dX8_doesFit_35 kI_1 ?_
          exact hret _ _ _ _ _ _ (Or.inr rfl) (Option.some.inj hf) hP hS dX8_doesFit_36
  unfold x_X8_doesFit at hf
  refine lv_iconst (v := 0) hx hb dX8_doesFit_0 kI_0 ?_
  refine lv_istore (lv' := [(4, .int (0 : Int32)), (0, .ref (zA v 0)), (1, .int a1), (2, .int a2), (3, .int a3)]) hx hb dX8_doesFit_1 hl (by decide) rfl (fun ls hl => ?_)
  exact wL3 N (a1, a2, a3, (0 : Int32), g) hf _ _ _ hP hS (lv_sub hl [1, 2, 3, 4, 0] rfl)
abbrev rm_X8_isServed : Room := { frames := 4, cells := 0, slots := 0, locals := 135 }
set_option maxRecDepth 100000 in
theorem t_X8_isServed (l : Launch) (v : Ev) (N : Nat) (a1 : Int32) (g : SM) (res : Int32 × SM) (hf : x_X8_isServed N a1 g = some res) : Ci l yX8_isServed cX8_isServed 3 .boolean rm_X8_isServed pM v [.ref (zA v 0), .int a1] g res := by
  refine ze_i (by decide +kernel) (Nat.le_of_ble_eq_true rfl) ?_
  intro p e s m args below meth c Q ls hcx hret hP hl
  obtain ⟨hx, hb, hml, hown, hts, hk⟩ := hcx
  have hown : s.vm.findClass RX8 = some m.cls := hown
  have hS : va_S (An nM v) s.heap s.heap [] := va_S.rf
  have hl : lv_has ls 3 [(0, .ref (zA v 0)), (1, .int a1)] := hl
  have wL2 : ∀ (n : Nat) (x : Int32 × Int32 × SM), lp (x_X8_isServed_B2 N) n x = some res → ∀ (H : Heap) (locs : List Loc) (ls : Array Slot), va_P (zD v) vwCl (pM.1 v x.2.2) H → va_S (An nM v) s.heap H locs → lv_has ls 3 [(0, .ref (zA v 0)), (1, .int x.1), (2, .int x.2.1)] → W p l e rm_X8_isServed s m args below meth c H locs 0 0 Q (F0 m 2 ls []) := by
    refine lp_w (P := fun x : Int32 × Int32 × SM => ∀ (H : Heap) (locs : List Loc) (ls : Array Slot), va_P (zD v) vwCl (pM.1 v x.2.2) H → va_S (An nM v) s.heap H locs → lv_has ls 3 [(0, .ref (zA v 0)), (1, .int x.1), (2, .int x.2.1)] → W p l e rm_X8_isServed s m args below meth c H locs 0 0 Q (F0 m 2 ls [])) ?_
    intro h2 hh2 x hf H locs ls hP hS hl
    unfold x_X8_isServed_B2 at hf
    refine lv_iload_n hx hb dX8_isServed_2 rfl (lv_at hl 2 rfl) ?_
    refine lv_aload_n hx hb dX8_isServed_3 rfl (lv_at hl 0 rfl) ?_
    refine va_get (D := zD v) (ci := 7) (v := .int (x.2.2.1 0 15)) (C := RX8) (T := TX8) (N := 55) hx hb hts iX8 hown hk.1 hP 0 rfl rfl 15 (by decide) (hts _ fl_X8_97) (fun _ h9 => h9) rfl dX8_isServed_4 ?_
    refine lv_icmp_ge (tgt := 33) hx hb dX8_isServed_7 (by decide) (fun c1 => ?_) (fun c1 => ?_)
    · have hf := ite_t c1 hf
      refine lv_iconst (v := 0) hx hb dX8_isServed_33 kI_0 ?_
      exact hret _ _ _ _ _ _ (Or.inr rfl) (Option.some.inj hf) hP hS dX8_isServed_34
    · have hf := ite_f c1 hf
      refine lv_aload_n hx hb dX8_isServed_10 rfl (lv_at hl 0 rfl) ?_
      refine lv_iload_n hx hb dX8_isServed_11 rfl (lv_at hl 2 rfl) ?_
      refine lv_aload_n hx hb dX8_isServed_12 rfl (lv_at hl 0 rfl) ?_
      refine va_get (D := zD v) (ci := 7) (v := .ref (zA v 8)) (C := RX8) (T := TX8) (N := 55) hx hb hts iX8 hown hk.1 hP 0 rfl rfl 14 (by decide) (hts _ fl_X8_44) (fun _ h9 => h9) rfl dX8_isServed_13 ?_
      refine lv_iload_n hx hb dX8_isServed_16 rfl (lv_at hl 2 rfl) ?_
      obtain ⟨c2, hf⟩ := gd_e hf
      refine va_iald hx hb hk.1 hP 8 0 rfl rfl (inb_in c2) dX8_isServed_17 ?_
      refine lv_iload_n hx hb dX8_isServed_18 rfl (lv_at hl 1 rfl) ?_
      obtain ⟨q3, eq3, hf⟩ := bd_e hf
      refine zki hS (zrV (As := [.int x.2.1, .int (x.2.2.1 8 (x.2.1).toNatClampNeg), .int x.1]) (rest := []) okM hx hb hml hown hts hk hP hS (t_X8_doesFit l v N x.2.1 (x.2.2.1 8 (x.2.1).toNatClampNeg) x.1 x.2.2 _ eq3) vk_X8_doesFit ml_X8_342 rfl rfl ⟨(Nat.le_of_ble_eq_true rfl), (Nat.le_of_ble_eq_true rfl)⟩ (va_recv (q := (RX8, TX8, 55)) hk.1 hP (q0 := 0) (ci := 7) rfl rfl) rfl hl.1 rfl (Nat.le_of_ble_eq_true rfl) dX8_isServed_19) (fun H locs hP hS => ?_)
      refine lv_if_eq (tgt := 27) hx hb dX8_isServed_22 (by decide) (fun c4 => ?_) (fun c4 => ?_)
      · have hf := ite_t c4 hf
        obtain ⟨x5, ex5, hf⟩ := lt_e hf
        refine lv_iinc (v := x5) (lv' := [(2, .int x5), (0, .ref (zA v 0)), (1, .int x.1)]) hx hb dX8_isServed_27 hl (k := 2) rfl ((congrArg (fun z => x.2.1 + z) kI_1).trans ex5.symm) (by decide) rfl (fun ls hl => ?_)
        refine lv_goto (tgt := 2) hx hb dX8_isServed_30 (by decide) ?_
        exact hh2 (x.1, x5, q3.2) hf _ _ _ hP hS (lv_sub hl [1, 2, 0] rfl)
      · have hf := ite_f c4 hf
        refine lv_iconst (v := 1) hx hb dX8_isServed_25 kI_1 ?_
        exact hret _ _ _ _ _ _ (Or.inr rfl) (Option.some.inj hf) hP hS dX8_isServed_26
  unfold x_X8_isServed at hf
  refine lv_iconst (v := 0) hx hb dX8_isServed_0 kI_0 ?_
  refine lv_istore_n (lv' := [(2, .int (0 : Int32)), (0, .ref (zA v 0)), (1, .int a1)]) hx hb dX8_isServed_1 rfl hl (by decide) rfl (fun ls hl => ?_)
  exact wL2 N (a1, (0 : Int32), g) hf _ _ _ hP hS (lv_sub hl [1, 2, 0] rfl)
abbrev rm_X8_servedBy : Room := { frames := 4, cells := 0, slots := 0, locals := 135 }
set_option maxRecDepth 100000 in
theorem t_X8_servedBy (l : Launch) (v : Ev) (N : Nat) (a1 : Int32) (a2 : Int32) (g : SM) (res : Int32 × SM) (hf : x_X8_servedBy N a1 a2 g = some res) : Ci l yX8_servedBy cX8_servedBy 5 .int rm_X8_servedBy pM v [.ref (zA v 0), .int a1, .int a2] g res := by
  refine ze_i (by decide +kernel) (Nat.le_of_ble_eq_true rfl) ?_
  intro p e s m args below meth c Q ls hcx hret hP hl
  obtain ⟨hx, hb, hml, hown, hts, hk⟩ := hcx
  have hown : s.vm.findClass RX8 = some m.cls := hown
  have hS : va_S (An nM v) s.heap s.heap [] := va_S.rf
  have hl : lv_has ls 5 [(0, .ref (zA v 0)), (1, .int a1), (2, .int a2)] := hl
  have wb45 : ∀ (h5 : Int32 × Int32 × Int32 × Int32 × SM → Option (Int32 × SM)) (hh5 : ∀ x : Int32 × Int32 × Int32 × Int32 × SM, h5 x = some res → ∀ (H : Heap) (locs : List Loc) (ls : Array Slot), va_P (zD v) vwCl (pM.1 v x.2.2.2.2) H → va_S (An nM v) s.heap H locs → lv_has ls 5 [(0, .ref (zA v 0)), (1, .int x.1), (2, .int x.2.1), (3, .int x.2.2.1), (4, .int x.2.2.2.1)] → W p l e rm_X8_servedBy s m args below meth c H locs 0 0 Q (F0 m 5 ls [])) (y1 : Int32) (y2 : Int32) (y4 : Int32) (t0 : Int32) (t1 : Int32) (g : SM) (hf : x_X8_servedBy_b45 N h5 y1 y2 y4 t0 t1 g = some res) (H : Heap) (locs : List Loc) (ls : Array Slot) (hP : va_P (zD v) vwCl (pM.1 v g) H) (hS : va_S (An nM v) s.heap H locs) (hl : lv_has ls 5 [(0, .ref (zA v 0)), (1, .int y1), (2, .int y2), (4, .int y4)]), W p l e rm_X8_servedBy s m args below meth c H locs 0 0 Q (F0 m 45 ls [.int t0, .int t1]) := by
    intro h5 hh5 y1 y2 y4 t0 t1 g hf H locs ls hP hS hl
    unfold x_X8_servedBy_b45 at hf
    refine lv_iadd hx hb dX8_servedBy_45 ?_
    obtain ⟨x4, ex4, hf⟩ := lt_e hf
    refine lv_nm ex4 ?_
    refine lv_istore_n (lv' := [(3, .int x4), (0, .ref (zA v 0)), (1, .int y1), (2, .int y2), (4, .int y4)]) hx hb dX8_servedBy_46 rfl hl (by decide) rfl (fun ls hl => ?_)
    obtain ⟨x5, ex5, hf⟩ := lt_e hf
    refine lv_iinc (v := x5) (lv' := [(4, .int x5), (3, .int x4), (0, .ref (zA v 0)), (1, .int y1), (2, .int y2)]) hx hb dX8_servedBy_47 hl (k := 4) rfl ((congrArg (fun z => y4 + z) kI_1).trans ex5.symm) (by decide) rfl (fun ls hl => ?_)
    refine lv_goto (tgt := 5) hx hb dX8_servedBy_50 (by decide) ?_
    exact hh5 (y1, y2, x4, x5, g) hf _ _ _ hP hS (lv_sub hl [2, 3, 4, 1, 0] rfl)
  have wb44 : ∀ (h5 : Int32 × Int32 × Int32 × Int32 × SM → Option (Int32 × SM)) (hh5 : ∀ x : Int32 × Int32 × Int32 × Int32 × SM, h5 x = some res → ∀ (H : Heap) (locs : List Loc) (ls : Array Slot), va_P (zD v) vwCl (pM.1 v x.2.2.2.2) H → va_S (An nM v) s.heap H locs → lv_has ls 5 [(0, .ref (zA v 0)), (1, .int x.1), (2, .int x.2.1), (3, .int x.2.2.1), (4, .int x.2.2.2.1)] → W p l e rm_X8_servedBy s m args below meth c H locs 0 0 Q (F0 m 5 ls [])) (y1 : Int32) (y2 : Int32) (y4 : Int32) (t0 : Int32) (g : SM) (hf : x_X8_servedBy_b44 N h5 y1 y2 y4 t0 g = some res) (H : Heap) (locs : List Loc) (ls : Array Slot) (hP : va_P (zD v) vwCl (pM.1 v g) H) (hS : va_S (An nM v) s.heap H locs) (hl : lv_has ls 5 [(0, .ref (zA v 0)), (1, .int y1), (2, .int y2), (4, .int y4)]), W p l e rm_X8_servedBy s m args below meth c H locs 0 0 Q (F0 m 44 ls [.int t0]) := by
    intro h5 hh5 y1 y2 y4 t0 g hf H locs ls hP hS hl
    unfold x_X8_servedBy_b44 at hf
    refine lv_iconst (v := 0) hx hb dX8_servedBy_44 kI_0 ?_
    exact wb45 h5 hh5 y1 y2 y4 (0 : Int32) t0 g hf _ _ _ hP hS (lv_sub hl [0, 1, 2, 3] rfl)
  have wL5 : ∀ (n : Nat) (x : Int32 × Int32 × Int32 × Int32 × SM), lp (x_X8_servedBy_B5 N) n x = some res → ∀ (H : Heap) (locs : List Loc) (ls : Array Slot), va_P (zD v) vwCl (pM.1 v x.2.2.2.2) H → va_S (An nM v) s.heap H locs → lv_has ls 5 [(0, .ref (zA v 0)), (1, .int x.1), (2, .int x.2.1), (3, .int x.2.2.1), (4, .int x.2.2.2.1)] → W p l e rm_X8_servedBy s m args below meth c H locs 0 0 Q (F0 m 5 ls []) := by
    refine lp_w (P := fun x : Int32 × Int32 × Int32 × Int32 × SM => ∀ (H : Heap) (locs : List Loc) (ls : Array Slot), va_P (zD v) vwCl (pM.1 v x.2.2.2.2) H → va_S (An nM v) s.heap H locs → lv_has ls 5 [(0, .ref (zA v 0)), (1, .int x.1), (2, .int x.2.1), (3, .int x.2.2.1), (4, .int x.2.2.2.1)] → W p l e rm_X8_servedBy s m args below meth c H locs 0 0 Q (F0 m 5 ls [])) ?_
    intro h5 hh5 x hf H locs ls hP hS hl
    unfold x_X8_servedBy_B5 at hf
    refine lv_iload hx hb dX8_servedBy_5 (lv_at hl 4 rfl) ?_
    refine lv_bipush (v := 100) hx hb dX8_servedBy_7 kB_100 ?_
    refine lv_icmp_ge (tgt := 53) hx hb dX8_servedBy_9 (by decide) (fun c1 => ?_) (fun c1 => ?_)
    · have hf := ite_t c1 hf
      refine lv_iload_n hx hb dX8_servedBy_53 rfl (lv_at hl 3 rfl) ?_
      exact hret _ _ _ _ _ _ (Or.inl rfl) (Option.some.inj hf) hP hS dX8_servedBy_54
    · have hf := ite_f c1 hf
      refine lv_iload_n hx hb dX8_servedBy_12 rfl (lv_at hl 3 rfl) ?_
      refine lv_aload_n hx hb dX8_servedBy_13 rfl (lv_at hl 0 rfl) ?_
      refine va_get (D := zD v) (ci := 7) (v := .ref (zA v 4)) (C := RX8) (T := TX8) (N := 55) hx hb hts iX8 hown hk.1 hP 0 rfl rfl 10 (by decide) (hts _ fl_X8_32) (fun _ h9 => h9) rfl dX8_servedBy_14 ?_
      refine lv_iload hx hb dX8_servedBy_17 (lv_at hl 4 rfl) ?_
      obtain ⟨c2, hf⟩ := gd_e hf
      refine va_iald hx hb hk.1 hP 4 0 rfl rfl (inb_in c2) dX8_servedBy_19 ?_
      refine lv_if_le (tgt := 44) hx hb dX8_servedBy_20 (by decide) (fun c3 => ?_) (fun c3 => ?_)
      · have hf := ite_t c3 hf
        exact wb44 h5 hh5 x.1 x.2.1 x.2.2.2.1 x.2.2.1 x.2.2.2.2 hf _ _ _ hP hS (lv_sub hl [0, 1, 2, 4] rfl)
      · have hf := ite_f c3 hf
        refine lv_aload_n hx hb dX8_servedBy_23 rfl (lv_at hl 0 rfl) ?_
        refine lv_iload_n hx hb dX8_servedBy_24 rfl (lv_at hl 1 rfl) ?_
        refine lv_iload_n hx hb dX8_servedBy_25 rfl (lv_at hl 2 rfl) ?_
        refine lv_iload hx hb dX8_servedBy_26 (lv_at hl 4 rfl) ?_
        obtain ⟨q6, eq6, hf⟩ := bd_e hf
        refine zki hS (zrV (As := [.int x.1, .int x.2.1, .int x.2.2.2.1]) (rest := [.int x.2.2.1]) okM hx hb hml hown hts hk hP hS (t_X8_doesFit l v N x.1 x.2.1 x.2.2.2.1 x.2.2.2.2 _ eq6) vk_X8_doesFit ml_X8_342 rfl rfl ⟨(Nat.le_of_ble_eq_true rfl), (Nat.le_of_ble_eq_true rfl)⟩ (va_recv (q := (RX8, TX8, 55)) hk.1 hP (q0 := 0) (ci := 7) rfl rfl) rfl hl.1 rfl (Nat.le_of_ble_eq_true rfl) dX8_servedBy_28) (fun H locs hP hS => ?_)
        refine lv_if_eq (tgt := 44) hx hb dX8_servedBy_31 (by decide) (fun c7 => ?_) (fun c7 => ?_)
        · have hf := ite_t c7 hf
          exact wb44 h5 hh5 x.1 x.2.1 x.2.2.2.1 x.2.2.1 q6.2 hf _ _ _ hP hS (lv_sub hl [0, 1, 2, 4] rfl)
        · have hf := ite_f c7 hf
          refine lv_aload_n hx hb dX8_servedBy_34 rfl (lv_at hl 0 rfl) ?_
          refine va_get (D := zD v) (ci := 7) (v := .ref (zA v 4)) (C := RX8) (T := TX8) (N := 55) hx hb hts iX8 hown hk.1 hP 0 rfl rfl 10 (by decide) (hts _ fl_X8_32) (fun _ h9 => h9) rfl dX8_servedBy_35 ?_
          refine lv_iload hx hb dX8_servedBy_38 (lv_at hl 4 rfl) ?_
          obtain ⟨c8, hf⟩ := gd_e hf
          refine va_iald hx hb hk.1 hP 4 0 rfl rfl (inb_in c8) dX8_servedBy_40 ?_
          refine lv_goto (tgt := 45) hx hb dX8_servedBy_41 (by decide) ?_
          exact wb45 h5 hh5 x.1 x.2.1 x.2.2.2.1 (q6.2.1 4 (x.2.2.2.1).toNatClampNeg) x.2.2.1 q6.2 hf _ _ _ hP hS (lv_sub hl [0, 1, 2, 4] rfl)
  unfold x_X8_servedBy at hf
  refine lv_iconst (v := 0) hx hb dX8_servedBy_0 kI_0 ?_
  refine lv_istore_n (lv' := [(3, .int (0 : Int32)), (0, .ref (zA v 0)), (1, .int a1), (2, .int a2)]) hx hb dX8_servedBy_1 rfl hl (by decide) rfl (fun ls hl => ?_)
  refine lv_iconst (v := 0) hx hb dX8_servedBy_2 kI_0 ?_
  refine lv_istore (lv' := [(4, .int (0 : Int32)), (3, .int (0 : Int32)), (0, .ref (zA v 0)), (1, .int a1), (2, .int a2)]) hx hb dX8_servedBy_3 hl (by decide) rfl (fun ls hl => ?_)
  exact wL5 N (a1, a2, (0 : Int32), (0 : Int32), g) hf _ _ _ hP hS (lv_sub hl [2, 3, 4, 1, 0] rfl)
abbrev rm_X8_servedAll : Room := { frames := 5, cells := 0, slots := 0, locals := 157 }
set_option maxRecDepth 100000 in
theorem t_X8_servedAll (l : Launch) (v : Ev) (N : Nat) (g : SM) (res : Int32 × SM) (hf : x_X8_servedAll N g = some res) : Ci l yX8_servedAll cX8_servedAll 3 .int rm_X8_servedAll pM v [.ref (zA v 0)] g res := by
  refine ze_i (by decide +kernel) (Nat.le_of_ble_eq_true rfl) ?_
  intro p e s m args below meth c Q ls hcx hret hP hl
  obtain ⟨hx, hb, hml, hown, hts, hk⟩ := hcx
  have hown : s.vm.findClass RX8 = some m.cls := hown
  have hS : va_S (An nM v) s.heap s.heap [] := va_S.rf
  have hl : lv_has ls 3 [(0, .ref (zA v 0))] := hl
  have wb29 : ∀ (h4 : Int32 × Int32 × SM → Option (Int32 × SM)) (hh4 : ∀ x : Int32 × Int32 × SM, h4 x = some res → ∀ (H : Heap) (locs : List Loc) (ls : Array Slot), va_P (zD v) vwCl (pM.1 v x.2.2) H → va_S (An nM v) s.heap H locs → lv_has ls 3 [(0, .ref (zA v 0)), (1, .int x.1), (2, .int x.2.1)] → W p l e rm_X8_servedAll s m args below meth c H locs 0 0 Q (F0 m 4 ls [])) (y2 : Int32) (t0 : Int32) (t1 : Int32) (g : SM) (hf : x_X8_servedAll_b29 N h4 y2 t0 t1 g = some res) (H : Heap) (locs : List Loc) (ls : Array Slot) (hP : va_P (zD v) vwCl (pM.1 v g) H) (hS : va_S (An nM v) s.heap H locs) (hl : lv_has ls 3 [(0, .ref (zA v 0)), (2, .int y2)]), W p l e rm_X8_servedAll s m args below meth c H locs 0 0 Q (F0 m 29 ls [.int t0, .int t1]) := by
    intro h4 hh4 y2 t0 t1 g hf H locs ls hP hS hl
    unfold x_X8_servedAll_b29 at hf
    refine lv_iadd hx hb dX8_servedAll_29 ?_
    obtain ⟨x4, ex4, hf⟩ := lt_e hf
    refine lv_nm ex4 ?_
    refine lv_istore_n (lv' := [(1, .int x4), (0, .ref (zA v 0)), (2, .int y2)]) hx hb dX8_servedAll_30 rfl hl (by decide) rfl (fun ls hl => ?_)
    obtain ⟨x5, ex5, hf⟩ := lt_e hf
    refine lv_iinc (v := x5) (lv' := [(2, .int x5), (1, .int x4), (0, .ref (zA v 0))]) hx hb dX8_servedAll_31 hl (k := 2) rfl ((congrArg (fun z => y2 + z) kI_1).trans ex5.symm) (by decide) rfl (fun ls hl => ?_)
    refine lv_goto (tgt := 4) hx hb dX8_servedAll_34 (by decide) ?_
    exact hh4 (x4, x5, g) hf _ _ _ hP hS (lv_sub hl [2, 1, 0] rfl)
  have wL4 : ∀ (n : Nat) (x : Int32 × Int32 × SM), lp (x_X8_servedAll_B4 N) n x = some res → ∀ (H : Heap) (locs : List Loc) (ls : Array Slot), va_P (zD v) vwCl (pM.1 v x.2.2) H → va_S (An nM v) s.heap H locs → lv_has ls 3 [(0, .ref (zA v 0)), (1, .int x.1), (2, .int x.2.1)] → W p l e rm_X8_servedAll s m args below meth c H locs 0 0 Q (F0 m 4 ls []) := by
    refine lp_w (P := fun x : Int32 × Int32 × SM => ∀ (H : Heap) (locs : List Loc) (ls : Array Slot), va_P (zD v) vwCl (pM.1 v x.2.2) H → va_S (An nM v) s.heap H locs → lv_has ls 3 [(0, .ref (zA v 0)), (1, .int x.1), (2, .int x.2.1)] → W p l e rm_X8_servedAll s m args below meth c H locs 0 0 Q (F0 m 4 ls [])) ?_
    intro h4 hh4 x hf H locs ls hP hS hl
    unfold x_X8_servedAll_B4 at hf
    refine lv_iload_n hx hb dX8_servedAll_4 rfl (lv_at hl 2 rfl) ?_
    refine lv_bipush (v := 100) hx hb dX8_servedAll_5 kB_100 ?_
    refine lv_icmp_ge (tgt := 37) hx hb dX8_servedAll_7 (by decide) (fun c1 => ?_) (fun c1 => ?_)
    · have hf := ite_t c1 hf
      refine lv_iload_n hx hb dX8_servedAll_37 rfl (lv_at hl 1 rfl) ?_
      exact hret _ _ _ _ _ _ (Or.inl rfl) (Option.some.inj hf) hP hS dX8_servedAll_38
    · have hf := ite_f c1 hf
      refine lv_iload_n hx hb dX8_servedAll_10 rfl (lv_at hl 1 rfl) ?_
      refine lv_aload_n hx hb dX8_servedAll_11 rfl (lv_at hl 0 rfl) ?_
      refine lv_iload_n hx hb dX8_servedAll_12 rfl (lv_at hl 2 rfl) ?_
      obtain ⟨q2, eq2, hf⟩ := bd_e hf
      refine zki hS (zrV (As := [.int x.2.1]) (rest := [.int x.1]) okM hx hb hml hown hts hk hP hS (t_X8_isServed l v N x.2.1 x.2.2 _ eq2) vk_X8_isServed ml_X8_345 rfl rfl ⟨(Nat.le_of_ble_eq_true rfl), (Nat.le_of_ble_eq_true rfl)⟩ (va_recv (q := (RX8, TX8, 55)) hk.1 hP (q0 := 0) (ci := 7) rfl rfl) rfl hl.1 rfl (Nat.le_of_ble_eq_true rfl) dX8_servedAll_13) (fun H locs hP hS => ?_)
      refine lv_if_eq (tgt := 28) hx hb dX8_servedAll_16 (by decide) (fun c3 => ?_) (fun c3 => ?_)
      · have hf := ite_t c3 hf
        refine lv_iconst (v := 0) hx hb dX8_servedAll_28 kI_0 ?_
        exact wb29 h4 hh4 x.2.1 (0 : Int32) x.1 q2.2 hf _ _ _ hP hS (lv_sub hl [0, 2] rfl)
      · have hf := ite_f c3 hf
        refine lv_aload_n hx hb dX8_servedAll_19 rfl (lv_at hl 0 rfl) ?_
        refine va_get (D := zD v) (ci := 7) (v := .ref (zA v 4)) (C := RX8) (T := TX8) (N := 55) hx hb hts iX8 hown hk.1 hP 0 rfl rfl 10 (by decide) (hts _ fl_X8_32) (fun _ h9 => h9) rfl dX8_servedAll_20 ?_
        refine lv_iload_n hx hb dX8_servedAll_23 rfl (lv_at hl 2 rfl) ?_
        obtain ⟨c6, hf⟩ := gd_e hf
        refine va_iald hx hb hk.1 hP 4 0 rfl rfl (inb_in c6) dX8_servedAll_24 ?_
        refine lv_goto (tgt := 29) hx hb dX8_servedAll_25 (by decide) ?_
        exact wb29 h4 hh4 x.2.1 (q2.2.1 4 (x.2.1).toNatClampNeg) x.1 q2.2 hf _ _ _ hP hS (lv_sub hl [0, 2] rfl)
  unfold x_X8_servedAll at hf
  refine lv_iconst (v := 0) hx hb dX8_servedAll_0 kI_0 ?_
  refine lv_istore_n (lv' := [(1, .int (0 : Int32)), (0, .ref (zA v 0))]) hx hb dX8_servedAll_1 rfl hl (by decide) rfl (fun ls hl => ?_)
  refine lv_iconst (v := 0) hx hb dX8_servedAll_2 kI_0 ?_
  refine lv_istore_n (lv' := [(2, .int (0 : Int32)), (1, .int (0 : Int32)), (0, .ref (zA v 0))]) hx hb dX8_servedAll_3 rfl hl (by decide) rfl (fun ls hl => ?_)
  exact wL4 N ((0 : Int32), (0 : Int32), g) hf _ _ _ hP hS (lv_sub hl [2, 1, 0] rfl)
abbrev rm_X8_townAll : Room := { frames := 1, cells := 0, slots := 0, locals := 60 }
set_option maxRecDepth 100000 in
theorem t_X8_townAll (l : Launch) (v : Ev) (N : Nat) (g : SM) (res : Int32 × SM) (hf : x_X8_townAll N g = some res) : Ci l yX8_townAll cX8_townAll 3 .int rm_X8_townAll pM v [.ref (zA v 0)] g res := by
  refine ze_i (by decide +kernel) (Nat.le_of_ble_eq_true rfl) ?_
  intro p e s m args below meth c Q ls hcx hret hP hl
  obtain ⟨hx, hb, hml, hown, hts, hk⟩ := hcx
  have hown : s.vm.findClass RX8 = some m.cls := hown
  have hS : va_S (An nM v) s.heap s.heap [] := va_S.rf
  have hl : lv_has ls 3 [(0, .ref (zA v 0))] := hl
  have wL4 : ∀ (n : Nat) (x : Int32 × Int32 × SM), lp (x_X8_townAll_B4 N) n x = some res → ∀ (H : Heap) (locs : List Loc) (ls : Array Slot), va_P (zD v) vwCl (pM.1 v x.2.2) H → va_S (An nM v) s.heap H locs → lv_has ls 3 [(0, .ref (zA v 0)), (1, .int x.1), (2, .int x.2.1)] → W p l e rm_X8_townAll s m args below meth c H locs 0 0 Q (F0 m 4 ls []) := by
    refine lp_w (P := fun x : Int32 × Int32 × SM => ∀ (H : Heap) (locs : List Loc) (ls : Array Slot), va_P (zD v) vwCl (pM.1 v x.2.2) H → va_S (An nM v) s.heap H locs → lv_has ls 3 [(0, .ref (zA v 0)), (1, .int x.1), (2, .int x.2.1)] → W p l e rm_X8_townAll s m args below meth c H locs 0 0 Q (F0 m 4 ls [])) ?_
    intro h4 hh4 x hf H locs ls hP hS hl
    unfold x_X8_townAll_B4 at hf
    refine lv_iload_n hx hb dX8_townAll_4 rfl (lv_at hl 2 rfl) ?_
    refine lv_bipush (v := 100) hx hb dX8_townAll_5 kB_100 ?_
    refine lv_icmp_ge (tgt := 25) hx hb dX8_townAll_7 (by decide) (fun c1 => ?_) (fun c1 => ?_)
    · have hf := ite_t c1 hf
      refine lv_iload_n hx hb dX8_townAll_25 rfl (lv_at hl 1 rfl) ?_
      exact hret _ _ _ _ _ _ (Or.inl rfl) (Option.some.inj hf) hP hS dX8_townAll_26
    · have hf := ite_f c1 hf
      refine lv_iload_n hx hb dX8_townAll_10 rfl (lv_at hl 1 rfl) ?_
      refine lv_aload_n hx hb dX8_townAll_11 rfl (lv_at hl 0 rfl) ?_
      refine va_get (D := zD v) (ci := 7) (v := .ref (zA v 4)) (C := RX8) (T := TX8) (N := 55) hx hb hts iX8 hown hk.1 hP 0 rfl rfl 10 (by decide) (hts _ fl_X8_32) (fun _ h9 => h9) rfl dX8_townAll_12 ?_
      refine lv_iload_n hx hb dX8_townAll_15 rfl (lv_at hl 2 rfl) ?_
      obtain ⟨c2, hf⟩ := gd_e hf
      refine va_iald hx hb hk.1 hP 4 0 rfl rfl (inb_in c2) dX8_townAll_16 ?_
      refine lv_iadd hx hb dX8_townAll_17 ?_
      obtain ⟨x3, ex3, hf⟩ := lt_e hf
      refine lv_nm ex3 ?_
      refine lv_istore_n (lv' := [(1, .int x3), (0, .ref (zA v 0)), (2, .int x.2.1)]) hx hb dX8_townAll_18 rfl hl (by decide) rfl (fun ls hl => ?_)
      obtain ⟨x4, ex4, hf⟩ := lt_e hf
      refine lv_iinc (v := x4) (lv' := [(2, .int x4), (1, .int x3), (0, .ref (zA v 0))]) hx hb dX8_townAll_19 hl (k := 2) rfl ((congrArg (fun z => x.2.1 + z) kI_1).trans ex4.symm) (by decide) rfl (fun ls hl => ?_)
      refine lv_goto (tgt := 4) hx hb dX8_townAll_22 (by decide) ?_
      exact hh4 (x3, x4, x.2.2) hf _ _ _ hP hS (lv_sub hl [2, 1, 0] rfl)
  unfold x_X8_townAll at hf
  refine lv_iconst (v := 0) hx hb dX8_townAll_0 kI_0 ?_
  refine lv_istore_n (lv' := [(1, .int (0 : Int32)), (0, .ref (zA v 0))]) hx hb dX8_townAll_1 rfl hl (by decide) rfl (fun ls hl => ?_)
  refine lv_iconst (v := 0) hx hb dX8_townAll_2 kI_0 ?_
  refine lv_istore_n (lv' := [(2, .int (0 : Int32)), (1, .int (0 : Int32)), (0, .ref (zA v 0))]) hx hb dX8_townAll_3 rfl hl (by decide) rfl (fun ls hl => ?_)
  exact wL4 N ((0 : Int32), (0 : Int32), g) hf _ _ _ hP hS (lv_sub hl [2, 1, 0] rfl)
abbrev rm_X8_served : Room := { frames := 6, cells := 0, slots := 0, locals := 179 }
set_option maxRecDepth 100000 in
theorem t_X8_served (l : Launch) (v : Ev) (N : Nat) (a1 : Int32) (g : SM) (res : Int32 × SM) (hf : x_X8_served N a1 g = some res) : Ci l yX8_served cX8_served 2 .int rm_X8_served pM v [.ref (zA v 0), .int a1] g res := by
  refine ze_i (by decide +kernel) (Nat.le_of_ble_eq_true rfl) ?_
  intro p e s m args below meth c Q ls hcx hret hP hl
  obtain ⟨hx, hb, hml, hown, hts, hk⟩ := hcx
  have hown : s.vm.findClass RX8 = some m.cls := hown
  have hS : va_S (An nM v) s.heap s.heap [] := va_S.rf
  have hl : lv_has ls 2 [(0, .ref (zA v 0)), (1, .int a1)] := hl
  have wb16 : ∀ (y1 : Int32) (g : SM) (hf : x_X8_served_b16 N y1 g = some res) (H : Heap) (locs : List Loc) (ls : Array Slot) (hP : va_P (zD v) vwCl (pM.1 v g) H) (hS : va_S (An nM v) s.heap H locs) (hl : lv_has ls 2 [(0, .ref (zA v 0)), (1, .int y1)]), W p l e rm_X8_served s m args below meth c H locs 0 0 Q (F0 m 16 ls []) := by
    intro y1 g hf H locs ls hP hS hl
    unfold x_X8_served_b16 at hf
    refine lv_iload_n hx hb dX8_served_16 rfl (lv_at hl 1 rfl) ?_
    refine lv_iconst (v := -1) hx hb dX8_served_17 kI_m1 ?_
    refine lv_icmp_ne (tgt := 28) hx hb dX8_served_18 (by decide) (fun c2 => ?_) (fun c2 => ?_)
    · have hf := ite_f c2 hf
      refine lv_aload_n hx hb dX8_served_28 rfl (lv_at hl 0 rfl) ?_
      refine lv_iload_n hx hb dX8_served_29 rfl (lv_at hl 1 rfl) ?_
      refine lv_aload_n hx hb dX8_served_30 rfl (lv_at hl 0 rfl) ?_
      refine va_get (D := zD v) (ci := 7) (v := .ref (zA v 8)) (C := RX8) (T := TX8) (N := 55) hx hb hts iX8 hown hk.1 hP 0 rfl rfl 14 (by decide) (hts _ fl_X8_44) (fun _ h9 => h9) rfl dX8_served_31 ?_
      refine lv_iload_n hx hb dX8_served_34 rfl (lv_at hl 1 rfl) ?_
      obtain ⟨c3, hf⟩ := gd_e hf
      refine va_iald hx hb hk.1 hP 8 0 rfl rfl (inb_in c3) dX8_served_35 ?_
      obtain ⟨q4, eq4, hf⟩ := bd_e hf
      refine zki hS (zrV (As := [.int y1, .int (g.1 8 (y1).toNatClampNeg)]) (rest := []) okM hx hb hml hown hts hk hP hS (t_X8_servedBy l v N y1 (g.1 8 (y1).toNatClampNeg) g _ eq4) vk_X8_servedBy ml_X8_351 rfl rfl ⟨(Nat.le_of_ble_eq_true rfl), (Nat.le_of_ble_eq_true rfl)⟩ (va_recv (q := (RX8, TX8, 55)) hk.1 hP (q0 := 0) (ci := 7) rfl rfl) rfl hl.1 rfl (Nat.le_of_ble_eq_true rfl) dX8_served_36) (fun H locs hP hS => ?_)
      exact hret _ _ _ _ _ _ (Or.inl rfl) (Option.some.inj hf) hP hS dX8_served_39
    · have hf := ite_t c2 hf
      refine lv_aload_n hx hb dX8_served_21 rfl (lv_at hl 0 rfl) ?_
      obtain ⟨q5, eq5, hf⟩ := bd_e hf
      refine zki hS (zrV (As := []) (rest := []) okM hx hb hml hown hts hk hP hS (t_X8_servedAll l v N g _ eq5) vk_X8_servedAll ml_X8_348 rfl rfl ⟨(Nat.le_of_ble_eq_true rfl), (Nat.le_of_ble_eq_true rfl)⟩ (va_recv (q := (RX8, TX8, 55)) hk.1 hP (q0 := 0) (ci := 7) rfl rfl) rfl hl.1 rfl (Nat.le_of_ble_eq_true rfl) dX8_served_22) (fun H locs hP hS => ?_)
      refine lv_goto (tgt := 39) hx hb dX8_served_25 (by decide) ?_
      exact hret _ _ _ _ _ _ (Or.inl rfl) (Option.some.inj hf) hP hS dX8_served_39
  unfold x_X8_served at hf
  refine lv_iload_n hx hb dX8_served_0 rfl (lv_at hl 1 rfl) ?_
  refine lv_iconst (v := -1) hx hb dX8_served_1 kI_m1 ?_
  refine lv_icmp_eq (tgt := 16) hx hb dX8_served_2 (by decide) (fun c1 => ?_) (fun c1 => ?_)
  · have hf := ite_t c1 hf
    exact wb16 a1 g hf _ _ _ hP hS (lv_sub hl [0, 1] rfl)
  · have hf := ite_f c1 hf
    refine lv_aload_n hx hb dX8_served_5 rfl (lv_at hl 0 rfl) ?_
    refine lv_iload_n hx hb dX8_served_6 rfl (lv_at hl 1 rfl) ?_
    obtain ⟨q6, eq6, hf⟩ := bd_e hf
    refine zki hS (zrV (As := [.int a1]) (rest := []) okM hx hb hml hown hts hk hP hS (t_X8_isMake l v N a1 g _ eq6) vk_X8_isMake ml_X8_112 rfl rfl ⟨(Nat.le_of_ble_eq_true rfl), (Nat.le_of_ble_eq_true rfl)⟩ (va_recv (q := (RX8, TX8, 55)) hk.1 hP (q0 := 0) (ci := 7) rfl rfl) rfl hl.1 rfl (Nat.le_of_ble_eq_true rfl) dX8_served_7) (fun H locs hP hS => ?_)
    refine lv_if_ne (tgt := 16) hx hb dX8_served_10 (by decide) (fun c7 => ?_) (fun c7 => ?_)
    · have hf := ite_f c7 hf
      exact wb16 a1 q6.2 hf _ _ _ hP hS (lv_sub hl [0, 1] rfl)
    · have hf := ite_t c7 hf
      refine lv_bipush (v := -2) hx hb dX8_served_13 kB_m2 ?_
      exact hret _ _ _ _ _ _ (Or.inl rfl) (Option.some.inj hf) hP hS dX8_served_15
abbrev rm_X8_lowest : Room := { frames := 1, cells := 0, slots := 0, locals := 60 }
set_option maxRecDepth 100000 in
theorem t_X8_lowest (l : Launch) (v : Ev) (N : Nat) (a0 : Int32) (g : SM) (res : Int32 × SM) (hf : x_X8_lowest N a0 g = some res) : Ci l yX8_lowest cX8_lowest 2 .int rm_X8_lowest pM v [.int a0] g res := by
  refine ze_i (by decide +kernel) (Nat.le_of_ble_eq_true rfl) ?_
  intro p e s m args below meth c Q ls hcx hret hP hl
  obtain ⟨hx, hb, hml, hown, hts, hk⟩ := hcx
  have hown : s.vm.findClass RX8 = some m.cls := hown
  have hS : va_S (An nM v) s.heap s.heap [] := va_S.rf
  have hl : lv_has ls 2 [(0, .int a0)] := hl
  have wL2 : ∀ (n : Nat) (x : Int32 × Int32 × SM), lp (x_X8_lowest_B2 N) n x = some res → ∀ (H : Heap) (locs : List Loc) (ls : Array Slot), va_P (zD v) vwCl (pM.1 v x.2.2) H → va_S (An nM v) s.heap H locs → lv_has ls 2 [(0, .int x.1), (1, .int x.2.1)] → W p l e rm_X8_lowest s m args below meth c H locs 0 0 Q (F0 m 2 ls []) := by
    refine lp_w (P := fun x : Int32 × Int32 × SM => ∀ (H : Heap) (locs : List Loc) (ls : Array Slot), va_P (zD v) vwCl (pM.1 v x.2.2) H → va_S (An nM v) s.heap H locs → lv_has ls 2 [(0, .int x.1), (1, .int x.2.1)] → W p l e rm_X8_lowest s m args below meth c H locs 0 0 Q (F0 m 2 ls [])) ?_
    intro h2 hh2 x hf H locs ls hP hS hl
    unfold x_X8_lowest_B2 at hf
    refine lv_iload_n hx hb dX8_lowest_2 rfl (lv_at hl 0 rfl) ?_
    refine lv_iload_n hx hb dX8_lowest_3 rfl (lv_at hl 1 rfl) ?_
    refine lv_ishr hx hb dX8_lowest_4 ?_
    refine lv_iconst (v := 1) hx hb dX8_lowest_5 kI_1 ?_
    refine lv_iand hx hb dX8_lowest_6 ?_
    refine lv_if_ne (tgt := 16) hx hb dX8_lowest_7 (by decide) (fun c1 => ?_) (fun c1 => ?_)
    · have hf := ite_f c1 hf
      refine lv_iload_n hx hb dX8_lowest_16 rfl (lv_at hl 1 rfl) ?_
      exact hret _ _ _ _ _ _ (Or.inl rfl) (Option.some.inj hf) hP hS dX8_lowest_17
    · have hf := ite_t c1 hf
      obtain ⟨x2, ex2, hf⟩ := lt_e hf
      refine lv_iinc (v := x2) (lv' := [(1, .int x2), (0, .int x.1)]) hx hb dX8_lowest_10 hl (k := 1) rfl ((congrArg (fun z => x.2.1 + z) kI_1).trans ex2.symm) (by decide) rfl (fun ls hl => ?_)
      refine lv_goto (tgt := 2) hx hb dX8_lowest_13 (by decide) ?_
      exact hh2 (x.1, x2, x.2.2) hf _ _ _ hP hS (lv_sub hl [1, 0] rfl)
  unfold x_X8_lowest at hf
  refine lv_iconst (v := 0) hx hb dX8_lowest_0 kI_0 ?_
  refine lv_istore_n (lv' := [(1, .int (0 : Int32)), (0, .int a0)]) hx hb dX8_lowest_1 rfl hl (by decide) rfl (fun ls hl => ?_)
  exact wL2 N (a0, (0 : Int32), g) hf _ _ _ hP hS (lv_sub hl [1, 0] rfl)
abbrev rm_X8_servedBySizes : Room := { frames := 2, cells := 0, slots := 0, locals := 81 }
set_option maxRecDepth 100000 in
theorem t_X8_servedBySizes (l : Launch) (v : Ev) (N : Nat) (a1 : Int32) (g : SM) (res : Int32 × SM) (hf : x_X8_servedBySizes N a1 g = some res) : Ci l yX8_servedBySizes cX8_servedBySizes 6 .int rm_X8_servedBySizes pM v [.ref (zA v 0), .int a1] g res := by
  refine ze_i (by decide +kernel) (Nat.le_of_ble_eq_true rfl) ?_
  intro p e s m args below meth c Q ls hcx hret hP hl
  obtain ⟨hx, hb, hml, hown, hts, hk⟩ := hcx
  have hown : s.vm.findClass RX8 = some m.cls := hown
  have hS : va_S (An nM v) s.heap s.heap [] := va_S.rf
  have hl : lv_has ls 6 [(0, .ref (zA v 0)), (1, .int a1)] := hl
  have wb79 : ∀ (h4 : Int32 × Int32 × Int32 × SM → Option (Int32 × SM)) (hh4 : ∀ x : Int32 × Int32 × Int32 × SM, h4 x = some res → ∀ (H : Heap) (locs : List Loc) (ls : Array Slot), va_P (zD v) vwCl (pM.1 v x.2.2.2) H → va_S (An nM v) s.heap H locs → lv_has ls 6 [(0, .ref (zA v 0)), (1, .int x.1), (2, .int x.2.1), (3, .int x.2.2.1)] → W p l e rm_X8_servedBySizes s m args below meth c H locs 0 0 Q (F0 m 4 ls [])) (y1 : Int32) (y3 : Int32) (t0 : Int32) (t1 : Int32) (g : SM) (hf : x_X8_servedBySizes_b79 N h4 y1 y3 t0 t1 g = some res) (H : Heap) (locs : List Loc) (ls : Array Slot) (hP : va_P (zD v) vwCl (pM.1 v g) H) (hS : va_S (An nM v) s.heap H locs) (hl : lv_has ls 6 [(0, .ref (zA v 0)), (1, .int y1), (3, .int y3)]), W p l e rm_X8_servedBySizes s m args below meth c H locs 0 0 Q (F0 m 79 ls [.int t0, .int t1]) := by
    intro h4 hh4 y1 y3 t0 t1 g hf H locs ls hP hS hl
    unfold x_X8_servedBySizes_b79 at hf
    refine lv_iadd hx hb dX8_servedBySizes_79 ?_
    obtain ⟨x4, ex4, hf⟩ := lt_e hf
    refine lv_nm ex4 ?_
    refine lv_istore_n (lv' := [(2, .int x4), (0, .ref (zA v 0)), (1, .int y1), (3, .int y3)]) hx hb dX8_servedBySizes_80 rfl hl (by decide) rfl (fun ls hl => ?_)
    obtain ⟨x5, ex5, hf⟩ := lt_e hf
    refine lv_iinc (v := x5) (lv' := [(3, .int x5), (2, .int x4), (0, .ref (zA v 0)), (1, .int y1)]) hx hb dX8_servedBySizes_81 hl (k := 3) rfl ((congrArg (fun z => y3 + z) kI_1).trans ex5.symm) (by decide) rfl (fun ls hl => ?_)
    refine lv_goto (tgt := 4) hx hb dX8_servedBySizes_84 (by decide) ?_
    exact hh4 (y1, x4, x5, g) hf _ _ _ hP hS (lv_sub hl [2, 3, 1, 0] rfl)
  have wb49 : ∀ (h4 : Int32 × Int32 × Int32 × SM → Option (Int32 × SM)) (hh4 : ∀ x : Int32 × Int32 × Int32 × SM, h4 x = some res → ∀ (H : Heap) (locs : List Loc) (ls : Array Slot), va_P (zD v) vwCl (pM.1 v x.2.2.2) H → va_S (An nM v) s.heap H locs → lv_has ls 6 [(0, .ref (zA v 0)), (1, .int x.1), (2, .int x.2.1), (3, .int x.2.2.1)] → W p l e rm_X8_servedBySizes s m args below meth c H locs 0 0 Q (F0 m 4 ls [])) (h16 : Int32 × Int32 × Int32 × Int32 × Int32 × SM → Option (Int32 × SM)) (hh16 : ∀ x : Int32 × Int32 × Int32 × Int32 × Int32 × SM, h16 x = some res → ∀ (H : Heap) (locs : List Loc) (ls : Array Slot), va_P (zD v) vwCl (pM.1 v x.2.2.2.2.2) H → va_S (An nM v) s.heap H locs → lv_has ls 6 [(0, .ref (zA v 0)), (1, .int x.1), (2, .int x.2.1), (3, .int x.2.2.1), (4, .int x.2.2.2.1), (5, .int x.2.2.2.2.1)] → W p l e rm_X8_servedBySizes s m args below meth c H locs 0 0 Q (F0 m 16 ls [])) (y1 : Int32) (y2 : Int32) (y3 : Int32) (y5 : Int32) (t0 : Int32) (g : SM) (hf : x_X8_servedBySizes_b49 N h4 h16 y1 y2 y3 y5 t0 g = some res) (H : Heap) (locs : List Loc) (ls : Array Slot) (hP : va_P (zD v) vwCl (pM.1 v g) H) (hS : va_S (An nM v) s.heap H locs) (hl : lv_has ls 6 [(0, .ref (zA v 0)), (1, .int y1), (2, .int y2), (3, .int y3), (5, .int y5)]), W p l e rm_X8_servedBySizes s m args below meth c H locs 0 0 Q (F0 m 49 ls [.int t0]) := by
    intro h4 hh4 h16 hh16 y1 y2 y3 y5 t0 g hf H locs ls hP hS hl
    unfold x_X8_servedBySizes_b49 at hf
    refine lv_istore (lv' := [(4, .int t0), (0, .ref (zA v 0)), (1, .int y1), (2, .int y2), (3, .int y3), (5, .int y5)]) hx hb dX8_servedBySizes_49 hl (by decide) rfl (fun ls hl => ?_)
    refine lv_iload hx hb dX8_servedBySizes_51 (lv_at hl 5 rfl) ?_
    refine lv_iload hx hb dX8_servedBySizes_53 (lv_at hl 5 rfl) ?_
    refine lv_iconst (v := 1) hx hb dX8_servedBySizes_55 kI_1 ?_
    refine lv_isub hx hb dX8_servedBySizes_56 ?_
    refine lv_iand hx hb dX8_servedBySizes_57 ?_
    obtain ⟨x8, ex8, hf⟩ := lt_e hf
    refine lv_nm ex8 ?_
    refine lv_istore (lv' := [(5, .int x8), (4, .int t0), (0, .ref (zA v 0)), (1, .int y1), (2, .int y2), (3, .int y3)]) hx hb dX8_servedBySizes_58 hl (by decide) rfl (fun ls hl => ?_)
    refine lv_goto (tgt := 16) hx hb dX8_servedBySizes_60 (by decide) ?_
    exact hh16 (y1, y2, y3, t0, x8, g) hf _ _ _ hP hS (lv_sub hl [2, 3, 4, 5, 1, 0] rfl)
  have wb44 : ∀ (h4 : Int32 × Int32 × Int32 × SM → Option (Int32 × SM)) (hh4 : ∀ x : Int32 × Int32 × Int32 × SM, h4 x = some res → ∀ (H : Heap) (locs : List Loc) (ls : Array Slot), va_P (zD v) vwCl (pM.1 v x.2.2.2) H → va_S (An nM v) s.heap H locs → lv_has ls 6 [(0, .ref (zA v 0)), (1, .int x.1), (2, .int x.2.1), (3, .int x.2.2.1)] → W p l e rm_X8_servedBySizes s m args below meth c H locs 0 0 Q (F0 m 4 ls [])) (h16 : Int32 × Int32 × Int32 × Int32 × Int32 × SM → Option (Int32 × SM)) (hh16 : ∀ x : Int32 × Int32 × Int32 × Int32 × Int32 × SM, h16 x = some res → ∀ (H : Heap) (locs : List Loc) (ls : Array Slot), va_P (zD v) vwCl (pM.1 v x.2.2.2.2.2) H → va_S (An nM v) s.heap H locs → lv_has ls 6 [(0, .ref (zA v 0)), (1, .int x.1), (2, .int x.2.1), (3, .int x.2.2.1), (4, .int x.2.2.2.1), (5, .int x.2.2.2.2.1)] → W p l e rm_X8_servedBySizes s m args below meth c H locs 0 0 Q (F0 m 16 ls [])) (y1 : Int32) (y2 : Int32) (y3 : Int32) (y5 : Int32) (g : SM) (hf : x_X8_servedBySizes_b44 N h4 h16 y1 y2 y3 y5 g = some res) (H : Heap) (locs : List Loc) (ls : Array Slot) (hP : va_P (zD v) vwCl (pM.1 v g) H) (hS : va_S (An nM v) s.heap H locs) (hl : lv_has ls 6 [(0, .ref (zA v 0)), (1, .int y1), (2, .int y2), (3, .int y3), (5, .int y5)]), W p l e rm_X8_servedBySizes s m args below meth c H locs 0 0 Q (F0 m 44 ls []) := by
    intro h4 hh4 h16 hh16 y1 y2 y3 y5 g hf H locs ls hP hS hl
    unfold x_X8_servedBySizes_b44 at hf
    refine lv_iconst (v := 1) hx hb dX8_servedBySizes_44 kI_1 ?_
    refine lv_goto (tgt := 49) hx hb dX8_servedBySizes_45 (by decide) ?_
    exact wb49 h4 hh4 h16 hh16 y1 y2 y3 y5 (1 : Int32) g hf _ _ _ hP hS (lv_sub hl [0, 1, 2, 3, 4] rfl)
  have wL16 : ∀ (h4 : Int32 × Int32 × Int32 × SM → Option (Int32 × SM)) (hh4 : ∀ x : Int32 × Int32 × Int32 × SM, h4 x = some res → ∀ (H : Heap) (locs : List Loc) (ls : Array Slot), va_P (zD v) vwCl (pM.1 v x.2.2.2) H → va_S (An nM v) s.heap H locs → lv_has ls 6 [(0, .ref (zA v 0)), (1, .int x.1), (2, .int x.2.1), (3, .int x.2.2.1)] → W p l e rm_X8_servedBySizes s m args below meth c H locs 0 0 Q (F0 m 4 ls [])) (n : Nat) (x : Int32 × Int32 × Int32 × Int32 × Int32 × SM), lp (x_X8_servedBySizes_B16 N h4) n x = some res → ∀ (H : Heap) (locs : List Loc) (ls : Array Slot), va_P (zD v) vwCl (pM.1 v x.2.2.2.2.2) H → va_S (An nM v) s.heap H locs → lv_has ls 6 [(0, .ref (zA v 0)), (1, .int x.1), (2, .int x.2.1), (3, .int x.2.2.1), (4, .int x.2.2.2.1), (5, .int x.2.2.2.2.1)] → W p l e rm_X8_servedBySizes s m args below meth c H locs 0 0 Q (F0 m 16 ls []) := by
    intro h4 hh4
    refine lp_w (P := fun x : Int32 × Int32 × Int32 × Int32 × Int32 × SM => ∀ (H : Heap) (locs : List Loc) (ls : Array Slot), va_P (zD v) vwCl (pM.1 v x.2.2.2.2.2) H → va_S (An nM v) s.heap H locs → lv_has ls 6 [(0, .ref (zA v 0)), (1, .int x.1), (2, .int x.2.1), (3, .int x.2.2.1), (4, .int x.2.2.2.1), (5, .int x.2.2.2.2.1)] → W p l e rm_X8_servedBySizes s m args below meth c H locs 0 0 Q (F0 m 16 ls [])) ?_
    intro h16 hh16 x hf H locs ls hP hS hl
    unfold x_X8_servedBySizes_B16 at hf
    refine lv_iload hx hb dX8_servedBySizes_16 (lv_at hl 5 rfl) ?_
    refine lv_if_eq (tgt := 63) hx hb dX8_servedBySizes_18 (by decide) (fun c2 => ?_) (fun c2 => ?_)
    · have hf := ite_t c2 hf
      refine lv_iload_n hx hb dX8_servedBySizes_63 rfl (lv_at hl 2 rfl) ?_
      refine lv_iload hx hb dX8_servedBySizes_64 (lv_at hl 4 rfl) ?_
      refine lv_if_eq (tgt := 78) hx hb dX8_servedBySizes_66 (by decide) (fun c3 => ?_) (fun c3 => ?_)
      · have hf := ite_t c3 hf
        refine lv_iconst (v := 0) hx hb dX8_servedBySizes_78 kI_0 ?_
        exact wb79 h4 hh4 x.1 x.2.2.1 (0 : Int32) x.2.1 x.2.2.2.2.2 hf _ _ _ hP hS (lv_sub hl [0, 1, 3] rfl)
      · have hf := ite_f c3 hf
        refine lv_aload_n hx hb dX8_servedBySizes_69 rfl (lv_at hl 0 rfl) ?_
        refine va_get (D := zD v) (ci := 7) (v := .ref (zA v 4)) (C := RX8) (T := TX8) (N := 55) hx hb hts iX8 hown hk.1 hP 0 rfl rfl 10 (by decide) (hts _ fl_X8_32) (fun _ h9 => h9) rfl dX8_servedBySizes_70 ?_
        refine lv_iload_n hx hb dX8_servedBySizes_73 rfl (lv_at hl 3 rfl) ?_
        obtain ⟨c6, hf⟩ := gd_e hf
        refine va_iald hx hb hk.1 hP 4 0 rfl rfl (inb_in c6) dX8_servedBySizes_74 ?_
        refine lv_goto (tgt := 79) hx hb dX8_servedBySizes_75 (by decide) ?_
        exact wb79 h4 hh4 x.1 x.2.2.1 (x.2.2.2.2.2.1 4 (x.2.2.1).toNatClampNeg) x.2.1 x.2.2.2.2.2 hf _ _ _ hP hS (lv_sub hl [0, 1, 3] rfl)
    · have hf := ite_f c2 hf
      refine lv_iload hx hb dX8_servedBySizes_21 (lv_at hl 4 rfl) ?_
      refine lv_if_ne (tgt := 44) hx hb dX8_servedBySizes_23 (by decide) (fun c7 => ?_) (fun c7 => ?_)
      · have hf := ite_f c7 hf
        exact wb44 h4 hh4 h16 hh16 x.1 x.2.1 x.2.2.1 x.2.2.2.2.1 x.2.2.2.2.2 hf _ _ _ hP hS (lv_sub hl [0, 1, 2, 3, 5] rfl)
      · have hf := ite_t c7 hf
        refine lv_aload_n hx hb dX8_servedBySizes_26 rfl (lv_at hl 0 rfl) ?_
        refine va_get (D := zD v) (ci := 7) (v := .ref (zA v 14)) (C := RX8) (T := TX8) (N := 55) hx hb hts iX8 hown hk.1 hP 0 rfl rfl 39 (by decide) (hts _ fl_X8_63) (fun _ h9 => h9) rfl dX8_servedBySizes_27 ?_
        refine lv_bipush (v := 100) hx hb dX8_servedBySizes_30 kB_100 ?_
        refine lv_iload hx hb dX8_servedBySizes_32 (lv_at hl 5 rfl) ?_
        obtain ⟨q9, eq9, hf⟩ := bd_e hf
        refine zki hS (zrS (As := [.int x.2.2.2.2.1]) (rest := [.int (100 : Int32), .ref (zA v 14)]) okM hx hb hml hown hts hk hP hS (t_X8_lowest l v N x.2.2.2.2.1 x.2.2.2.2.2 _ eq9) sk_X8_lowest ml_X8_354 rfl rfl ⟨(Nat.le_of_ble_eq_true rfl), (Nat.le_of_ble_eq_true rfl)⟩ rfl hl.1 rfl (Nat.le_of_ble_eq_true rfl) dX8_servedBySizes_34) (fun H locs hP hS => ?_)
        refine lv_imul hx hb dX8_servedBySizes_37 ?_
        refine lv_iload_n hx hb dX8_servedBySizes_38 rfl (lv_at hl 3 rfl) ?_
        refine lv_iadd hx hb dX8_servedBySizes_39 ?_
        obtain ⟨c10, hf⟩ := gd_e hf
        refine va_zald hx hb hk.1 hP 14 1 rfl rfl (inb_in c10) dX8_servedBySizes_40 ?_
        refine lv_if_eq (tgt := 48) hx hb dX8_servedBySizes_41 (by decide) (fun c11 => ?_) (fun c11 => ?_)
        · have hf := ite_t c11 hf
          refine lv_iconst (v := 0) hx hb dX8_servedBySizes_48 kI_0 ?_
          exact wb49 h4 hh4 h16 hh16 x.1 x.2.1 x.2.2.1 x.2.2.2.2.1 (0 : Int32) q9.2 hf _ _ _ hP hS (lv_sub hl [0, 1, 2, 3, 5] rfl)
        · have hf := ite_f c11 hf
          exact wb44 h4 hh4 h16 hh16 x.1 x.2.1 x.2.2.1 x.2.2.2.2.1 q9.2 hf _ _ _ hP hS (lv_sub hl [0, 1, 2, 3, 5] rfl)
  have wL4 : ∀ (n : Nat) (x : Int32 × Int32 × Int32 × SM), lp (x_X8_servedBySizes_B4 N) n x = some res → ∀ (H : Heap) (locs : List Loc) (ls : Array Slot), va_P (zD v) vwCl (pM.1 v x.2.2.2) H → va_S (An nM v) s.heap H locs → lv_has ls 6 [(0, .ref (zA v 0)), (1, .int x.1), (2, .int x.2.1), (3, .int x.2.2.1)] → W p l e rm_X8_servedBySizes s m args below meth c H locs 0 0 Q (F0 m 4 ls []) := by
    refine lp_w (P := fun x : Int32 × Int32 × Int32 × SM => ∀ (H : Heap) (locs : List Loc) (ls : Array Slot), va_P (zD v) vwCl (pM.1 v x.2.2.2) H → va_S (An nM v) s.heap H locs → lv_has ls 6 [(0, .ref (zA v 0)), (1, .int x.1), (2, .int x.2.1), (3, .int x.2.2.1)] → W p l e rm_X8_servedBySizes s m args below meth c H locs 0 0 Q (F0 m 4 ls [])) ?_
    intro h4 hh4 x hf H locs ls hP hS hl
    unfold x_X8_servedBySizes_B4 at hf
    refine lv_iload_n hx hb dX8_servedBySizes_4 rfl (lv_at hl 3 rfl) ?_
    refine lv_bipush (v := 100) hx hb dX8_servedBySizes_5 kB_100 ?_
    refine lv_icmp_ge (tgt := 87) hx hb dX8_servedBySizes_7 (by decide) (fun c1 => ?_) (fun c1 => ?_)
    · have hf := ite_t c1 hf
      refine lv_iload_n hx hb dX8_servedBySizes_87 rfl (lv_at hl 2 rfl) ?_
      exact hret _ _ _ _ _ _ (Or.inl rfl) (Option.some.inj hf) hP hS dX8_servedBySizes_88
    · have hf := ite_f c1 hf
      refine lv_iconst (v := 0) hx hb dX8_servedBySizes_10 kI_0 ?_
      refine lv_istore (lv' := [(4, .int (0 : Int32)), (0, .ref (zA v 0)), (1, .int x.1), (2, .int x.2.1), (3, .int x.2.2.1)]) hx hb dX8_servedBySizes_11 hl (by decide) rfl (fun ls hl => ?_)
      refine lv_iload_n hx hb dX8_servedBySizes_13 rfl (lv_at hl 2 rfl) ?_
      refine lv_istore (lv' := [(5, .int x.1), (4, .int (0 : Int32)), (0, .ref (zA v 0)), (1, .int x.1), (2, .int x.2.1), (3, .int x.2.2.1)]) hx hb dX8_servedBySizes_14 hl (by decide) rfl (fun ls hl => ?_)
      exact wL16 h4 hh4 N (x.1, x.2.1, x.2.2.1, (0 : Int32), x.1, x.2.2.2) hf _ _ _ hP hS (lv_sub hl [2, 3, 4, 5, 1, 0] rfl)
  unfold x_X8_servedBySizes at hf
  refine lv_iconst (v := 0) hx hb dX8_servedBySizes_0 kI_0 ?_
  refine lv_istore_n (lv' := [(2, .int (0 : Int32)), (0, .ref (zA v 0)), (1, .int a1)]) hx hb dX8_servedBySizes_1 rfl hl (by decide) rfl (fun ls hl => ?_)
  refine lv_iconst (v := 0) hx hb dX8_servedBySizes_2 kI_0 ?_
  refine lv_istore_n (lv' := [(3, .int (0 : Int32)), (2, .int (0 : Int32)), (0, .ref (zA v 0)), (1, .int a1)]) hx hb dX8_servedBySizes_3 rfl hl (by decide) rfl (fun ls hl => ?_)
  exact wL4 N (a1, (0 : Int32), (0 : Int32), g) hf _ _ _ hP hS (lv_sub hl [2, 3, 1, 0] rfl)
set_option maxRecDepth 100000 in
theorem t_X8_orders (l : Launch) (v : Ev) (N : Nat) (rec : Nat → Int32 → Int32 → Int32 → SM → Option (SM)) (d : Nat) (hr0 : ∀ (b0 b1 b2 : Int32) (g : SM) (res : SM), rec 0 b0 b1 b2 g = some res → Cv l yX8_orders cX8_orders 5 (rmG 8 800 60 d) pM v [.ref (zA v 0), .int b0, .int b1, .int b2] g res) (a1 : Int32) (a2 : Int32) (a3 : Int32) (g : SM) (res : SM) (hf : x_X8_orders N rec a1 a2 a3 g = some res) : Cv l yX8_orders cX8_orders 5 (rmG 8 800 60 (d + 1)) pM v [.ref (zA v 0), .int a1, .int a2, .int a3] g res := by
  refine ze_v (by decide +kernel) (Nat.le_of_ble_eq_true rfl) ?_
  intro p e s m args below meth c Q ls hcx hret hP hl
  obtain ⟨hx, hb, hml, hown, hts, hk⟩ := hcx
  have hown : s.vm.findClass RX8 = some m.cls := hown
  have hS : va_S (An nM v) s.heap s.heap [] := va_S.rf
  have hl : lv_has ls 5 [(0, .ref (zA v 0)), (1, .int a1), (2, .int a2), (3, .int a3)] := hl
  have wL52 : ∀ (n : Nat) (x : Int32 × Int32 × Int32 × SM), lp (x_X8_orders_B52 N rec) n x = some res → ∀ (H : Heap) (locs : List Loc) (ls : Array Slot), va_P (zD v) vwCl (pM.1 v x.2.2.2) H → va_S (An nM v) s.heap H locs → lv_has ls 5 [(0, .ref (zA v 0)), (1, .int x.1), (3, .int x.2.1), (4, .int x.2.2.1)] → W p l e (rmG 8 800 60 (d + 1)) s m args below meth c H locs 0 0 Q (F0 m 52 ls []) := by
    refine lp_w (P := fun x : Int32 × Int32 × Int32 × SM => ∀ (H : Heap) (locs : List Loc) (ls : Array Slot), va_P (zD v) vwCl (pM.1 v x.2.2.2) H → va_S (An nM v) s.heap H locs → lv_has ls 5 [(0, .ref (zA v 0)), (1, .int x.1), (3, .int x.2.1), (4, .int x.2.2.1)] → W p l e (rmG 8 800 60 (d + 1)) s m args below meth c H locs 0 0 Q (F0 m 52 ls [])) ?_
    intro h52 hh52 x hf H locs ls hP hS hl
    unfold x_X8_orders_B52 at hf
    refine lv_iload hx hb dX8_orders_52 (lv_at hl 3 rfl) ?_
    refine lv_bipush (v := 20) hx hb dX8_orders_54 kB_20 ?_
    refine lv_icmp_ge (tgt := 82) hx hb dX8_orders_56 (by decide) (fun c2 => ?_) (fun c2 => ?_)
    · have hf := ite_t c2 hf
      exact hret _ _ _ _ _ (Option.some.inj hf) hP hS dX8_orders_82
    · have hf := ite_f c2 hf
      refine lv_aload_n hx hb dX8_orders_59 rfl (lv_at hl 0 rfl) ?_
      refine lv_iload_n hx hb dX8_orders_60 rfl (lv_at hl 1 rfl) ?_
      refine lv_iconst (v := 1) hx hb dX8_orders_61 kI_1 ?_
      refine lv_iload hx hb dX8_orders_62 (lv_at hl 3 rfl) ?_
      refine lv_ishl hx hb dX8_orders_64 ?_
      refine lv_ior hx hb dX8_orders_65 ?_
      refine lv_iload hx hb dX8_orders_66 (lv_at hl 3 rfl) ?_
      refine lv_iconst (v := 1) hx hb dX8_orders_68 kI_1 ?_
      refine lv_iadd hx hb dX8_orders_69 ?_
      refine lv_iload_n hx hb dX8_orders_70 rfl (lv_at hl 2 rfl) ?_
      refine lv_iconst (v := 1) hx hb dX8_orders_71 kI_1 ?_
      refine lv_isub hx hb dX8_orders_72 ?_
      obtain ⟨q3, eq3, hf⟩ := bd_e hf
      refine zkv hS (zrV (As := [.int (x.1 ||| ((1 : Int32) <<< (x.2.2.1 &&& 31))), .int (x.2.2.1 + (1 : Int32)), .int (x.2.1 - (1 : Int32))]) (rest := []) okM hx hb hml hown hts hk hP hS (hr0 (x.1 ||| ((1 : Int32) <<< (x.2.2.1 &&& 31))) (x.2.2.1 + (1 : Int32)) (x.2.1 - (1 : Int32)) x.2.2.2 _ eq3) vk_X8_orders ml_X8_366 rfl rfl (rmG_go (by decide)) (va_recv (q := (RX8, TX8, 55)) hk.1 hP (q0 := 0) (ci := 7) rfl rfl) rfl hl.1 rfl (Nat.le_of_ble_eq_true rfl) dX8_orders_73) (fun H locs hP hS => ?_)
      obtain ⟨x4, ex4, hf⟩ := lt_e hf
      refine lv_iinc (v := x4) (lv' := [(4, .int x4), (0, .ref (zA v 0)), (1, .int x.1), (3, .int x.2.1)]) hx hb dX8_orders_76 hl (k := 3) rfl ((congrArg (fun z => x.2.2.1 + z) kI_1).trans ex4.symm) (by decide) rfl (fun ls hl => ?_)
      refine lv_goto (tgt := 52) hx hb dX8_orders_79 (by decide) ?_
      exact hh52 (x.1, x.2.1, x4, q3) hf _ _ _ hP hS (lv_sub hl [1, 2, 3, 0] rfl)
  have wb37 : ∀ (y1 : Int32) (y4 : Int32) (g : SM) (hf : x_X8_orders_b37 N rec y1 y4 g = some res) (H : Heap) (locs : List Loc) (ls : Array Slot) (hP : va_P (zD v) vwCl (pM.1 v g) H) (hS : va_S (An nM v) s.heap H locs) (hl : lv_has ls 5 [(0, .ref (zA v 0)), (1, .int y1), (4, .int y4)]), W p l e (rmG 8 800 60 (d + 1)) s m args below meth c H locs 0 0 Q (F0 m 37 ls []) := by
    intro y1 y4 g hf H locs ls hP hS hl
    unfold x_X8_orders_b37 at hf
    refine lv_aload_n hx hb dX8_orders_37 rfl (lv_at hl 0 rfl) ?_
    refine lv_iload hx hb dX8_orders_38 (lv_at hl 2 rfl) ?_
    refine va_put (D := zD v) (ci := 7) (v := .int y4) (ty := .int) (C := RX8) (T := TX8) (N := 55) hx hb hts iX8 tyX8 tyX8_ok nmX8 hown hk.1 hP (zw_D okM hk _) hS 0 rfl rfl 41 (by decide) (hts _ fl_X8_360) (fun _ h9 => h9) rfl pd_I rfl rfl (Nat.le_of_ble_eq_true rfl) dX8_orders_40 (fun H locs hP1 _ hS => ?_)
    have hP : va_P (zD v) vwCl (pM.1 v (up g.1 0 (upd (g.1 0) 41 y4), g.2)) H := hP1
    obtain ⟨g7, eg7, hf⟩ := lt_e hf
    rw [← eg7] at hP
    refine lv_aload_n hx hb dX8_orders_43 rfl (lv_at hl 0 rfl) ?_
    refine lv_iload_n hx hb dX8_orders_44 rfl (lv_at hl 1 rfl) ?_
    refine va_put (D := zD v) (ci := 7) (v := .int y1) (ty := .int) (C := RX8) (T := TX8) (N := 55) hx hb hts iX8 tyX8 tyX8_ok nmX8 hown hk.1 hP (zw_D okM hk _) hS 0 rfl rfl 40 (by decide) (hts _ fl_X8_363) (fun _ h9 => h9) rfl pd_I rfl rfl (Nat.le_of_ble_eq_true rfl) dX8_orders_45 (fun H locs hP1 _ hS => ?_)
    have hP : va_P (zD v) vwCl (pM.1 v (up g7.1 0 (upd (g7.1 0) 40 y1), g7.2)) H := hP1
    obtain ⟨g8, eg8, hf⟩ := lt_e hf
    rw [← eg8] at hP
    exact hret _ _ _ _ _ (Option.some.inj hf) hP hS dX8_orders_48
  unfold x_X8_orders at hf
  refine lv_iload_n hx hb dX8_orders_0 rfl (lv_at hl 3 rfl) ?_
  refine lv_if_ne (tgt := 49) hx hb dX8_orders_1 (by decide) (fun c1 => ?_) (fun c1 => ?_)
  · have hf := ite_f c1 hf
    refine lv_iload_n hx hb dX8_orders_49 rfl (lv_at hl 2 rfl) ?_
    refine lv_istore (lv' := [(4, .int a2), (0, .ref (zA v 0)), (1, .int a1), (2, .int a2), (3, .int a3)]) hx hb dX8_orders_50 hl (by decide) rfl (fun ls hl => ?_)
    exact wL52 N (a1, a3, a2, g) hf _ _ _ hP hS (lv_sub hl [1, 2, 4, 0] rfl)
  · have hf := ite_t c1 hf
    refine lv_aload_n hx hb dX8_orders_4 rfl (lv_at hl 0 rfl) ?_
    refine lv_iload_n hx hb dX8_orders_5 rfl (lv_at hl 1 rfl) ?_
    obtain ⟨q5, eq5, hf⟩ := bd_e hf
    refine zki hS (zrV (As := [.int a1]) (rest := []) okM hx hb hml hown hts hk hP hS (t_X8_servedBySizes l v N a1 g _ eq5) vk_X8_servedBySizes ml_X8_357 rfl rfl (rmG_lo (Nat.le_of_ble_eq_true rfl) (Nat.le_of_ble_eq_true rfl)) (va_recv (q := (RX8, TX8, 55)) hk.1 hP (q0 := 0) (ci := 7) rfl rfl) rfl hl.1 rfl (Nat.le_of_ble_eq_true rfl) dX8_orders_6) (fun H locs hP hS => ?_)
    refine lv_istore (lv' := [(4, .int q5.1), (0, .ref (zA v 0)), (1, .int a1), (2, .int a2), (3, .int a3)]) hx hb dX8_orders_9 hl (by decide) rfl (fun ls hl => ?_)
    refine lv_iload hx hb dX8_orders_11 (lv_at hl 0 rfl) ?_
    refine lv_aload_n hx hb dX8_orders_13 rfl (lv_at hl 1 rfl) ?_
    refine va_get (D := zD v) (ci := 7) (v := .int (q5.2.1 0 41)) (C := RX8) (T := TX8) (N := 55) hx hb hts iX8 hown hk.1 hP 0 rfl rfl 41 (by decide) (hts _ fl_X8_360) (fun _ h9 => h9) rfl dX8_orders_14 ?_
    refine lv_icmp_gt (tgt := 37) hx hb dX8_orders_17 (by decide) (fun c6 => ?_) (fun c6 => ?_)
    · have hf := ite_t c6 hf
      exact wb37 a1 q5.1 q5.2 hf _ _ _ hP hS (lv_sub hl [1, 2, 0] rfl)
    · have hf := ite_f c6 hf
      refine lv_iload hx hb dX8_orders_20 (lv_at hl 0 rfl) ?_
      refine lv_aload_n hx hb dX8_orders_22 rfl (lv_at hl 1 rfl) ?_
      refine va_get (D := zD v) (ci := 7) (v := .int (q5.2.1 0 41)) (C := RX8) (T := TX8) (N := 55) hx hb hts iX8 hown hk.1 hP 0 rfl rfl 41 (by decide) (hts _ fl_X8_360) (fun _ h9 => h9) rfl dX8_orders_23 ?_
      refine lv_icmp_ne (tgt := 48) hx hb dX8_orders_26 (by decide) (fun c9 => ?_) (fun c9 => ?_)
      · have hf := ite_f c9 hf
        exact hret _ _ _ _ _ (Option.some.inj hf) hP hS dX8_orders_48
      · have hf := ite_t c9 hf
        refine lv_iload_n hx hb dX8_orders_29 rfl (lv_at hl 2 rfl) ?_
        refine lv_aload_n hx hb dX8_orders_30 rfl (lv_at hl 1 rfl) ?_
        refine va_get (D := zD v) (ci := 7) (v := .int (q5.2.1 0 40)) (C := RX8) (T := TX8) (N := 55) hx hb hts iX8 hown hk.1 hP 0 rfl rfl 40 (by decide) (hts _ fl_X8_363) (fun _ h9 => h9) rfl dX8_orders_31 ?_
        refine lv_icmp_ge (tgt := 48) hx hb dX8_orders_34 (by decide) (fun c10 => ?_) (fun c10 => ?_)
        · have hf := ite_t c10 hf
          exact hret _ _ _ _ _ (Option.some.inj hf) hP hS dX8_orders_48
        · have hf := ite_f c10 hf
          exact wb37 a1 q5.1 q5.2 hf _ _ _ hP hS (lv_sub hl [1, 2, 0] rfl)
theorem tg_O_all (l : Launch) (v : Ev) (N : Nat) : ∀ d : Nat, (∀ (b0 b1 b2 : Int32) (g : SM) (res : SM), gr_O N d 0 b0 b1 b2 g = some res → Cv l yX8_orders cX8_orders 5 (rmG 8 800 60 d) pM v [.ref (zA v 0), .int b0, .int b1, .int b2] g res) := by
  intro d
  induction d with
  | zero => exact fun _ _ _ _ _ h => nn_e h
  | succ d ih => exact fun b0 b1 b2 g res hf => t_X8_orders l v N (gr_O N d) d ih b0 b1 b2 g res hf
theorem tg_X8_orders (l : Launch) (v : Ev) (N d : Nat) : ∀ (b0 b1 b2 : Int32) (g : SM) (res : SM), gr_O N d 0 b0 b1 b2 g = some res → Cv l yX8_orders cX8_orders 5 (rmG 8 800 60 d) pM v [.ref (zA v 0), .int b0, .int b1, .int b2] g res := (tg_O_all l v N d)
abbrev rm_X8_order : Room := { frames := 15, cells := 0, slots := 0, locals := 1184 }
set_option maxRecDepth 100000 in
theorem t_X8_order (l : Launch) (v : Ev) (N : Nat) (a1 : Int32) (a2 : Int32) (a3 : Int32) (g : SM) (res : Int32 × SM) (hf : x_X8_order N a1 a2 a3 g = some res) : Ci l yX8_order cX8_order 6 .int rm_X8_order pM v [.ref (zA v 0), .int a1, .int a2, .int a3] g res := by
  refine ze_i (by decide +kernel) (Nat.le_of_ble_eq_true rfl) ?_
  intro p e s m args below meth c Q ls hcx hret hP hl
  obtain ⟨hx, hb, hml, hown, hts, hk⟩ := hcx
  have hown : s.vm.findClass RX8 = some m.cls := hown
  have hS : va_S (An nM v) s.heap s.heap [] := va_S.rf
  have hl : lv_has ls 6 [(0, .ref (zA v 0)), (1, .int a1), (2, .int a2), (3, .int a3)] := hl
  have wb86 : ∀ (h36 : Int32 × Int32 × Int32 × Int32 × SM → Option (Int32 × SM)) (hh36 : ∀ x : Int32 × Int32 × Int32 × Int32 × SM, h36 x = some res → ∀ (H : Heap) (locs : List Loc) (ls : Array Slot), va_P (zD v) vwCl (pM.1 v x.2.2.2.2) H → va_S (An nM v) s.heap H locs → lv_has ls 6 [(0, .ref (zA v 0)), (1, .int x.1), (2, .int x.2.1), (3, .int x.2.2.1), (4, .int x.2.2.2.1)] → W p l e rm_X8_order s m args below meth c H locs 0 0 Q (F0 m 36 ls [])) (h46 : Int32 × Int32 × Int32 × Int32 × Int32 × SM → Option (Int32 × SM)) (hh46 : ∀ x : Int32 × Int32 × Int32 × Int32 × Int32 × SM, h46 x = some res → ∀ (H : Heap) (locs : List Loc) (ls : Array Slot), va_P (zD v) vwCl (pM.1 v x.2.2.2.2.2) H → va_S (An nM v) s.heap H locs → lv_has ls 6 [(0, .ref (zA v 0)), (1, .int x.1), (2, .int x.2.1), (3, .int x.2.2.1), (4, .int x.2.2.2.1), (5, .int x.2.2.2.2.1)] → W p l e rm_X8_order s m args below meth c H locs 0 0 Q (F0 m 46 ls [])) (y1 : Int32) (y2 : Int32) (y3 : Int32) (y4 : Int32) (y5 : Int32) (t0 : Int32) (t1 : Int32) (g : SM) (hf : x_X8_order_b86 N h36 h46 y1 y2 y3 y4 y5 t0 t1 g = some res) (H : Heap) (locs : List Loc) (ls : Array Slot) (hP : va_P (zD v) vwCl (pM.1 v g) H) (hS : va_S (An nM v) s.heap H locs) (hl : lv_has ls 6 [(0, .ref (zA v 0)), (1, .int y1), (2, .int y2), (3, .int y3), (4, .int y4), (5, .int y5)]), W p l e rm_X8_order s m args below meth c H locs 0 0 Q (F0 m 86 ls [.int t0, .int t1, .ref (zA v 14)]) := by
    intro h36 hh36 h46 hh46 y1 y2 y3 y4 y5 t0 t1 g hf H locs ls hP hS hl
    unfold x_X8_order_b86 at hf
    obtain ⟨c16, hf⟩ := gd_e hf
    refine va_zast hx hb hk.1 hP (zw_D okM hk _) hS 14 1 rfl rfl (inb_in c16) dX8_order_86 (fun H locs hP1 _ hS => ?_)
    have hP : va_P (zD v) vwCl (pM.1 v (up g.1 14 (upd (g.1 14) (t1).toNatClampNeg (vp_nar .boolean t0)), g.2)) H := hP1
    obtain ⟨g17, eg17, hf⟩ := lt_e hf
    rw [← eg17] at hP
    obtain ⟨x18, ex18, hf⟩ := lt_e hf
    refine lv_iinc (v := x18) (lv' := [(5, .int x18), (0, .ref (zA v 0)), (1, .int y1), (2, .int y2), (3, .int y3), (4, .int y4)]) hx hb dX8_order_87 hl (k := 5) rfl ((congrArg (fun z => y5 + z) kI_1).trans ex18.symm) (by decide) rfl (fun ls hl => ?_)
    refine lv_goto (tgt := 46) hx hb dX8_order_90 (by decide) ?_
    exact hh46 (y1, y2, y3, y4, x18, g17) hf _ _ _ hP hS (lv_sub hl [1, 2, 3, 4, 5, 0] rfl)
  have wL46 : ∀ (h36 : Int32 × Int32 × Int32 × Int32 × SM → Option (Int32 × SM)) (hh36 : ∀ x : Int32 × Int32 × Int32 × Int32 × SM, h36 x = some res → ∀ (H : Heap) (locs : List Loc) (ls : Array Slot), va_P (zD v) vwCl (pM.1 v x.2.2.2.2) H → va_S (An nM v) s.heap H locs → lv_has ls 6 [(0, .ref (zA v 0)), (1, .int x.1), (2, .int x.2.1), (3, .int x.2.2.1), (4, .int x.2.2.2.1)] → W p l e rm_X8_order s m args below meth c H locs 0 0 Q (F0 m 36 ls [])) (n : Nat) (x : Int32 × Int32 × Int32 × Int32 × Int32 × SM), lp (x_X8_order_B46 N h36) n x = some res → ∀ (H : Heap) (locs : List Loc) (ls : Array Slot), va_P (zD v) vwCl (pM.1 v x.2.2.2.2.2) H → va_S (An nM v) s.heap H locs → lv_has ls 6 [(0, .ref (zA v 0)), (1, .int x.1), (2, .int x.2.1), (3, .int x.2.2.1), (4, .int x.2.2.2.1), (5, .int x.2.2.2.2.1)] → W p l e rm_X8_order s m args below meth c H locs 0 0 Q (F0 m 46 ls []) := by
    intro h36 hh36
    refine lp_w (P := fun x : Int32 × Int32 × Int32 × Int32 × Int32 × SM => ∀ (H : Heap) (locs : List Loc) (ls : Array Slot), va_P (zD v) vwCl (pM.1 v x.2.2.2.2.2) H → va_S (An nM v) s.heap H locs → lv_has ls 6 [(0, .ref (zA v 0)), (1, .int x.1), (2, .int x.2.1), (3, .int x.2.2.1), (4, .int x.2.2.2.1), (5, .int x.2.2.2.2.1)] → W p l e rm_X8_order s m args below meth c H locs 0 0 Q (F0 m 46 ls [])) ?_
    intro h46 hh46 x hf H locs ls hP hS hl
    unfold x_X8_order_B46 at hf
    refine lv_iload hx hb dX8_order_46 (lv_at hl 5 rfl) ?_
    refine lv_bipush (v := 100) hx hb dX8_order_48 kB_100 ?_
    refine lv_icmp_ge (tgt := 93) hx hb dX8_order_50 (by decide) (fun c12 => ?_) (fun c12 => ?_)
    · have hf := ite_t c12 hf
      obtain ⟨x13, ex13, hf⟩ := lt_e hf
      refine lv_iinc (v := x13) (lv' := [(4, .int x13), (0, .ref (zA v 0)), (1, .int x.1), (2, .int x.2.1), (3, .int x.2.2.1), (5, .int x.2.2.2.2.1)]) hx hb dX8_order_93 hl (k := 4) rfl ((congrArg (fun z => x.2.2.2.1 + z) kI_1).trans ex13.symm) (by decide) rfl (fun ls hl => ?_)
      refine lv_goto (tgt := 36) hx hb dX8_order_96 (by decide) ?_
      exact hh36 (x.1, x.2.1, x.2.2.1, x13, x.2.2.2.2.2) hf _ _ _ hP hS (lv_sub hl [1, 2, 3, 4, 0] rfl)
    · have hf := ite_f c12 hf
      refine lv_aload_n hx hb dX8_order_53 rfl (lv_at hl 0 rfl) ?_
      refine va_get (D := zD v) (ci := 7) (v := .ref (zA v 14)) (C := RX8) (T := TX8) (N := 55) hx hb hts iX8 hown hk.1 hP 0 rfl rfl 39 (by decide) (hts _ fl_X8_63) (fun _ h9 => h9) rfl dX8_order_54 ?_
      refine lv_bipush (v := 100) hx hb dX8_order_57 kB_100 ?_
      refine lv_iload hx hb dX8_order_59 (lv_at hl 4 rfl) ?_
      refine lv_imul hx hb dX8_order_61 ?_
      refine lv_iload hx hb dX8_order_62 (lv_at hl 5 rfl) ?_
      refine lv_iadd hx hb dX8_order_64 ?_
      refine lv_aload_n hx hb dX8_order_65 rfl (lv_at hl 0 rfl) ?_
      refine lv_bipush (v := 20) hx hb dX8_order_66 kB_20 ?_
      refine lv_iload_n hx hb dX8_order_68 rfl (lv_at hl 1 rfl) ?_
      refine lv_imul hx hb dX8_order_69 ?_
      refine lv_iload hx hb dX8_order_70 (lv_at hl 4 rfl) ?_
      refine lv_iadd hx hb dX8_order_72 ?_
      refine lv_iload hx hb dX8_order_73 (lv_at hl 5 rfl) ?_
      obtain ⟨q14, eq14, hf⟩ := bd_e hf
      refine zki hS (zrV (As := [.int (((20 : Int32) * x.1) + x.2.2.2.1), .int x.2.2.2.2.1]) (rest := [.int (((100 : Int32) * x.2.2.2.1) + x.2.2.2.2.1), .ref (zA v 14)]) okM hx hb hml hown hts hk hP hS (t_X8_saysOf l v N (((20 : Int32) * x.1) + x.2.2.2.1) x.2.2.2.2.1 x.2.2.2.2.2 _ eq14) vk_X8_saysOf ml_X8_148 rfl rfl ⟨(Nat.le_of_ble_eq_true rfl), (Nat.le_of_ble_eq_true rfl)⟩ (va_recv (q := (RX8, TX8, 55)) hk.1 hP (q0 := 0) (ci := 7) rfl rfl) rfl hl.1 rfl (Nat.le_of_ble_eq_true rfl) dX8_order_75) (fun H locs hP hS => ?_)
      refine lv_if_ne (tgt := 85) hx hb dX8_order_78 (by decide) (fun c15 => ?_) (fun c15 => ?_)
      · have hf := ite_f c15 hf
        refine lv_iconst (v := 0) hx hb dX8_order_85 kI_0 ?_
        exact wb86 h36 hh36 h46 hh46 x.1 x.2.1 x.2.2.1 x.2.2.2.1 x.2.2.2.2.1 (0 : Int32) (((100 : Int32) * x.2.2.2.1) + x.2.2.2.2.1) q14.2 hf _ _ _ hP hS (lv_sub hl [0, 1, 2, 3, 4, 5] rfl)
      · have hf := ite_t c15 hf
        refine lv_iconst (v := 1) hx hb dX8_order_81 kI_1 ?_
        refine lv_goto (tgt := 86) hx hb dX8_order_82 (by decide) ?_
        exact wb86 h36 hh36 h46 hh46 x.1 x.2.1 x.2.2.1 x.2.2.2.1 x.2.2.2.2.1 (1 : Int32) (((100 : Int32) * x.2.2.2.1) + x.2.2.2.2.1) q14.2 hf _ _ _ hP hS (lv_sub hl [0, 1, 2, 3, 4, 5] rfl)
  have wL36 : ∀ (n : Nat) (x : Int32 × Int32 × Int32 × Int32 × SM), lp (x_X8_order_B36 N) n x = some res → ∀ (H : Heap) (locs : List Loc) (ls : Array Slot), va_P (zD v) vwCl (pM.1 v x.2.2.2.2) H → va_S (An nM v) s.heap H locs → lv_has ls 6 [(0, .ref (zA v 0)), (1, .int x.1), (2, .int x.2.1), (3, .int x.2.2.1), (4, .int x.2.2.2.1)] → W p l e rm_X8_order s m args below meth c H locs 0 0 Q (F0 m 36 ls []) := by
    refine lp_w (P := fun x : Int32 × Int32 × Int32 × Int32 × SM => ∀ (H : Heap) (locs : List Loc) (ls : Array Slot), va_P (zD v) vwCl (pM.1 v x.2.2.2.2) H → va_S (An nM v) s.heap H locs → lv_has ls 6 [(0, .ref (zA v 0)), (1, .int x.1), (2, .int x.2.1), (3, .int x.2.2.1), (4, .int x.2.2.2.1)] → W p l e rm_X8_order s m args below meth c H locs 0 0 Q (F0 m 36 ls [])) ?_
    intro h36 hh36 x hf H locs ls hP hS hl
    unfold x_X8_order_B36 at hf
    refine lv_iload hx hb dX8_order_36 (lv_at hl 4 rfl) ?_
    refine lv_bipush (v := 20) hx hb dX8_order_38 kB_20 ?_
    refine lv_icmp_ge (tgt := 99) hx hb dX8_order_40 (by decide) (fun c7 => ?_) (fun c7 => ?_)
    · have hf := ite_t c7 hf
      refine lv_aload_n hx hb dX8_order_99 rfl (lv_at hl 0 rfl) ?_
      refine lv_iconst (v := -1) hx hb dX8_order_100 kI_m1 ?_
      refine va_put (D := zD v) (ci := 7) (v := .int (-1 : Int32)) (ty := .int) (C := RX8) (T := TX8) (N := 55) hx hb hts iX8 tyX8 tyX8_ok nmX8 hown hk.1 hP (zw_D okM hk _) hS 0 rfl rfl 41 (by decide) (hts _ fl_X8_360) (fun _ h9 => h9) rfl pd_I rfl rfl (Nat.le_of_ble_eq_true rfl) dX8_order_101 (fun H locs hP1 _ hS => ?_)
      have hP : va_P (zD v) vwCl (pM.1 v (up x.2.2.2.2.1 0 (upd (x.2.2.2.2.1 0) 41 (-1 : Int32)), x.2.2.2.2.2)) H := hP1
      obtain ⟨g8, eg8, hf⟩ := lt_e hf
      rw [← eg8] at hP
      refine lv_aload_n hx hb dX8_order_104 rfl (lv_at hl 0 rfl) ?_
      refine lv_iconst (v := 0) hx hb dX8_order_105 kI_0 ?_
      refine va_put (D := zD v) (ci := 7) (v := .int (0 : Int32)) (ty := .int) (C := RX8) (T := TX8) (N := 55) hx hb hts iX8 tyX8 tyX8_ok nmX8 hown hk.1 hP (zw_D okM hk _) hS 0 rfl rfl 40 (by decide) (hts _ fl_X8_363) (fun _ h9 => h9) rfl pd_I rfl rfl (Nat.le_of_ble_eq_true rfl) dX8_order_106 (fun H locs hP1 _ hS => ?_)
      have hP : va_P (zD v) vwCl (pM.1 v (up g8.1 0 (upd (g8.1 0) 40 (0 : Int32)), g8.2)) H := hP1
      obtain ⟨g9, eg9, hf⟩ := lt_e hf
      rw [← eg9] at hP
      refine lv_aload_n hx hb dX8_order_109 rfl (lv_at hl 0 rfl) ?_
      refine lv_iconst (v := 0) hx hb dX8_order_110 kI_0 ?_
      refine lv_iconst (v := 0) hx hb dX8_order_111 kI_0 ?_
      refine lv_iload_n hx hb dX8_order_112 rfl (lv_at hl 2 rfl) ?_
      obtain ⟨q10, eq10, hf⟩ := bd_e hf
      refine zkv hS (zrV (As := [.int (0 : Int32), .int (0 : Int32), .int x.2.1]) (rest := []) okM hx hb hml hown hts hk hP hS (tg_X8_orders l v N 6 (0 : Int32) (0 : Int32) x.2.1 g9 _ eq10) vk_X8_orders ml_X8_366 rfl rfl ⟨(Nat.le_of_ble_eq_true rfl), (Nat.le_of_ble_eq_true rfl)⟩ (va_recv (q := (RX8, TX8, 55)) hk.1 hP (q0 := 0) (ci := 7) rfl rfl) rfl hl.1 rfl (Nat.le_of_ble_eq_true rfl) dX8_order_113) (fun H locs hP hS => ?_)
      refine lv_iload_n hx hb dX8_order_116 rfl (lv_at hl 3 rfl) ?_
      refine lv_if_ne (tgt := 127) hx hb dX8_order_117 (by decide) (fun c11 => ?_) (fun c11 => ?_)
      · have hf := ite_f c11 hf
        refine lv_aload_n hx hb dX8_order_127 rfl (lv_at hl 0 rfl) ?_
        refine va_get (D := zD v) (ci := 7) (v := .int (q10.1 0 41)) (C := RX8) (T := TX8) (N := 55) hx hb hts iX8 hown hk.1 hP 0 rfl rfl 41 (by decide) (hts _ fl_X8_360) (fun _ h9 => h9) rfl dX8_order_128 ?_
        exact hret _ _ _ _ _ _ (Or.inl rfl) (Option.some.inj hf) hP hS dX8_order_131
      · have hf := ite_t c11 hf
        refine lv_aload_n hx hb dX8_order_120 rfl (lv_at hl 0 rfl) ?_
        refine va_get (D := zD v) (ci := 7) (v := .int (q10.1 0 40)) (C := RX8) (T := TX8) (N := 55) hx hb hts iX8 hown hk.1 hP 0 rfl rfl 40 (by decide) (hts _ fl_X8_363) (fun _ h9 => h9) rfl dX8_order_121 ?_
        refine lv_goto (tgt := 131) hx hb dX8_order_124 (by decide) ?_
        exact hret _ _ _ _ _ _ (Or.inl rfl) (Option.some.inj hf) hP hS dX8_order_131
    · have hf := ite_f c7 hf
      refine lv_iconst (v := 0) hx hb dX8_order_43 kI_0 ?_
      refine lv_istore (lv' := [(5, .int (0 : Int32)), (0, .ref (zA v 0)), (1, .int x.1), (2, .int x.2.1), (3, .int x.2.2.1), (4, .int x.2.2.2.1)]) hx hb dX8_order_44 hl (by decide) rfl (fun ls hl => ?_)
      exact wL46 h36 hh36 N (x.1, x.2.1, x.2.2.1, x.2.2.2.1, (0 : Int32), x.2.2.2.2) hf _ _ _ hP hS (lv_sub hl [1, 2, 3, 4, 5, 0] rfl)
  unfold x_X8_order at hf
  refine lv_aload_n hx hb dX8_order_0 rfl (lv_at hl 0 rfl) ?_
  refine lv_iload_n hx hb dX8_order_1 rfl (lv_at hl 1 rfl) ?_
  obtain ⟨q1, eq1, hf⟩ := bd_e hf
  refine zki hS (zrV (As := [.int a1]) (rest := []) okM hx hb hml hown hts hk hP hS (t_X8_isMake l v N a1 g _ eq1) vk_X8_isMake ml_X8_112 rfl rfl ⟨(Nat.le_of_ble_eq_true rfl), (Nat.le_of_ble_eq_true rfl)⟩ (va_recv (q := (RX8, TX8, 55)) hk.1 hP (q0 := 0) (ci := 7) rfl rfl) rfl hl.1 rfl (Nat.le_of_ble_eq_true rfl) dX8_order_2) (fun H locs hP hS => ?_)
  refine lv_if_eq (tgt := 30) hx hb dX8_order_5 (by decide) (fun c2 => ?_) (fun c2 => ?_)
  · have hf := ite_t c2 hf
    refine lv_bipush (v := -2) hx hb dX8_order_30 kB_m2 ?_
    exact hret _ _ _ _ _ _ (Or.inl rfl) (Option.some.inj hf) hP hS dX8_order_32
  · have hf := ite_f c2 hf
    refine lv_iload_n hx hb dX8_order_8 rfl (lv_at hl 2 rfl) ?_
    refine lv_i2l hx hb dX8_order_9 rfl ?_
    refine lv_lconst (v := 0) hx hb dX8_order_10 kL_0 ?_
    refine lv_ldc2 (v := 3) hx hb hown (hts _ kc_X8_370) dX8_order_11 ?_
    obtain ⟨q3, eq3, hf⟩ := bd_e hf
    refine zki hS (zrS (As := [.long ((a2).toInt64), .long (0 : Int64), .long (3 : Int64)]) (rest := []) okM hx hb hml hown hts hk hP hS (t_X8_in l v N ((a2).toInt64) (0 : Int64) (3 : Int64) q1.2 _ eq3) sk_X8_in ml_X8_100 rfl rfl ⟨(Nat.le_of_ble_eq_true rfl), (Nat.le_of_ble_eq_true rfl)⟩ rfl hl.1 rfl (Nat.le_of_ble_eq_true rfl) dX8_order_14) (fun H locs hP hS => ?_)
    refine lv_if_eq (tgt := 30) hx hb dX8_order_17 (by decide) (fun c4 => ?_) (fun c4 => ?_)
    · have hf := ite_t c4 hf
      refine lv_bipush (v := -2) hx hb dX8_order_30 kB_m2 ?_
      exact hret _ _ _ _ _ _ (Or.inl rfl) (Option.some.inj hf) hP hS dX8_order_32
    · have hf := ite_f c4 hf
      refine lv_iload_n hx hb dX8_order_20 rfl (lv_at hl 3 rfl) ?_
      refine lv_i2l hx hb dX8_order_21 rfl ?_
      refine lv_lconst (v := 0) hx hb dX8_order_22 kL_0 ?_
      refine lv_lconst (v := 1) hx hb dX8_order_23 kL_1 ?_
      obtain ⟨q5, eq5, hf⟩ := bd_e hf
      refine zki hS (zrS (As := [.long ((a3).toInt64), .long (0 : Int64), .long (1 : Int64)]) (rest := []) okM hx hb hml hown hts hk hP hS (t_X8_in l v N ((a3).toInt64) (0 : Int64) (1 : Int64) q3.2 _ eq5) sk_X8_in ml_X8_100 rfl rfl ⟨(Nat.le_of_ble_eq_true rfl), (Nat.le_of_ble_eq_true rfl)⟩ rfl hl.1 rfl (Nat.le_of_ble_eq_true rfl) dX8_order_24) (fun H locs hP hS => ?_)
      refine lv_if_ne (tgt := 33) hx hb dX8_order_27 (by decide) (fun c6 => ?_) (fun c6 => ?_)
      · have hf := ite_f c6 hf
        refine lv_iconst (v := 0) hx hb dX8_order_33 kI_0 ?_
        refine lv_istore (lv' := [(4, .int (0 : Int32)), (0, .ref (zA v 0)), (1, .int a1), (2, .int a2), (3, .int a3)]) hx hb dX8_order_34 hl (by decide) rfl (fun ls hl => ?_)
        exact wL36 N (a1, a2, a3, (0 : Int32), q5.2) hf _ _ _ hP hS (lv_sub hl [1, 2, 3, 4, 0] rfl)
      · have hf := ite_t c6 hf
        refine lv_bipush (v := -2) hx hb dX8_order_30 kB_m2 ?_
        exact hret _ _ _ _ _ _ (Or.inl rfl) (Option.some.inj hf) hP hS dX8_order_32
abbrev rm_X8_missing : Room := { frames := 5, cells := 0, slots := 0, locals := 157 }
set_option maxRecDepth 100000 in
theorem t_X8_missing (l : Launch) (v : Ev) (N : Nat) (a1 : Int32) (g : SM) (res : Int32 × SM) (hf : x_X8_missing N a1 g = some res) : Ci l yX8_missing cX8_missing 5 .int rm_X8_missing pM v [.ref (zA v 0), .int a1] g res := by
  refine ze_i (by decide +kernel) (Nat.le_of_ble_eq_true rfl) ?_
  intro p e s m args below meth c Q ls hcx hret hP hl
  obtain ⟨hx, hb, hml, hown, hts, hk⟩ := hcx
  have hown : s.vm.findClass RX8 = some m.cls := hown
  have hS : va_S (An nM v) s.heap s.heap [] := va_S.rf
  have hl : lv_has ls 5 [(0, .ref (zA v 0)), (1, .int a1)] := hl
  have wb84 : ∀ (h20 : Int32 × Int32 × Int32 × Int32 × SM → Option (Int32 × SM)) (hh20 : ∀ x : Int32 × Int32 × Int32 × Int32 × SM, h20 x = some res → ∀ (H : Heap) (locs : List Loc) (ls : Array Slot), va_P (zD v) vwCl (pM.1 v x.2.2.2.2) H → va_S (An nM v) s.heap H locs → lv_has ls 5 [(0, .ref (zA v 0)), (1, .int x.1), (2, .int x.2.1), (3, .int x.2.2.1), (4, .int x.2.2.2.1)] → W p l e rm_X8_missing s m args below meth c H locs 0 0 Q (F0 m 20 ls [])) (y1 : Int32) (y2 : Int32) (y3 : Int32) (y4 : Int32) (g : SM) (hf : x_X8_missing_b84 N h20 y1 y2 y3 y4 g = some res) (H : Heap) (locs : List Loc) (ls : Array Slot) (hP : va_P (zD v) vwCl (pM.1 v g) H) (hS : va_S (An nM v) s.heap H locs) (hl : lv_has ls 5 [(0, .ref (zA v 0)), (1, .int y1), (2, .int y2), (3, .int y3), (4, .int y4)]), W p l e rm_X8_missing s m args below meth c H locs 0 0 Q (F0 m 84 ls []) := by
    intro h20 hh20 y1 y2 y3 y4 g hf H locs ls hP hS hl
    unfold x_X8_missing_b84 at hf
    obtain ⟨x7, ex7, hf⟩ := lt_e hf
    refine lv_iinc (v := x7) (lv' := [(4, .int x7), (0, .ref (zA v 0)), (1, .int y1), (2, .int y2), (3, .int y3)]) hx hb dX8_missing_84 hl (k := 4) rfl ((congrArg (fun z => y4 + z) kI_1).trans ex7.symm) (by decide) rfl (fun ls hl => ?_)
    refine lv_goto (tgt := 20) hx hb dX8_missing_87 (by decide) ?_
    exact hh20 (y1, y2, y3, x7, g) hf _ _ _ hP hS (lv_sub hl [1, 2, 3, 4, 0] rfl)
  have wb83 : ∀ (h20 : Int32 × Int32 × Int32 × Int32 × SM → Option (Int32 × SM)) (hh20 : ∀ x : Int32 × Int32 × Int32 × Int32 × SM, h20 x = some res → ∀ (H : Heap) (locs : List Loc) (ls : Array Slot), va_P (zD v) vwCl (pM.1 v x.2.2.2.2) H → va_S (An nM v) s.heap H locs → lv_has ls 5 [(0, .ref (zA v 0)), (1, .int x.1), (2, .int x.2.1), (3, .int x.2.2.1), (4, .int x.2.2.2.1)] → W p l e rm_X8_missing s m args below meth c H locs 0 0 Q (F0 m 20 ls [])) (y1 : Int32) (y2 : Int32) (y4 : Int32) (t0 : Int32) (g : SM) (hf : x_X8_missing_b83 N h20 y1 y2 y4 t0 g = some res) (H : Heap) (locs : List Loc) (ls : Array Slot) (hP : va_P (zD v) vwCl (pM.1 v g) H) (hS : va_S (An nM v) s.heap H locs) (hl : lv_has ls 5 [(0, .ref (zA v 0)), (1, .int y1), (2, .int y2), (4, .int y4)]), W p l e rm_X8_missing s m args below meth c H locs 0 0 Q (F0 m 83 ls [.int t0]) := by
    intro h20 hh20 y1 y2 y4 t0 g hf H locs ls hP hS hl
    unfold x_X8_missing_b83 at hf
    refine lv_istore_n (lv' := [(3, .int t0), (0, .ref (zA v 0)), (1, .int y1), (2, .int y2), (4, .int y4)]) hx hb dX8_missing_83 rfl hl (by decide) rfl (fun ls hl => ?_)
    exact wb84 h20 hh20 y1 y2 t0 y4 g hf _ _ _ hP hS (lv_sub hl [1, 2, 3, 0, 4] rfl)
  have wb77 : ∀ (h20 : Int32 × Int32 × Int32 × Int32 × SM → Option (Int32 × SM)) (hh20 : ∀ x : Int32 × Int32 × Int32 × Int32 × SM, h20 x = some res → ∀ (H : Heap) (locs : List Loc) (ls : Array Slot), va_P (zD v) vwCl (pM.1 v x.2.2.2.2) H → va_S (An nM v) s.heap H locs → lv_has ls 5 [(0, .ref (zA v 0)), (1, .int x.1), (2, .int x.2.1), (3, .int x.2.2.1), (4, .int x.2.2.2.1)] → W p l e rm_X8_missing s m args below meth c H locs 0 0 Q (F0 m 20 ls [])) (y1 : Int32) (y2 : Int32) (y4 : Int32) (g : SM) (hf : x_X8_missing_b77 N h20 y1 y2 y4 g = some res) (H : Heap) (locs : List Loc) (ls : Array Slot) (hP : va_P (zD v) vwCl (pM.1 v g) H) (hS : va_S (An nM v) s.heap H locs) (hl : lv_has ls 5 [(0, .ref (zA v 0)), (1, .int y1), (2, .int y2), (4, .int y4)]), W p l e rm_X8_missing s m args below meth c H locs 0 0 Q (F0 m 77 ls []) := by
    intro h20 hh20 y1 y2 y4 g hf H locs ls hP hS hl
    unfold x_X8_missing_b77 at hf
    refine lv_iload hx hb dX8_missing_77 (lv_at hl 3 rfl) ?_
    refine lv_goto (tgt := 83) hx hb dX8_missing_79 (by decide) ?_
    exact wb83 h20 hh20 y1 y2 y4 y4 g hf _ _ _ hP hS (lv_sub hl [0, 1, 2, 3] rfl)
  have wL20 : ∀ (n : Nat) (x : Int32 × Int32 × Int32 × Int32 × SM), lp (x_X8_missing_B20 N) n x = some res → ∀ (H : Heap) (locs : List Loc) (ls : Array Slot), va_P (zD v) vwCl (pM.1 v x.2.2.2.2) H → va_S (An nM v) s.heap H locs → lv_has ls 5 [(0, .ref (zA v 0)), (1, .int x.1), (2, .int x.2.1), (3, .int x.2.2.1), (4, .int x.2.2.2.1)] → W p l e rm_X8_missing s m args below meth c H locs 0 0 Q (F0 m 20 ls []) := by
    refine lp_w (P := fun x : Int32 × Int32 × Int32 × Int32 × SM => ∀ (H : Heap) (locs : List Loc) (ls : Array Slot), va_P (zD v) vwCl (pM.1 v x.2.2.2.2) H → va_S (An nM v) s.heap H locs → lv_has ls 5 [(0, .ref (zA v 0)), (1, .int x.1), (2, .int x.2.1), (3, .int x.2.2.1), (4, .int x.2.2.2.1)] → W p l e rm_X8_missing s m args below meth c H locs 0 0 Q (F0 m 20 ls [])) ?_
    intro h20 hh20 x hf H locs ls hP hS hl
    unfold x_X8_missing_B20 at hf
    refine lv_iload hx hb dX8_missing_20 (lv_at hl 4 rfl) ?_
    refine lv_bipush (v := 100) hx hb dX8_missing_22 kB_100 ?_
    refine lv_icmp_ge (tgt := 90) hx hb dX8_missing_24 (by decide) (fun c3 => ?_) (fun c3 => ?_)
    · have hf := ite_t c3 hf
      refine lv_iload_n hx hb dX8_missing_90 rfl (lv_at hl 1 rfl) ?_
      refine lv_if_ne (tgt := 98) hx hb dX8_missing_91 (by decide) (fun c4 => ?_) (fun c4 => ?_)
      · have hf := ite_f c4 hf
        refine lv_iload_n hx hb dX8_missing_98 rfl (lv_at hl 3 rfl) ?_
        exact hret _ _ _ _ _ _ (Or.inl rfl) (Option.some.inj hf) hP hS dX8_missing_99
      · have hf := ite_t c4 hf
        refine lv_iload_n hx hb dX8_missing_94 rfl (lv_at hl 2 rfl) ?_
        refine lv_goto (tgt := 99) hx hb dX8_missing_95 (by decide) ?_
        exact hret _ _ _ _ _ _ (Or.inl rfl) (Option.some.inj hf) hP hS dX8_missing_99
    · have hf := ite_f c3 hf
      refine lv_aload_n hx hb dX8_missing_27 rfl (lv_at hl 0 rfl) ?_
      refine va_get (D := zD v) (ci := 7) (v := .ref (zA v 4)) (C := RX8) (T := TX8) (N := 55) hx hb hts iX8 hown hk.1 hP 0 rfl rfl 10 (by decide) (hts _ fl_X8_32) (fun _ h9 => h9) rfl dX8_missing_28 ?_
      refine lv_iload hx hb dX8_missing_31 (lv_at hl 4 rfl) ?_
      obtain ⟨c5, hf⟩ := gd_e hf
      refine va_iald hx hb hk.1 hP 4 0 rfl rfl (inb_in c5) dX8_missing_33 ?_
      refine lv_if_le (tgt := 84) hx hb dX8_missing_34 (by decide) (fun c6 => ?_) (fun c6 => ?_)
      · have hf := ite_t c6 hf
        exact wb84 h20 hh20 x.1 x.2.1 x.2.2.1 x.2.2.2.1 x.2.2.2.2 hf _ _ _ hP hS (lv_sub hl [0, 1, 2, 3, 4] rfl)
      · have hf := ite_f c6 hf
        refine lv_aload_n hx hb dX8_missing_37 rfl (lv_at hl 0 rfl) ?_
        refine lv_iload hx hb dX8_missing_38 (lv_at hl 4 rfl) ?_
        obtain ⟨q8, eq8, hf⟩ := bd_e hf
        refine zki hS (zrV (As := [.int x.2.2.2.1]) (rest := []) okM hx hb hml hown hts hk hP hS (t_X8_isServed l v N x.2.2.2.1 x.2.2.2.2 _ eq8) vk_X8_isServed ml_X8_345 rfl rfl ⟨(Nat.le_of_ble_eq_true rfl), (Nat.le_of_ble_eq_true rfl)⟩ (va_recv (q := (RX8, TX8, 55)) hk.1 hP (q0 := 0) (ci := 7) rfl rfl) rfl hl.1 rfl (Nat.le_of_ble_eq_true rfl) dX8_missing_40) (fun H locs hP hS => ?_)
        refine lv_if_ne (tgt := 84) hx hb dX8_missing_43 (by decide) (fun c9 => ?_) (fun c9 => ?_)
        · have hf := ite_f c9 hf
          exact wb84 h20 hh20 x.1 x.2.1 x.2.2.1 x.2.2.2.1 q8.2 hf _ _ _ hP hS (lv_sub hl [0, 1, 2, 3, 4] rfl)
        · have hf := ite_t c9 hf
          refine lv_iload_n hx hb dX8_missing_46 rfl (lv_at hl 2 rfl) ?_
          refine lv_aload_n hx hb dX8_missing_47 rfl (lv_at hl 0 rfl) ?_
          refine va_get (D := zD v) (ci := 7) (v := .ref (zA v 4)) (C := RX8) (T := TX8) (N := 55) hx hb hts iX8 hown hk.1 hP 0 rfl rfl 10 (by decide) (hts _ fl_X8_32) (fun _ h9 => h9) rfl dX8_missing_48 ?_
          refine lv_iload hx hb dX8_missing_51 (lv_at hl 4 rfl) ?_
          obtain ⟨c10, hf⟩ := gd_e hf
          refine va_iald hx hb hk.1 hP 4 0 rfl rfl (inb_in c10) dX8_missing_53 ?_
          refine lv_iadd hx hb dX8_missing_54 ?_
          obtain ⟨x11, ex11, hf⟩ := lt_e hf
          refine lv_nm ex11 ?_
          refine lv_istore_n (lv' := [(2, .int x11), (0, .ref (zA v 0)), (1, .int x.1), (3, .int x.2.2.1), (4, .int x.2.2.2.1)]) hx hb dX8_missing_55 rfl hl (by decide) rfl (fun ls hl => ?_)
          refine lv_iload_n hx hb dX8_missing_56 rfl (lv_at hl 3 rfl) ?_
          refine lv_iconst (v := -1) hx hb dX8_missing_57 kI_m1 ?_
          refine lv_icmp_eq (tgt := 77) hx hb dX8_missing_58 (by decide) (fun c12 => ?_) (fun c12 => ?_)
          · have hf := ite_t c12 hf
            exact wb77 h20 hh20 x.1 x11 x.2.2.2.1 q8.2 hf _ _ _ hP hS (lv_sub hl [1, 2, 0, 4] rfl)
          · have hf := ite_f c12 hf
            refine lv_aload_n hx hb dX8_missing_61 rfl (lv_at hl 1 rfl) ?_
            refine va_get (D := zD v) (ci := 7) (v := .ref (zA v 4)) (C := RX8) (T := TX8) (N := 55) hx hb hts iX8 hown hk.1 hP 0 rfl rfl 10 (by decide) (hts _ fl_X8_32) (fun _ h9 => h9) rfl dX8_missing_62 ?_
            refine lv_iload hx hb dX8_missing_65 (lv_at hl 4 rfl) ?_
            obtain ⟨c13, hf⟩ := gd_e hf
            refine va_iald hx hb hk.1 hP 4 0 rfl rfl (inb_in c13) dX8_missing_67 ?_
            refine lv_aload_n hx hb dX8_missing_68 rfl (lv_at hl 1 rfl) ?_
            refine va_get (D := zD v) (ci := 7) (v := .ref (zA v 4)) (C := RX8) (T := TX8) (N := 55) hx hb hts iX8 hown hk.1 hP 0 rfl rfl 10 (by decide) (hts _ fl_X8_32) (fun _ h9 => h9) rfl dX8_missing_69 ?_
            refine lv_iload_n hx hb dX8_missing_72 rfl (lv_at hl 3 rfl) ?_
            obtain ⟨c14, hf⟩ := gd_e hf
            refine va_iald hx hb hk.1 hP 4 0 rfl rfl (inb_in c14) dX8_missing_73 ?_
            refine lv_icmp_le (tgt := 82) hx hb dX8_missing_74 (by decide) (fun c15 => ?_) (fun c15 => ?_)
            · have hf := ite_t c15 hf
              refine lv_iload_n hx hb dX8_missing_82 rfl (lv_at hl 3 rfl) ?_
              exact wb83 h20 hh20 x.1 x11 x.2.2.2.1 x.2.2.1 q8.2 hf _ _ _ hP hS (lv_sub hl [1, 2, 0, 4] rfl)
            · have hf := ite_f c15 hf
              exact wb77 h20 hh20 x.1 x11 x.2.2.2.1 q8.2 hf _ _ _ hP hS (lv_sub hl [1, 2, 0, 4] rfl)
  unfold x_X8_missing at hf
  refine lv_iload_n hx hb dX8_missing_0 rfl (lv_at hl 1 rfl) ?_
  refine lv_i2l hx hb dX8_missing_1 rfl ?_
  refine lv_lconst (v := 0) hx hb dX8_missing_2 kL_0 ?_
  refine lv_lconst (v := 1) hx hb dX8_missing_3 kL_1 ?_
  obtain ⟨q1, eq1, hf⟩ := bd_e hf
  refine zki hS (zrS (As := [.long ((a1).toInt64), .long (0 : Int64), .long (1 : Int64)]) (rest := []) okM hx hb hml hown hts hk hP hS (t_X8_in l v N ((a1).toInt64) (0 : Int64) (1 : Int64) g _ eq1) sk_X8_in ml_X8_100 rfl rfl ⟨(Nat.le_of_ble_eq_true rfl), (Nat.le_of_ble_eq_true rfl)⟩ rfl hl.1 rfl (Nat.le_of_ble_eq_true rfl) dX8_missing_4) (fun H locs hP hS => ?_)
  refine lv_if_ne (tgt := 13) hx hb dX8_missing_7 (by decide) (fun c2 => ?_) (fun c2 => ?_)
  · have hf := ite_f c2 hf
    refine lv_iconst (v := 0) hx hb dX8_missing_13 kI_0 ?_
    refine lv_istore_n (lv' := [(2, .int (0 : Int32)), (0, .ref (zA v 0)), (1, .int a1)]) hx hb dX8_missing_14 rfl hl (by decide) rfl (fun ls hl => ?_)
    refine lv_iconst (v := -1) hx hb dX8_missing_15 kI_m1 ?_
    refine lv_istore_n (lv' := [(3, .int (-1 : Int32)), (2, .int (0 : Int32)), (0, .ref (zA v 0)), (1, .int a1)]) hx hb dX8_missing_16 rfl hl (by decide) rfl (fun ls hl => ?_)
    refine lv_iconst (v := 0) hx hb dX8_missing_17 kI_0 ?_
    refine lv_istore (lv' := [(4, .int (0 : Int32)), (3, .int (-1 : Int32)), (2, .int (0 : Int32)), (0, .ref (zA v 0)), (1, .int a1)]) hx hb dX8_missing_18 hl (by decide) rfl (fun ls hl => ?_)
    exact wL20 N (a1, (0 : Int32), (-1 : Int32), (0 : Int32), q1.2) hf _ _ _ hP hS (lv_sub hl [3, 4, 2, 1, 0] rfl)
  · have hf := ite_t c2 hf
    refine lv_bipush (v := -2) hx hb dX8_missing_10 kB_m2 ?_
    exact hret _ _ _ _ _ _ (Or.inl rfl) (Option.some.inj hf) hP hS dX8_missing_12
abbrev rm_X8_lies : Room := { frames := 5, cells := 0, slots := 0, locals := 159 }
set_option maxRecDepth 100000 in
theorem t_X8_lies (l : Launch) (v : Ev) (N : Nat) (a1 : Int32) (g : SM) (res : Int32 × SM) (hf : x_X8_lies N a1 g = some res) : Ci l yX8_lies cX8_lies 4 .int rm_X8_lies pM v [.ref (zA v 0), .int a1] g res := by
  refine ze_i (by decide +kernel) (Nat.le_of_ble_eq_true rfl) ?_
  intro p e s m args below meth c Q ls hcx hret hP hl
  obtain ⟨hx, hb, hml, hown, hts, hk⟩ := hcx
  have hown : s.vm.findClass RX8 = some m.cls := hown
  have hS : va_S (An nM v) s.heap s.heap [] := va_S.rf
  have hl : lv_has ls 4 [(0, .ref (zA v 0)), (1, .int a1)] := hl
  have wb52 : ∀ (h15 : Int32 × Int32 × Int32 × SM → Option (Int32 × SM)) (hh15 : ∀ x : Int32 × Int32 × Int32 × SM, h15 x = some res → ∀ (H : Heap) (locs : List Loc) (ls : Array Slot), va_P (zD v) vwCl (pM.1 v x.2.2.2) H → va_S (An nM v) s.heap H locs → lv_has ls 4 [(0, .ref (zA v 0)), (1, .int x.1), (2, .int x.2.1), (3, .int x.2.2.1)] → W p l e rm_X8_lies s m args below meth c H locs 0 0 Q (F0 m 15 ls [])) (y1 : Int32) (y2 : Int32) (y3 : Int32) (g : SM) (hf : x_X8_lies_b52 N h15 y1 y2 y3 g = some res) (H : Heap) (locs : List Loc) (ls : Array Slot) (hP : va_P (zD v) vwCl (pM.1 v g) H) (hS : va_S (An nM v) s.heap H locs) (hl : lv_has ls 4 [(0, .ref (zA v 0)), (1, .int y1), (2, .int y2), (3, .int y3)]), W p l e rm_X8_lies s m args below meth c H locs 0 0 Q (F0 m 52 ls []) := by
    intro h15 hh15 y1 y2 y3 g hf H locs ls hP hS hl
    unfold x_X8_lies_b52 at hf
    obtain ⟨x6, ex6, hf⟩ := lt_e hf
    refine lv_iinc (v := x6) (lv' := [(3, .int x6), (0, .ref (zA v 0)), (1, .int y1), (2, .int y2)]) hx hb dX8_lies_52 hl (k := 3) rfl ((congrArg (fun z => y3 + z) kI_1).trans ex6.symm) (by decide) rfl (fun ls hl => ?_)
    refine lv_goto (tgt := 15) hx hb dX8_lies_55 (by decide) ?_
    exact hh15 (y1, y2, x6, g) hf _ _ _ hP hS (lv_sub hl [1, 2, 3, 0] rfl)
  have wL15 : ∀ (n : Nat) (x : Int32 × Int32 × Int32 × SM), lp (x_X8_lies_B15 N) n x = some res → ∀ (H : Heap) (locs : List Loc) (ls : Array Slot), va_P (zD v) vwCl (pM.1 v x.2.2.2) H → va_S (An nM v) s.heap H locs → lv_has ls 4 [(0, .ref (zA v 0)), (1, .int x.1), (2, .int x.2.1), (3, .int x.2.2.1)] → W p l e rm_X8_lies s m args below meth c H locs 0 0 Q (F0 m 15 ls []) := by
    refine lp_w (P := fun x : Int32 × Int32 × Int32 × SM => ∀ (H : Heap) (locs : List Loc) (ls : Array Slot), va_P (zD v) vwCl (pM.1 v x.2.2.2) H → va_S (An nM v) s.heap H locs → lv_has ls 4 [(0, .ref (zA v 0)), (1, .int x.1), (2, .int x.2.1), (3, .int x.2.2.1)] → W p l e rm_X8_lies s m args below meth c H locs 0 0 Q (F0 m 15 ls [])) ?_
    intro h15 hh15 x hf H locs ls hP hS hl
    unfold x_X8_lies_B15 at hf
    refine lv_iload_n hx hb dX8_lies_15 rfl (lv_at hl 3 rfl) ?_
    refine lv_bipush (v := 20) hx hb dX8_lies_16 kB_20 ?_
    refine lv_icmp_ge (tgt := 58) hx hb dX8_lies_18 (by decide) (fun c3 => ?_) (fun c3 => ?_)
    · have hf := ite_t c3 hf
      refine lv_iload_n hx hb dX8_lies_58 rfl (lv_at hl 2 rfl) ?_
      exact hret _ _ _ _ _ _ (Or.inl rfl) (Option.some.inj hf) hP hS dX8_lies_59
    · have hf := ite_f c3 hf
      refine lv_aload_n hx hb dX8_lies_21 rfl (lv_at hl 0 rfl) ?_
      refine va_get (D := zD v) (ci := 7) (v := .ref (zA v 8)) (C := RX8) (T := TX8) (N := 55) hx hb hts iX8 hown hk.1 hP 0 rfl rfl 14 (by decide) (hts _ fl_X8_44) (fun _ h9 => h9) rfl dX8_lies_22 ?_
      refine lv_iload_n hx hb dX8_lies_25 rfl (lv_at hl 1 rfl) ?_
      obtain ⟨c4, hf⟩ := gd_e hf
      refine va_iald hx hb hk.1 hP 8 0 rfl rfl (inb_in c4) dX8_lies_26 ?_
      refine lv_iload_n hx hb dX8_lies_27 rfl (lv_at hl 3 rfl) ?_
      refine lv_ishr hx hb dX8_lies_28 ?_
      refine lv_iconst (v := 1) hx hb dX8_lies_29 kI_1 ?_
      refine lv_iand hx hb dX8_lies_30 ?_
      refine lv_iconst (v := 1) hx hb dX8_lies_31 kI_1 ?_
      refine lv_icmp_ne (tgt := 52) hx hb dX8_lies_32 (by decide) (fun c5 => ?_) (fun c5 => ?_)
      · have hf := ite_f c5 hf
        exact wb52 h15 hh15 x.1 x.2.1 x.2.2.1 x.2.2.2 hf _ _ _ hP hS (lv_sub hl [0, 1, 2, 3] rfl)
      · have hf := ite_t c5 hf
        refine lv_aload_n hx hb dX8_lies_35 rfl (lv_at hl 0 rfl) ?_
        refine lv_iload_n hx hb dX8_lies_36 rfl (lv_at hl 1 rfl) ?_
        refine lv_iconst (v := 1) hx hb dX8_lies_37 kI_1 ?_
        refine lv_iload_n hx hb dX8_lies_38 rfl (lv_at hl 3 rfl) ?_
        refine lv_ishl hx hb dX8_lies_39 ?_
        obtain ⟨q7, eq7, hf⟩ := bd_e hf
        refine zki hS (zrV (As := [.int x.1, .int ((1 : Int32) <<< (x.2.2.1 &&& 31))]) (rest := []) okM hx hb hml hown hts hk hP hS (t_X8_servedBy l v N x.1 ((1 : Int32) <<< (x.2.2.1 &&& 31)) x.2.2.2 _ eq7) vk_X8_servedBy ml_X8_351 rfl rfl ⟨(Nat.le_of_ble_eq_true rfl), (Nat.le_of_ble_eq_true rfl)⟩ (va_recv (q := (RX8, TX8, 55)) hk.1 hP (q0 := 0) (ci := 7) rfl rfl) rfl hl.1 rfl (Nat.le_of_ble_eq_true rfl) dX8_lies_40) (fun H locs hP hS => ?_)
        refine lv_if_ne (tgt := 52) hx hb dX8_lies_43 (by decide) (fun c8 => ?_) (fun c8 => ?_)
        · have hf := ite_f c8 hf
          exact wb52 h15 hh15 x.1 x.2.1 x.2.2.1 q7.2 hf _ _ _ hP hS (lv_sub hl [0, 1, 2, 3] rfl)
        · have hf := ite_t c8 hf
          refine lv_iload_n hx hb dX8_lies_46 rfl (lv_at hl 2 rfl) ?_
          refine lv_iconst (v := 1) hx hb dX8_lies_47 kI_1 ?_
          refine lv_iload_n hx hb dX8_lies_48 rfl (lv_at hl 3 rfl) ?_
          refine lv_ishl hx hb dX8_lies_49 ?_
          refine lv_ior hx hb dX8_lies_50 ?_
          obtain ⟨x9, ex9, hf⟩ := lt_e hf
          refine lv_nm ex9 ?_
          refine lv_istore_n (lv' := [(2, .int x9), (0, .ref (zA v 0)), (1, .int x.1), (3, .int x.2.2.1)]) hx hb dX8_lies_51 rfl hl (by decide) rfl (fun ls hl => ?_)
          exact wb52 h15 hh15 x.1 x9 x.2.2.1 q7.2 hf _ _ _ hP hS (lv_sub hl [1, 2, 0, 3] rfl)
  unfold x_X8_lies at hf
  refine lv_aload_n hx hb dX8_lies_0 rfl (lv_at hl 0 rfl) ?_
  refine lv_iload_n hx hb dX8_lies_1 rfl (lv_at hl 1 rfl) ?_
  obtain ⟨q1, eq1, hf⟩ := bd_e hf
  refine zki hS (zrV (As := [.int a1]) (rest := []) okM hx hb hml hown hts hk hP hS (t_X8_isMake l v N a1 g _ eq1) vk_X8_isMake ml_X8_112 rfl rfl ⟨(Nat.le_of_ble_eq_true rfl), (Nat.le_of_ble_eq_true rfl)⟩ (va_recv (q := (RX8, TX8, 55)) hk.1 hP (q0 := 0) (ci := 7) rfl rfl) rfl hl.1 rfl (Nat.le_of_ble_eq_true rfl) dX8_lies_2) (fun H locs hP hS => ?_)
  refine lv_if_ne (tgt := 11) hx hb dX8_lies_5 (by decide) (fun c2 => ?_) (fun c2 => ?_)
  · have hf := ite_f c2 hf
    refine lv_iconst (v := 0) hx hb dX8_lies_11 kI_0 ?_
    refine lv_istore_n (lv' := [(2, .int (0 : Int32)), (0, .ref (zA v 0)), (1, .int a1)]) hx hb dX8_lies_12 rfl hl (by decide) rfl (fun ls hl => ?_)
    refine lv_iconst (v := 0) hx hb dX8_lies_13 kI_0 ?_
    refine lv_istore_n (lv' := [(3, .int (0 : Int32)), (2, .int (0 : Int32)), (0, .ref (zA v 0)), (1, .int a1)]) hx hb dX8_lies_14 rfl hl (by decide) rfl (fun ls hl => ?_)
    exact wL15 N (a1, (0 : Int32), (0 : Int32), q1.2) hf _ _ _ hP hS (lv_sub hl [2, 3, 1, 0] rfl)
  · have hf := ite_t c2 hf
    refine lv_bipush (v := -2) hx hb dX8_lies_8 kB_m2 ?_
    exact hret _ _ _ _ _ _ (Or.inl rfl) (Option.some.inj hf) hP hS dX8_lies_10
abbrev rm_X8_runs : Room := { frames := 4, cells := 0, slots := 0, locals := 136 }
set_option maxRecDepth 100000 in
theorem t_X8_runs (l : Launch) (v : Ev) (N : Nat) (a1 : Int32) (a2 : Int32) (a3 : Int32) (a4 : Int32) (g : SM) (res : Int32 × SM) (hf : x_X8_runs N a1 a2 a3 a4 g = some res) : Ci l yX8_runs cX8_runs 10 .int rm_X8_runs pM v [.ref (zA v 0), .int a1, .int a2, .int a3, .int a4] g res := by
  refine ze_i (by decide +kernel) (Nat.le_of_ble_eq_true rfl) ?_
  intro p e s m args below meth c Q ls hcx hret hP hl
  obtain ⟨hx, hb, hml, hown, hts, hk⟩ := hcx
  have hown : s.vm.findClass RX8 = some m.cls := hown
  have hS : va_S (An nM v) s.heap s.heap [] := va_S.rf
  have hl : lv_has ls 10 [(0, .ref (zA v 0)), (1, .int a1), (2, .int a2), (3, .int a3), (4, .int a4)] := hl
  have wb134 : ∀ (h73 : Int32 × Int32 × Int32 × Int32 × Int32 × Int32 × Int32 × Int32 × SM → Option (Int32 × SM)) (hh73 : ∀ x : Int32 × Int32 × Int32 × Int32 × Int32 × Int32 × Int32 × Int32 × SM, h73 x = some res → ∀ (H : Heap) (locs : List Loc) (ls : Array Slot), va_P (zD v) vwCl (pM.1 v x.2.2.2.2.2.2.2.2) H → va_S (An nM v) s.heap H locs → lv_has ls 10 [(0, .ref (zA v 0)), (1, .int x.1), (2, .int x.2.1), (3, .int x.2.2.1), (4, .int x.2.2.2.1), (6, .int x.2.2.2.2.1), (7, .int x.2.2.2.2.2.1), (8, .int x.2.2.2.2.2.2.1), (9, .int x.2.2.2.2.2.2.2.1)] → W p l e rm_X8_runs s m args below meth c H locs 0 0 Q (F0 m 73 ls [])) (y1 : Int32) (y2 : Int32) (y3 : Int32) (y4 : Int32) (y6 : Int32) (y7 : Int32) (y9 : Int32) (t0 : Int32) (t1 : Int32) (g : SM) (hf : x_X8_runs_b134 N h73 y1 y2 y3 y4 y6 y7 y9 t0 t1 g = some res) (H : Heap) (locs : List Loc) (ls : Array Slot) (hP : va_P (zD v) vwCl (pM.1 v g) H) (hS : va_S (An nM v) s.heap H locs) (hl : lv_has ls 10 [(0, .ref (zA v 0)), (1, .int y1), (2, .int y2), (3, .int y3), (4, .int y4), (6, .int y6), (7, .int y7), (9, .int y9)]), W p l e rm_X8_runs s m args below meth c H locs 0 0 Q (F0 m 134 ls [.int t0, .int t1]) := by
    intro h73 hh73 y1 y2 y3 y4 y6 y7 y9 t0 t1 g hf H locs ls hP hS hl
    unfold x_X8_runs_b134 at hf
    refine lv_iload hx hb dX8_runs_134 (lv_at hl 7 rfl) ?_
    refine lv_ishl hx hb dX8_runs_136 ?_
    refine lv_ior hx hb dX8_runs_137 ?_
    obtain ⟨x26, ex26, hf⟩ := lt_e hf
    refine lv_nm ex26 ?_
    refine lv_istore (lv' := [(8, .int x26), (0, .ref (zA v 0)), (1, .int y1), (2, .int y2), (3, .int y3), (4, .int y4), (6, .int y6), (7, .int y7), (9, .int y9)]) hx hb dX8_runs_138 hl (by decide) rfl (fun ls hl => ?_)
    obtain ⟨x27, ex27, hf⟩ := lt_e hf
    refine lv_iinc (v := x27) (lv' := [(9, .int x27), (8, .int x26), (0, .ref (zA v 0)), (1, .int y1), (2, .int y2), (3, .int y3), (4, .int y4), (6, .int y6), (7, .int y7)]) hx hb dX8_runs_140 hl (k := 8) rfl ((congrArg (fun z => y9 + z) kI_1).trans ex27.symm) (by decide) rfl (fun ls hl => ?_)
    refine lv_goto (tgt := 73) hx hb dX8_runs_143 (by decide) ?_
    exact hh73 (y1, y2, y3, y4, y6, y7, x26, x27, g) hf _ _ _ hP hS (lv_sub hl [2, 3, 4, 5, 6, 7, 8, 1, 0] rfl)
  have wb117 : ∀ (h73 : Int32 × Int32 × Int32 × Int32 × Int32 × Int32 × Int32 × Int32 × SM → Option (Int32 × SM)) (hh73 : ∀ x : Int32 × Int32 × Int32 × Int32 × Int32 × Int32 × Int32 × Int32 × SM, h73 x = some res → ∀ (H : Heap) (locs : List Loc) (ls : Array Slot), va_P (zD v) vwCl (pM.1 v x.2.2.2.2.2.2.2.2) H → va_S (An nM v) s.heap H locs → lv_has ls 10 [(0, .ref (zA v 0)), (1, .int x.1), (2, .int x.2.1), (3, .int x.2.2.1), (4, .int x.2.2.2.1), (6, .int x.2.2.2.2.1), (7, .int x.2.2.2.2.2.1), (8, .int x.2.2.2.2.2.2.1), (9, .int x.2.2.2.2.2.2.2.1)] → W p l e rm_X8_runs s m args below meth c H locs 0 0 Q (F0 m 73 ls [])) (y1 : Int32) (y2 : Int32) (y3 : Int32) (y4 : Int32) (y6 : Int32) (y7 : Int32) (y8 : Int32) (y9 : Int32) (g : SM) (hf : x_X8_runs_b117 N h73 y1 y2 y3 y4 y6 y7 y8 y9 g = some res) (H : Heap) (locs : List Loc) (ls : Array Slot) (hP : va_P (zD v) vwCl (pM.1 v g) H) (hS : va_S (An nM v) s.heap H locs) (hl : lv_has ls 10 [(0, .ref (zA v 0)), (1, .int y1), (2, .int y2), (3, .int y3), (4, .int y4), (6, .int y6), (7, .int y7), (8, .int y8), (9, .int y9)]), W p l e rm_X8_runs s m args below meth c H locs 0 0 Q (F0 m 117 ls []) := by
    intro h73 hh73 y1 y2 y3 y4 y6 y7 y8 y9 g hf H locs ls hP hS hl
    unfold x_X8_runs_b117 at hf
    refine lv_iload hx hb dX8_runs_117 (lv_at hl 7 rfl) ?_
    refine lv_aload_n hx hb dX8_runs_119 rfl (lv_at hl 0 rfl) ?_
    refine lv_iload_n hx hb dX8_runs_120 rfl (lv_at hl 1 rfl) ?_
    refine lv_iload_n hx hb dX8_runs_121 rfl (lv_at hl 3 rfl) ?_
    refine lv_iload_n hx hb dX8_runs_122 rfl (lv_at hl 2 rfl) ?_
    obtain ⟨q24, eq24, hf⟩ := bd_e hf
    refine zki hS (zrV (As := [.int y1, .int y3, .int y2]) (rest := [.int y8]) okM hx hb hml hown hts hk hP hS (t_X8_isSo l v N y1 y3 y2 g _ eq24) vk_X8_isSo ml_X8_287 rfl rfl ⟨(Nat.le_of_ble_eq_true rfl), (Nat.le_of_ble_eq_true rfl)⟩ (va_recv (q := (RX8, TX8, 55)) hk.1 hP (q0 := 0) (ci := 7) rfl rfl) rfl hl.1 rfl (Nat.le_of_ble_eq_true rfl) dX8_runs_123) (fun H locs hP hS => ?_)
    refine lv_if_eq (tgt := 133) hx hb dX8_runs_126 (by decide) (fun c25 => ?_) (fun c25 => ?_)
    · have hf := ite_t c25 hf
      refine lv_iconst (v := 0) hx hb dX8_runs_133 kI_0 ?_
      exact wb134 h73 hh73 y1 y2 y3 y4 y6 y7 y9 (0 : Int32) y8 q24.2 hf _ _ _ hP hS (lv_sub hl [0, 1, 2, 3, 4, 5, 6, 8] rfl)
    · have hf := ite_f c25 hf
      refine lv_iconst (v := 1) hx hb dX8_runs_129 kI_1 ?_
      refine lv_goto (tgt := 134) hx hb dX8_runs_130 (by decide) ?_
      exact wb134 h73 hh73 y1 y2 y3 y4 y6 y7 y9 (1 : Int32) y8 q24.2 hf _ _ _ hP hS (lv_sub hl [0, 1, 2, 3, 4, 5, 6, 8] rfl)
  have wb87 : ∀ (h73 : Int32 × Int32 × Int32 × Int32 × Int32 × Int32 × Int32 × Int32 × SM → Option (Int32 × SM)) (hh73 : ∀ x : Int32 × Int32 × Int32 × Int32 × Int32 × Int32 × Int32 × Int32 × SM, h73 x = some res → ∀ (H : Heap) (locs : List Loc) (ls : Array Slot), va_P (zD v) vwCl (pM.1 v x.2.2.2.2.2.2.2.2) H → va_S (An nM v) s.heap H locs → lv_has ls 10 [(0, .ref (zA v 0)), (1, .int x.1), (2, .int x.2.1), (3, .int x.2.2.1), (4, .int x.2.2.2.1), (6, .int x.2.2.2.2.1), (7, .int x.2.2.2.2.2.1), (8, .int x.2.2.2.2.2.2.1), (9, .int x.2.2.2.2.2.2.2.1)] → W p l e rm_X8_runs s m args below meth c H locs 0 0 Q (F0 m 73 ls [])) (y1 : Int32) (y2 : Int32) (y3 : Int32) (y4 : Int32) (y6 : Int32) (y7 : Int32) (y8 : Int32) (y9 : Int32) (t0 : Int32) (t1 : Int32) (g : SM) (hf : x_X8_runs_b87 N h73 y1 y2 y3 y4 y6 y7 y8 y9 t0 t1 g = some res) (H : Heap) (locs : List Loc) (ls : Array Slot) (hP : va_P (zD v) vwCl (pM.1 v g) H) (hS : va_S (An nM v) s.heap H locs) (hl : lv_has ls 10 [(0, .ref (zA v 0)), (1, .int y1), (2, .int y2), (3, .int y3), (4, .int y4), (6, .int y6), (7, .int y7), (8, .int y8), (9, .int y9)]), W p l e rm_X8_runs s m args below meth c H locs 0 0 Q (F0 m 87 ls [.int t0, .int t1]) := by
    intro h73 hh73 y1 y2 y3 y4 y6 y7 y8 y9 t0 t1 g hf H locs ls hP hS hl
    unfold x_X8_runs_b87 at hf
    refine lv_icmp_ge (tgt := 146) hx hb dX8_runs_87 (by decide) (fun c16 => ?_) (fun c16 => ?_)
    · have hf := ite_t c16 hf
      refine lv_aload_n hx hb dX8_runs_146 rfl (lv_at hl 0 rfl) ?_
      refine va_get (D := zD v) (ci := 7) (v := .ref (zA v 7)) (C := RX8) (T := TX8) (N := 55) hx hb hts iX8 hown hk.1 hP 0 rfl rfl 13 (by decide) (hts _ fl_X8_41) (fun _ h9 => h9) rfl dX8_runs_147 ?_
      refine lv_iload_n hx hb dX8_runs_150 rfl (lv_at hl 2 rfl) ?_
      refine lv_iload hx hb dX8_runs_151 (lv_at hl 5 rfl) ?_
      obtain ⟨c17, hf⟩ := gd_e hf
      refine va_iast hx hb hk.1 hP (zw_D okM hk _) hS 7 0 rfl rfl (inb_in c17) dX8_runs_153 (fun H locs hP1 _ hS => ?_)
      have hP : va_P (zD v) vwCl (pM.1 v (up g.1 7 (upd (g.1 7) (y2).toNatClampNeg y6), g.2)) H := hP1
      obtain ⟨g18, eg18, hf⟩ := lt_e hf
      rw [← eg18] at hP
      refine lv_aload_n hx hb dX8_runs_154 rfl (lv_at hl 0 rfl) ?_
      refine va_get (D := zD v) (ci := 7) (v := .ref (zA v 5)) (C := RX8) (T := TX8) (N := 55) hx hb hts iX8 hown hk.1 hP 0 rfl rfl 11 (by decide) (hts _ fl_X8_35) (fun _ h9 => h9) rfl dX8_runs_155 ?_
      refine lv_iload_n hx hb dX8_runs_158 rfl (lv_at hl 2 rfl) ?_
      refine lv_iload hx hb dX8_runs_159 (lv_at hl 6 rfl) ?_
      obtain ⟨c19, hf⟩ := gd_e hf
      refine va_iast hx hb hk.1 hP (zw_D okM hk _) hS 5 0 rfl rfl (inb_in c19) dX8_runs_161 (fun H locs hP1 _ hS => ?_)
      have hP : va_P (zD v) vwCl (pM.1 v (up g18.1 5 (upd (g18.1 5) (y2).toNatClampNeg y7), g18.2)) H := hP1
      obtain ⟨g20, eg20, hf⟩ := lt_e hf
      rw [← eg20] at hP
      refine lv_iload hx hb dX8_runs_162 (lv_at hl 7 rfl) ?_
      exact hret _ _ _ _ _ _ (Or.inl rfl) (Option.some.inj hf) hP hS dX8_runs_164
    · have hf := ite_f c16 hf
      refine lv_iload hx hb dX8_runs_90 (lv_at hl 4 rfl) ?_
      refine lv_if_ne (tgt := 109) hx hb dX8_runs_92 (by decide) (fun c21 => ?_) (fun c21 => ?_)
      · have hf := ite_f c21 hf
        refine lv_aload_n hx hb dX8_runs_109 rfl (lv_at hl 0 rfl) ?_
        refine va_get (D := zD v) (ci := 7) (v := .ref (zA v 5)) (C := RX8) (T := TX8) (N := 55) hx hb hts iX8 hown hk.1 hP 0 rfl rfl 11 (by decide) (hts _ fl_X8_35) (fun _ h9 => h9) rfl dX8_runs_110 ?_
        refine lv_iload_n hx hb dX8_runs_113 rfl (lv_at hl 2 rfl) ?_
        refine lv_iload hx hb dX8_runs_114 (lv_at hl 8 rfl) ?_
        obtain ⟨c22, hf⟩ := gd_e hf
        refine va_iast hx hb hk.1 hP (zw_D okM hk _) hS 5 0 rfl rfl (inb_in c22) dX8_runs_116 (fun H locs hP1 _ hS => ?_)
        have hP : va_P (zD v) vwCl (pM.1 v (up g.1 5 (upd (g.1 5) (y2).toNatClampNeg y9), g.2)) H := hP1
        obtain ⟨g23, eg23, hf⟩ := lt_e hf
        rw [← eg23] at hP
        exact wb117 h73 hh73 y1 y2 y3 y4 y6 y7 y8 y9 g23 hf _ _ _ hP hS (lv_sub hl [0, 1, 2, 3, 4, 5, 6, 7, 8] rfl)
      · have hf := ite_t c21 hf
        refine lv_aload_n hx hb dX8_runs_95 rfl (lv_at hl 0 rfl) ?_
        refine va_get (D := zD v) (ci := 7) (v := .ref (zA v 7)) (C := RX8) (T := TX8) (N := 55) hx hb hts iX8 hown hk.1 hP 0 rfl rfl 13 (by decide) (hts _ fl_X8_41) (fun _ h9 => h9) rfl dX8_runs_96 ?_
        refine lv_iload_n hx hb dX8_runs_99 rfl (lv_at hl 2 rfl) ?_
        refine lv_iload hx hb dX8_runs_100 (lv_at hl 8 rfl) ?_
        refine lv_bipush (v := 9) hx hb dX8_runs_102 kB_9 ?_
        refine lv_isub hx hb dX8_runs_104 ?_
        obtain ⟨c28, hf⟩ := gd_e hf
        refine va_iast hx hb hk.1 hP (zw_D okM hk _) hS 7 0 rfl rfl (inb_in c28) dX8_runs_105 (fun H locs hP1 _ hS => ?_)
        have hP : va_P (zD v) vwCl (pM.1 v (up g.1 7 (upd (g.1 7) (y2).toNatClampNeg (y9 - (9 : Int32))), g.2)) H := hP1
        obtain ⟨g29, eg29, hf⟩ := lt_e hf
        rw [← eg29] at hP
        refine lv_goto (tgt := 117) hx hb dX8_runs_106 (by decide) ?_
        exact wb117 h73 hh73 y1 y2 y3 y4 y6 y7 y8 y9 g29 hf _ _ _ hP hS (lv_sub hl [0, 1, 2, 3, 4, 5, 6, 7, 8] rfl)
  have wL73 : ∀ (n : Nat) (x : Int32 × Int32 × Int32 × Int32 × Int32 × Int32 × Int32 × Int32 × SM), lp (x_X8_runs_B73 N) n x = some res → ∀ (H : Heap) (locs : List Loc) (ls : Array Slot), va_P (zD v) vwCl (pM.1 v x.2.2.2.2.2.2.2.2) H → va_S (An nM v) s.heap H locs → lv_has ls 10 [(0, .ref (zA v 0)), (1, .int x.1), (2, .int x.2.1), (3, .int x.2.2.1), (4, .int x.2.2.2.1), (6, .int x.2.2.2.2.1), (7, .int x.2.2.2.2.2.1), (8, .int x.2.2.2.2.2.2.1), (9, .int x.2.2.2.2.2.2.2.1)] → W p l e rm_X8_runs s m args below meth c H locs 0 0 Q (F0 m 73 ls []) := by
    refine lp_w (P := fun x : Int32 × Int32 × Int32 × Int32 × Int32 × Int32 × Int32 × Int32 × SM => ∀ (H : Heap) (locs : List Loc) (ls : Array Slot), va_P (zD v) vwCl (pM.1 v x.2.2.2.2.2.2.2.2) H → va_S (An nM v) s.heap H locs → lv_has ls 10 [(0, .ref (zA v 0)), (1, .int x.1), (2, .int x.2.1), (3, .int x.2.2.1), (4, .int x.2.2.2.1), (6, .int x.2.2.2.2.1), (7, .int x.2.2.2.2.2.1), (8, .int x.2.2.2.2.2.2.1), (9, .int x.2.2.2.2.2.2.2.1)] → W p l e rm_X8_runs s m args below meth c H locs 0 0 Q (F0 m 73 ls [])) ?_
    intro h73 hh73 x hf H locs ls hP hS hl
    unfold x_X8_runs_B73 at hf
    refine lv_iload hx hb dX8_runs_73 (lv_at hl 8 rfl) ?_
    refine lv_iload hx hb dX8_runs_75 (lv_at hl 4 rfl) ?_
    refine lv_if_ne (tgt := 85) hx hb dX8_runs_77 (by decide) (fun c15 => ?_) (fun c15 => ?_)
    · have hf := ite_f c15 hf
      refine lv_bipush (v := 6) hx hb dX8_runs_85 kB_6 ?_
      exact wb87 h73 hh73 x.1 x.2.1 x.2.2.1 x.2.2.2.1 x.2.2.2.2.1 x.2.2.2.2.2.1 x.2.2.2.2.2.2.1 x.2.2.2.2.2.2.2.1 (6 : Int32) x.2.2.2.2.2.2.2.1 x.2.2.2.2.2.2.2.2 hf _ _ _ hP hS (lv_sub hl [0, 1, 2, 3, 4, 5, 6, 7, 8] rfl)
    · have hf := ite_t c15 hf
      refine lv_bipush (v := 19) hx hb dX8_runs_80 kB_19 ?_
      refine lv_goto (tgt := 87) hx hb dX8_runs_82 (by decide) ?_
      exact wb87 h73 hh73 x.1 x.2.1 x.2.2.1 x.2.2.2.1 x.2.2.2.2.1 x.2.2.2.2.2.1 x.2.2.2.2.2.2.1 x.2.2.2.2.2.2.2.1 (19 : Int32) x.2.2.2.2.2.2.2.1 x.2.2.2.2.2.2.2.2 hf _ _ _ hP hS (lv_sub hl [0, 1, 2, 3, 4, 5, 6, 7, 8] rfl)
  unfold x_X8_runs at hf
  refine lv_iload_n hx hb dX8_runs_0 rfl (lv_at hl 1 rfl) ?_
  obtain ⟨q1, eq1, hf⟩ := bd_e hf
  refine zki hS (zrS (As := [.int a1]) (rest := []) okM hx hb hml hown hts hk hP hS (t_X8_isSheet l v N a1 g _ eq1) sk_X8_isSheet ml_X8_280 rfl rfl ⟨(Nat.le_of_ble_eq_true rfl), (Nat.le_of_ble_eq_true rfl)⟩ rfl hl.1 rfl (Nat.le_of_ble_eq_true rfl) dX8_runs_1) (fun H locs hP hS => ?_)
  refine lv_if_eq (tgt := 33) hx hb dX8_runs_4 (by decide) (fun c2 => ?_) (fun c2 => ?_)
  · have hf := ite_t c2 hf
    refine lv_bipush (v := -2) hx hb dX8_runs_33 kB_m2 ?_
    exact hret _ _ _ _ _ _ (Or.inl rfl) (Option.some.inj hf) hP hS dX8_runs_35
  · have hf := ite_f c2 hf
    refine lv_aload_n hx hb dX8_runs_7 rfl (lv_at hl 0 rfl) ?_
    refine lv_iload_n hx hb dX8_runs_8 rfl (lv_at hl 2 rfl) ?_
    obtain ⟨q3, eq3, hf⟩ := bd_e hf
    refine zki hS (zrV (As := [.int a2]) (rest := []) okM hx hb hml hown hts hk hP hS (t_X8_isMake l v N a2 q1.2 _ eq3) vk_X8_isMake ml_X8_112 rfl rfl ⟨(Nat.le_of_ble_eq_true rfl), (Nat.le_of_ble_eq_true rfl)⟩ (va_recv (q := (RX8, TX8, 55)) hk.1 hP (q0 := 0) (ci := 7) rfl rfl) rfl hl.1 rfl (Nat.le_of_ble_eq_true rfl) dX8_runs_9) (fun H locs hP hS => ?_)
    refine lv_if_eq (tgt := 33) hx hb dX8_runs_12 (by decide) (fun c4 => ?_) (fun c4 => ?_)
    · have hf := ite_t c4 hf
      refine lv_bipush (v := -2) hx hb dX8_runs_33 kB_m2 ?_
      exact hret _ _ _ _ _ _ (Or.inl rfl) (Option.some.inj hf) hP hS dX8_runs_35
    · have hf := ite_f c4 hf
      refine lv_iload_n hx hb dX8_runs_15 rfl (lv_at hl 3 rfl) ?_
      obtain ⟨q5, eq5, hf⟩ := bd_e hf
      refine zki hS (zrS (As := [.int a3]) (rest := []) okM hx hb hml hown hts hk hP hS (t_X8_isFoot l v N a3 q3.2 _ eq5) sk_X8_isFoot ml_X8_108 rfl rfl ⟨(Nat.le_of_ble_eq_true rfl), (Nat.le_of_ble_eq_true rfl)⟩ rfl hl.1 rfl (Nat.le_of_ble_eq_true rfl) dX8_runs_16) (fun H locs hP hS => ?_)
      refine lv_if_eq (tgt := 33) hx hb dX8_runs_19 (by decide) (fun c6 => ?_) (fun c6 => ?_)
      · have hf := ite_t c6 hf
        refine lv_bipush (v := -2) hx hb dX8_runs_33 kB_m2 ?_
        exact hret _ _ _ _ _ _ (Or.inl rfl) (Option.some.inj hf) hP hS dX8_runs_35
      · have hf := ite_f c6 hf
        refine lv_iload hx hb dX8_runs_22 (lv_at hl 4 rfl) ?_
        refine lv_i2l hx hb dX8_runs_24 rfl ?_
        refine lv_lconst (v := 0) hx hb dX8_runs_25 kL_0 ?_
        refine lv_lconst (v := 1) hx hb dX8_runs_26 kL_1 ?_
        obtain ⟨q7, eq7, hf⟩ := bd_e hf
        refine zki hS (zrS (As := [.long ((a4).toInt64), .long (0 : Int64), .long (1 : Int64)]) (rest := []) okM hx hb hml hown hts hk hP hS (t_X8_in l v N ((a4).toInt64) (0 : Int64) (1 : Int64) q5.2 _ eq7) sk_X8_in ml_X8_100 rfl rfl ⟨(Nat.le_of_ble_eq_true rfl), (Nat.le_of_ble_eq_true rfl)⟩ rfl hl.1 rfl (Nat.le_of_ble_eq_true rfl) dX8_runs_27) (fun H locs hP hS => ?_)
        refine lv_if_ne (tgt := 36) hx hb dX8_runs_30 (by decide) (fun c8 => ?_) (fun c8 => ?_)
        · have hf := ite_f c8 hf
          refine lv_aload_n hx hb dX8_runs_36 rfl (lv_at hl 0 rfl) ?_
          refine lv_iload_n hx hb dX8_runs_37 rfl (lv_at hl 1 rfl) ?_
          obtain ⟨q9, eq9, hf⟩ := bd_e hf
          refine zki hS (zrV (As := [.int a1]) (rest := []) okM hx hb hml hown hts hk hP hS (t_X8_canBad l v N a1 q7.2 _ eq9) vk_X8_canBad ml_X8_291 rfl rfl ⟨(Nat.le_of_ble_eq_true rfl), (Nat.le_of_ble_eq_true rfl)⟩ (va_recv (q := (RX8, TX8, 55)) hk.1 hP (q0 := 0) (ci := 7) rfl rfl) rfl hl.1 rfl (Nat.le_of_ble_eq_true rfl) dX8_runs_38) (fun H locs hP hS => ?_)
          refine lv_istore (lv' := [(5, .int q9.1), (0, .ref (zA v 0)), (1, .int a1), (2, .int a2), (3, .int a3), (4, .int a4)]) hx hb dX8_runs_41 hl (by decide) rfl (fun ls hl => ?_)
          refine lv_iload hx hb dX8_runs_43 (lv_at hl 0 rfl) ?_
          refine lv_if_eq (tgt := 51) hx hb dX8_runs_45 (by decide) (fun c10 => ?_) (fun c10 => ?_)
          · have hf := ite_t c10 hf
            refine lv_aload_n hx hb dX8_runs_51 rfl (lv_at hl 1 rfl) ?_
            refine va_get (D := zD v) (ci := 7) (v := .ref (zA v 7)) (C := RX8) (T := TX8) (N := 55) hx hb hts iX8 hown hk.1 hP 0 rfl rfl 13 (by decide) (hts _ fl_X8_41) (fun _ h9 => h9) rfl dX8_runs_52 ?_
            refine lv_iload_n hx hb dX8_runs_55 rfl (lv_at hl 3 rfl) ?_
            obtain ⟨c11, hf⟩ := gd_e hf
            refine va_iald hx hb hk.1 hP 7 0 rfl rfl (inb_in c11) dX8_runs_56 ?_
            obtain ⟨x12, ex12, hf⟩ := lt_e hf
            refine lv_nm ex12 ?_
            refine lv_istore (lv' := [(6, .int x12), (5, .int q9.1), (0, .ref (zA v 0)), (1, .int a1), (2, .int a2), (3, .int a3), (4, .int a4)]) hx hb dX8_runs_57 hl (by decide) rfl (fun ls hl => ?_)
            refine lv_aload_n hx hb dX8_runs_59 rfl (lv_at hl 2 rfl) ?_
            refine va_get (D := zD v) (ci := 7) (v := .ref (zA v 5)) (C := RX8) (T := TX8) (N := 55) hx hb hts iX8 hown hk.1 hP 0 rfl rfl 11 (by decide) (hts _ fl_X8_35) (fun _ h9 => h9) rfl dX8_runs_60 ?_
            refine lv_iload_n hx hb dX8_runs_63 rfl (lv_at hl 4 rfl) ?_
            obtain ⟨c13, hf⟩ := gd_e hf
            refine va_iald hx hb hk.1 hP 5 0 rfl rfl (inb_in c13) dX8_runs_64 ?_
            obtain ⟨x14, ex14, hf⟩ := lt_e hf
            refine lv_nm ex14 ?_
            refine lv_istore (lv' := [(7, .int x14), (6, .int x12), (5, .int q9.1), (0, .ref (zA v 0)), (1, .int a1), (2, .int a2), (3, .int a3), (4, .int a4)]) hx hb dX8_runs_65 hl (by decide) rfl (fun ls hl => ?_)
            refine lv_iconst (v := 0) hx hb dX8_runs_67 kI_0 ?_
            refine lv_istore (lv' := [(8, .int (0 : Int32)), (7, .int x14), (6, .int x12), (5, .int q9.1), (0, .ref (zA v 0)), (1, .int a1), (2, .int a2), (3, .int a3), (4, .int a4)]) hx hb dX8_runs_68 hl (by decide) rfl (fun ls hl => ?_)
            refine lv_iconst (v := 0) hx hb dX8_runs_70 kI_0 ?_
            refine lv_istore (lv' := [(9, .int (0 : Int32)), (8, .int (0 : Int32)), (7, .int x14), (6, .int x12), (5, .int q9.1), (0, .ref (zA v 0)), (1, .int a1), (2, .int a2), (3, .int a3), (4, .int a4)]) hx hb dX8_runs_71 hl (by decide) rfl (fun ls hl => ?_)
            exact wL73 N (a1, a2, a3, a4, x12, x14, (0 : Int32), (0 : Int32), q9.2) hf _ _ _ hP hS (lv_sub hl [5, 6, 7, 8, 9, 3, 2, 1, 0] rfl)
          · have hf := ite_f c10 hf
            refine lv_iload hx hb dX8_runs_48 (lv_at hl 0 rfl) ?_
            exact hret _ _ _ _ _ _ (Or.inl rfl) (Option.some.inj hf) hP hS dX8_runs_50
        · have hf := ite_t c8 hf
          refine lv_bipush (v := -2) hx hb dX8_runs_33 kB_m2 ?_
          exact hret _ _ _ _ _ _ (Or.inl rfl) (Option.some.inj hf) hP hS dX8_runs_35
abbrev rm_X8_stockMany : Room := { frames := 2, cells := 0, slots := 0, locals := 81 }
set_option maxRecDepth 100000 in
theorem t_X8_stockMany (l : Launch) (v : Ev) (N : Nat) (g : SM) (res : Int32 × SM) (hf : x_X8_stockMany N g = some res) : Ci l yX8_stockMany cX8_stockMany 3 .int rm_X8_stockMany pM v [.ref (zA v 0)] g res := by
  refine ze_i (by decide +kernel) (Nat.le_of_ble_eq_true rfl) ?_
  intro p e s m args below meth c Q ls hcx hret hP hl
  obtain ⟨hx, hb, hml, hown, hts, hk⟩ := hcx
  have hown : s.vm.findClass RX8 = some m.cls := hown
  have hS : va_S (An nM v) s.heap s.heap [] := va_S.rf
  have hl : lv_has ls 3 [(0, .ref (zA v 0))] := hl
  have wb29 : ∀ (h4 : Int32 × Int32 × SM → Option (Int32 × SM)) (hh4 : ∀ x : Int32 × Int32 × SM, h4 x = some res → ∀ (H : Heap) (locs : List Loc) (ls : Array Slot), va_P (zD v) vwCl (pM.1 v x.2.2) H → va_S (An nM v) s.heap H locs → lv_has ls 3 [(0, .ref (zA v 0)), (1, .int x.1), (2, .int x.2.1)] → W p l e rm_X8_stockMany s m args below meth c H locs 0 0 Q (F0 m 4 ls [])) (y2 : Int32) (t0 : Int32) (t1 : Int32) (g : SM) (hf : x_X8_stockMany_b29 N h4 y2 t0 t1 g = some res) (H : Heap) (locs : List Loc) (ls : Array Slot) (hP : va_P (zD v) vwCl (pM.1 v g) H) (hS : va_S (An nM v) s.heap H locs) (hl : lv_has ls 3 [(0, .ref (zA v 0)), (2, .int y2)]), W p l e rm_X8_stockMany s m args below meth c H locs 0 0 Q (F0 m 29 ls [.int t0, .int t1]) := by
    intro h4 hh4 y2 t0 t1 g hf H locs ls hP hS hl
    unfold x_X8_stockMany_b29 at hf
    refine lv_iadd hx hb dX8_stockMany_29 ?_
    obtain ⟨x4, ex4, hf⟩ := lt_e hf
    refine lv_nm ex4 ?_
    refine lv_istore_n (lv' := [(1, .int x4), (0, .ref (zA v 0)), (2, .int y2)]) hx hb dX8_stockMany_30 rfl hl (by decide) rfl (fun ls hl => ?_)
    obtain ⟨x5, ex5, hf⟩ := lt_e hf
    refine lv_iinc (v := x5) (lv' := [(2, .int x5), (1, .int x4), (0, .ref (zA v 0))]) hx hb dX8_stockMany_31 hl (k := 2) rfl ((congrArg (fun z => y2 + z) kI_1).trans ex5.symm) (by decide) rfl (fun ls hl => ?_)
    refine lv_goto (tgt := 4) hx hb dX8_stockMany_34 (by decide) ?_
    exact hh4 (x4, x5, g) hf _ _ _ hP hS (lv_sub hl [2, 1, 0] rfl)
  have wL4 : ∀ (n : Nat) (x : Int32 × Int32 × SM), lp (x_X8_stockMany_B4 N) n x = some res → ∀ (H : Heap) (locs : List Loc) (ls : Array Slot), va_P (zD v) vwCl (pM.1 v x.2.2) H → va_S (An nM v) s.heap H locs → lv_has ls 3 [(0, .ref (zA v 0)), (1, .int x.1), (2, .int x.2.1)] → W p l e rm_X8_stockMany s m args below meth c H locs 0 0 Q (F0 m 4 ls []) := by
    refine lp_w (P := fun x : Int32 × Int32 × SM => ∀ (H : Heap) (locs : List Loc) (ls : Array Slot), va_P (zD v) vwCl (pM.1 v x.2.2) H → va_S (An nM v) s.heap H locs → lv_has ls 3 [(0, .ref (zA v 0)), (1, .int x.1), (2, .int x.2.1)] → W p l e rm_X8_stockMany s m args below meth c H locs 0 0 Q (F0 m 4 ls [])) ?_
    intro h4 hh4 x hf H locs ls hP hS hl
    unfold x_X8_stockMany_B4 at hf
    refine lv_iload_n hx hb dX8_stockMany_4 rfl (lv_at hl 2 rfl) ?_
    refine lv_bipush (v := 20) hx hb dX8_stockMany_5 kB_20 ?_
    refine lv_aload_n hx hb dX8_stockMany_7 rfl (lv_at hl 0 rfl) ?_
    refine va_get (D := zD v) (ci := 7) (v := .int (x.2.2.1 0 15)) (C := RX8) (T := TX8) (N := 55) hx hb hts iX8 hown hk.1 hP 0 rfl rfl 15 (by decide) (hts _ fl_X8_97) (fun _ h9 => h9) rfl dX8_stockMany_8 ?_
    refine lv_imul hx hb dX8_stockMany_11 ?_
    refine lv_icmp_ge (tgt := 37) hx hb dX8_stockMany_12 (by decide) (fun c1 => ?_) (fun c1 => ?_)
    · have hf := ite_t c1 hf
      refine lv_iload_n hx hb dX8_stockMany_37 rfl (lv_at hl 1 rfl) ?_
      exact hret _ _ _ _ _ _ (Or.inl rfl) (Option.some.inj hf) hP hS dX8_stockMany_38
    · have hf := ite_f c1 hf
      refine lv_iload_n hx hb dX8_stockMany_15 rfl (lv_at hl 1 rfl) ?_
      refine lv_aload_n hx hb dX8_stockMany_16 rfl (lv_at hl 0 rfl) ?_
      refine lv_iload_n hx hb dX8_stockMany_17 rfl (lv_at hl 2 rfl) ?_
      obtain ⟨q2, eq2, hf⟩ := bd_e hf
      refine zki hS (zrV (As := [.int x.2.1]) (rest := [.int x.1]) okM hx hb hml hown hts hk hP hS (t_X8_isStock l v N x.2.1 x.2.2 _ eq2) vk_X8_isStock ml_X8_277 rfl rfl ⟨(Nat.le_of_ble_eq_true rfl), (Nat.le_of_ble_eq_true rfl)⟩ (va_recv (q := (RX8, TX8, 55)) hk.1 hP (q0 := 0) (ci := 7) rfl rfl) rfl hl.1 rfl (Nat.le_of_ble_eq_true rfl) dX8_stockMany_18) (fun H locs hP hS => ?_)
      refine lv_if_eq (tgt := 28) hx hb dX8_stockMany_21 (by decide) (fun c3 => ?_) (fun c3 => ?_)
      · have hf := ite_t c3 hf
        refine lv_iconst (v := 0) hx hb dX8_stockMany_28 kI_0 ?_
        exact wb29 h4 hh4 x.2.1 (0 : Int32) x.1 q2.2 hf _ _ _ hP hS (lv_sub hl [0, 2] rfl)
      · have hf := ite_f c3 hf
        refine lv_iconst (v := 1) hx hb dX8_stockMany_24 kI_1 ?_
        refine lv_goto (tgt := 29) hx hb dX8_stockMany_25 (by decide) ?_
        exact wb29 h4 hh4 x.2.1 (1 : Int32) x.1 q2.2 hf _ _ _ hP hS (lv_sub hl [0, 2] rfl)
  unfold x_X8_stockMany at hf
  refine lv_iconst (v := 0) hx hb dX8_stockMany_0 kI_0 ?_
  refine lv_istore_n (lv' := [(1, .int (0 : Int32)), (0, .ref (zA v 0))]) hx hb dX8_stockMany_1 rfl hl (by decide) rfl (fun ls hl => ?_)
  refine lv_iconst (v := 0) hx hb dX8_stockMany_2 kI_0 ?_
  refine lv_istore_n (lv' := [(2, .int (0 : Int32)), (1, .int (0 : Int32)), (0, .ref (zA v 0))]) hx hb dX8_stockMany_3 rfl hl (by decide) rfl (fun ls hl => ?_)
  exact wL4 N ((0 : Int32), (0 : Int32), g) hf _ _ _ hP hS (lv_sub hl [2, 1, 0] rfl)
abbrev rm_X8_sheet : Room := { frames := 3, cells := 0, slots := 0, locals := 105 }
set_option maxRecDepth 100000 in
theorem t_X8_sheet (l : Launch) (v : Ev) (N : Nat) (a1 : Int32) (a2 : Int32) (a3 : Int32) (g : SM) (res : Int32 × SM) (hf : x_X8_sheet N a1 a2 a3 g = some res) : Ci l yX8_sheet cX8_sheet 5 .int rm_X8_sheet pM v [.ref (zA v 0), .int a1, .int a2, .int a3] g res := by
  refine ze_i (by decide +kernel) (Nat.le_of_ble_eq_true rfl) ?_
  intro p e s m args below meth c Q ls hcx hret hP hl
  obtain ⟨hx, hb, hml, hown, hts, hk⟩ := hcx
  have hown : s.vm.findClass RX8 = some m.cls := hown
  have hS : va_S (An nM v) s.heap s.heap [] := va_S.rf
  have hl : lv_has ls 5 [(0, .ref (zA v 0)), (1, .int a1), (2, .int a2), (3, .int a3)] := hl
  have wL77 : ∀ (n : Nat) (x : Int32 × Int32 × Int32 × Int32 × SM), lp (x_X8_sheet_B77 N) n x = some res → ∀ (H : Heap) (locs : List Loc) (ls : Array Slot), va_P (zD v) vwCl (pM.1 v x.2.2.2.2) H → va_S (An nM v) s.heap H locs → lv_has ls 5 [(0, .ref (zA v 0)), (1, .int x.1), (2, .int x.2.1), (3, .int x.2.2.1), (4, .int x.2.2.2.1)] → W p l e rm_X8_sheet s m args below meth c H locs 0 0 Q (F0 m 77 ls []) := by
    refine lp_w (P := fun x : Int32 × Int32 × Int32 × Int32 × SM => ∀ (H : Heap) (locs : List Loc) (ls : Array Slot), va_P (zD v) vwCl (pM.1 v x.2.2.2.2) H → va_S (An nM v) s.heap H locs → lv_has ls 5 [(0, .ref (zA v 0)), (1, .int x.1), (2, .int x.2.1), (3, .int x.2.2.1), (4, .int x.2.2.2.1)] → W p l e rm_X8_sheet s m args below meth c H locs 0 0 Q (F0 m 77 ls [])) ?_
    intro h77 hh77 x hf H locs ls hP hS hl
    unfold x_X8_sheet_B77 at hf
    refine lv_iload hx hb dX8_sheet_77 (lv_at hl 4 rfl) ?_
    refine lv_iload_n hx hb dX8_sheet_79 rfl (lv_at hl 3 rfl) ?_
    refine lv_icmp_ge (tgt := 106) hx hb dX8_sheet_80 (by decide) (fun c14 => ?_) (fun c14 => ?_)
    · have hf := ite_t c14 hf
      refine lv_iconst (v := 1) hx hb dX8_sheet_106 kI_1 ?_
      exact hret _ _ _ _ _ _ (Or.inl rfl) (Option.some.inj hf) hP hS dX8_sheet_107
    · have hf := ite_f c14 hf
      refine lv_iload_n hx hb dX8_sheet_83 rfl (lv_at hl 2 rfl) ?_
      refine lv_if_lt (tgt := 106) hx hb dX8_sheet_84 (by decide) (fun c15 => ?_) (fun c15 => ?_)
      · have hf := ite_t c15 hf
        refine lv_iconst (v := 1) hx hb dX8_sheet_106 kI_1 ?_
        exact hret _ _ _ _ _ _ (Or.inl rfl) (Option.some.inj hf) hP hS dX8_sheet_107
      · have hf := ite_f c15 hf
        refine lv_aload_n hx hb dX8_sheet_87 rfl (lv_at hl 0 rfl) ?_
        refine va_get (D := zD v) (ci := 7) (v := .ref (zA v 21)) (C := RX8) (T := TX8) (N := 55) hx hb hts iX8 hown hk.1 hP 0 rfl rfl 54 (by decide) (hts _ fl_X8_87) (fun _ h9 => h9) rfl dX8_sheet_88 ?_
        refine lv_bipush (v := 40) hx hb dX8_sheet_91 kB_40 ?_
        refine lv_iload_n hx hb dX8_sheet_93 rfl (lv_at hl 1 rfl) ?_
        refine lv_imul hx hb dX8_sheet_94 ?_
        refine lv_iload hx hb dX8_sheet_95 (lv_at hl 4 rfl) ?_
        refine lv_iadd hx hb dX8_sheet_97 ?_
        refine lv_iconst (v := 0) hx hb dX8_sheet_98 kI_0 ?_
        obtain ⟨c16, hf⟩ := gd_e hf
        refine va_iast hx hb hk.1 hP (zw_D okM hk _) hS 21 0 rfl rfl (inb_in c16) dX8_sheet_99 (fun H locs hP1 _ hS => ?_)
        have hP : va_P (zD v) vwCl (pM.1 v (up x.2.2.2.2.1 21 (upd (x.2.2.2.2.1 21) ((((40 : Int32) * x.1) + x.2.2.2.1)).toNatClampNeg (0 : Int32)), x.2.2.2.2.2)) H := hP1
        obtain ⟨g17, eg17, hf⟩ := lt_e hf
        rw [← eg17] at hP
        obtain ⟨x18, ex18, hf⟩ := lt_e hf
        refine lv_iinc (v := x18) (lv' := [(4, .int x18), (0, .ref (zA v 0)), (1, .int x.1), (2, .int x.2.1), (3, .int x.2.2.1)]) hx hb dX8_sheet_100 hl (k := 4) rfl ((congrArg (fun z => x.2.2.2.1 + z) kI_1).trans ex18.symm) (by decide) rfl (fun ls hl => ?_)
        refine lv_goto (tgt := 77) hx hb dX8_sheet_103 (by decide) ?_
        exact hh77 (x.1, x.2.1, x.2.2.1, x18, g17) hf _ _ _ hP hS (lv_sub hl [1, 2, 3, 4, 0] rfl)
  have wb59 : ∀ (y1 : Int32) (y2 : Int32) (y3 : Int32) (t0 : Int32) (t1 : Int32) (g : SM) (hf : x_X8_sheet_b59 N y1 y2 y3 t0 t1 g = some res) (H : Heap) (locs : List Loc) (ls : Array Slot) (hP : va_P (zD v) vwCl (pM.1 v g) H) (hS : va_S (An nM v) s.heap H locs) (hl : lv_has ls 5 [(0, .ref (zA v 0)), (1, .int y1), (2, .int y2), (3, .int y3)]), W p l e rm_X8_sheet s m args below meth c H locs 0 0 Q (F0 m 59 ls [.int t0, .int t1, .ref (zA v 18)]) := by
    intro y1 y2 y3 t0 t1 g hf H locs ls hP hS hl
    unfold x_X8_sheet_b59 at hf
    obtain ⟨c8, hf⟩ := gd_e hf
    refine va_zast hx hb hk.1 hP (zw_D okM hk _) hS 18 1 rfl rfl (inb_in c8) dX8_sheet_59 (fun H locs hP1 _ hS => ?_)
    have hP : va_P (zD v) vwCl (pM.1 v (up g.1 18 (upd (g.1 18) (t1).toNatClampNeg (vp_nar .boolean t0)), g.2)) H := hP1
    obtain ⟨g9, eg9, hf⟩ := lt_e hf
    rw [← eg9] at hP
    refine lv_aload_n hx hb dX8_sheet_60 rfl (lv_at hl 0 rfl) ?_
    refine va_get (D := zD v) (ci := 7) (v := .ref (zA v 19)) (C := RX8) (T := TX8) (N := 55) hx hb hts iX8 hown hk.1 hP 0 rfl rfl 52 (by decide) (hts _ fl_X8_81) (fun _ h9 => h9) rfl dX8_sheet_61 ?_
    refine lv_iload_n hx hb dX8_sheet_64 rfl (lv_at hl 1 rfl) ?_
    refine lv_iload_n hx hb dX8_sheet_65 rfl (lv_at hl 2 rfl) ?_
    obtain ⟨c10, hf⟩ := gd_e hf
    refine va_iast hx hb hk.1 hP (zw_D okM hk _) hS 19 0 rfl rfl (inb_in c10) dX8_sheet_66 (fun H locs hP1 _ hS => ?_)
    have hP : va_P (zD v) vwCl (pM.1 v (up g9.1 19 (upd (g9.1 19) (y1).toNatClampNeg y2), g9.2)) H := hP1
    obtain ⟨g11, eg11, hf⟩ := lt_e hf
    rw [← eg11] at hP
    refine lv_aload_n hx hb dX8_sheet_67 rfl (lv_at hl 0 rfl) ?_
    refine va_get (D := zD v) (ci := 7) (v := .ref (zA v 20)) (C := RX8) (T := TX8) (N := 55) hx hb hts iX8 hown hk.1 hP 0 rfl rfl 53 (by decide) (hts _ fl_X8_84) (fun _ h9 => h9) rfl dX8_sheet_68 ?_
    refine lv_iload_n hx hb dX8_sheet_71 rfl (lv_at hl 1 rfl) ?_
    refine lv_iload_n hx hb dX8_sheet_72 rfl (lv_at hl 3 rfl) ?_
    obtain ⟨c12, hf⟩ := gd_e hf
    refine va_iast hx hb hk.1 hP (zw_D okM hk _) hS 20 0 rfl rfl (inb_in c12) dX8_sheet_73 (fun H locs hP1 _ hS => ?_)
    have hP : va_P (zD v) vwCl (pM.1 v (up g11.1 20 (upd (g11.1 20) (y1).toNatClampNeg y3), g11.2)) H := hP1
    obtain ⟨g13, eg13, hf⟩ := lt_e hf
    rw [← eg13] at hP
    refine lv_iconst (v := 0) hx hb dX8_sheet_74 kI_0 ?_
    refine lv_istore (lv' := [(4, .int (0 : Int32)), (0, .ref (zA v 0)), (1, .int y1), (2, .int y2), (3, .int y3)]) hx hb dX8_sheet_75 hl (by decide) rfl (fun ls hl => ?_)
    exact wL77 N (y1, y2, y3, (0 : Int32), g13) hf _ _ _ hP hS (lv_sub hl [1, 2, 3, 4, 0] rfl)
  have wb45 : ∀ (y1 : Int32) (y2 : Int32) (y3 : Int32) (g : SM) (hf : x_X8_sheet_b45 N y1 y2 y3 g = some res) (H : Heap) (locs : List Loc) (ls : Array Slot) (hP : va_P (zD v) vwCl (pM.1 v g) H) (hS : va_S (An nM v) s.heap H locs) (hl : lv_has ls 5 [(0, .ref (zA v 0)), (1, .int y1), (2, .int y2), (3, .int y3)]), W p l e rm_X8_sheet s m args below meth c H locs 0 0 Q (F0 m 45 ls []) := by
    intro y1 y2 y3 g hf H locs ls hP hS hl
    unfold x_X8_sheet_b45 at hf
    refine lv_aload_n hx hb dX8_sheet_45 rfl (lv_at hl 0 rfl) ?_
    refine va_get (D := zD v) (ci := 7) (v := .ref (zA v 18)) (C := RX8) (T := TX8) (N := 55) hx hb hts iX8 hown hk.1 hP 0 rfl rfl 51 (by decide) (hts _ fl_X8_78) (fun _ h9 => h9) rfl dX8_sheet_46 ?_
    refine lv_iload_n hx hb dX8_sheet_49 rfl (lv_at hl 1 rfl) ?_
    refine lv_iload_n hx hb dX8_sheet_50 rfl (lv_at hl 2 rfl) ?_
    refine lv_if_lt (tgt := 58) hx hb dX8_sheet_51 (by decide) (fun c7 => ?_) (fun c7 => ?_)
    · have hf := ite_t c7 hf
      refine lv_iconst (v := 0) hx hb dX8_sheet_58 kI_0 ?_
      exact wb59 y1 y2 y3 (0 : Int32) y1 g hf _ _ _ hP hS (lv_sub hl [0, 1, 2, 3] rfl)
    · have hf := ite_f c7 hf
      refine lv_iconst (v := 1) hx hb dX8_sheet_54 kI_1 ?_
      refine lv_goto (tgt := 59) hx hb dX8_sheet_55 (by decide) ?_
      exact wb59 y1 y2 y3 (1 : Int32) y1 g hf _ _ _ hP hS (lv_sub hl [0, 1, 2, 3] rfl)
  have wb34 : ∀ (y1 : Int32) (y2 : Int32) (y3 : Int32) (g : SM) (hf : x_X8_sheet_b34 N y1 y2 y3 g = some res) (H : Heap) (locs : List Loc) (ls : Array Slot) (hP : va_P (zD v) vwCl (pM.1 v g) H) (hS : va_S (An nM v) s.heap H locs) (hl : lv_has ls 5 [(0, .ref (zA v 0)), (1, .int y1), (2, .int y2), (3, .int y3)]), W p l e rm_X8_sheet s m args below meth c H locs 0 0 Q (F0 m 34 ls []) := by
    intro y1 y2 y3 g hf H locs ls hP hS hl
    unfold x_X8_sheet_b34 at hf
    refine lv_iload_n hx hb dX8_sheet_34 rfl (lv_at hl 2 rfl) ?_
    refine lv_if_lt (tgt := 45) hx hb dX8_sheet_35 (by decide) (fun c6 => ?_) (fun c6 => ?_)
    · have hf := ite_t c6 hf
      exact wb45 y1 y2 y3 g hf _ _ _ hP hS (lv_sub hl [0, 1, 2, 3] rfl)
    · have hf := ite_f c6 hf
      refine lv_iload_n hx hb dX8_sheet_38 rfl (lv_at hl 3 rfl) ?_
      refine lv_if_ge (tgt := 45) hx hb dX8_sheet_39 (by decide) (fun c19 => ?_) (fun c19 => ?_)
      · have hf := ite_t c19 hf
        exact wb45 y1 y2 y3 g hf _ _ _ hP hS (lv_sub hl [0, 1, 2, 3] rfl)
      · have hf := ite_f c19 hf
        refine lv_bipush (v := -14) hx hb dX8_sheet_42 kB_m14 ?_
        exact hret _ _ _ _ _ _ (Or.inl rfl) (Option.some.inj hf) hP hS dX8_sheet_44
  unfold x_X8_sheet at hf
  refine lv_iload_n hx hb dX8_sheet_0 rfl (lv_at hl 1 rfl) ?_
  obtain ⟨q1, eq1, hf⟩ := bd_e hf
  refine zki hS (zrS (As := [.int a1]) (rest := []) okM hx hb hml hown hts hk hP hS (t_X8_isSheet l v N a1 g _ eq1) sk_X8_isSheet ml_X8_280 rfl rfl ⟨(Nat.le_of_ble_eq_true rfl), (Nat.le_of_ble_eq_true rfl)⟩ rfl hl.1 rfl (Nat.le_of_ble_eq_true rfl) dX8_sheet_1) (fun H locs hP hS => ?_)
  refine lv_if_eq (tgt := 31) hx hb dX8_sheet_4 (by decide) (fun c2 => ?_) (fun c2 => ?_)
  · have hf := ite_t c2 hf
    refine lv_bipush (v := -2) hx hb dX8_sheet_31 kB_m2 ?_
    exact hret _ _ _ _ _ _ (Or.inl rfl) (Option.some.inj hf) hP hS dX8_sheet_33
  · have hf := ite_f c2 hf
    refine lv_iload_n hx hb dX8_sheet_7 rfl (lv_at hl 2 rfl) ?_
    refine lv_i2l hx hb dX8_sheet_8 rfl ?_
    refine lv_ldc2 (v := -1) hx hb hown (hts _ kc_X8_404) dX8_sheet_9 ?_
    refine lv_ldc2 (v := 2) hx hb hown (hts _ kc_X8_285) dX8_sheet_12 ?_
    obtain ⟨q3, eq3, hf⟩ := bd_e hf
    refine zki hS (zrS (As := [.long ((a2).toInt64), .long (-1 : Int64), .long (2 : Int64)]) (rest := []) okM hx hb hml hown hts hk hP hS (t_X8_in l v N ((a2).toInt64) (-1 : Int64) (2 : Int64) q1.2 _ eq3) sk_X8_in ml_X8_100 rfl rfl ⟨(Nat.le_of_ble_eq_true rfl), (Nat.le_of_ble_eq_true rfl)⟩ rfl hl.1 rfl (Nat.le_of_ble_eq_true rfl) dX8_sheet_15) (fun H locs hP hS => ?_)
    refine lv_if_eq (tgt := 31) hx hb dX8_sheet_18 (by decide) (fun c4 => ?_) (fun c4 => ?_)
    · have hf := ite_t c4 hf
      refine lv_bipush (v := -2) hx hb dX8_sheet_31 kB_m2 ?_
      exact hret _ _ _ _ _ _ (Or.inl rfl) (Option.some.inj hf) hP hS dX8_sheet_33
    · have hf := ite_f c4 hf
      refine lv_iload_n hx hb dX8_sheet_21 rfl (lv_at hl 2 rfl) ?_
      refine lv_if_lt (tgt := 34) hx hb dX8_sheet_22 (by decide) (fun c5 => ?_) (fun c5 => ?_)
      · have hf := ite_t c5 hf
        exact wb34 a1 a2 a3 q3.2 hf _ _ _ hP hS (lv_sub hl [0, 1, 2, 3] rfl)
      · have hf := ite_f c5 hf
        refine lv_iload_n hx hb dX8_sheet_25 rfl (lv_at hl 3 rfl) ?_
        refine lv_bipush (v := 40) hx hb dX8_sheet_26 kB_40 ?_
        refine lv_icmp_le (tgt := 34) hx hb dX8_sheet_28 (by decide) (fun c20 => ?_) (fun c20 => ?_)
        · have hf := ite_t c20 hf
          exact wb34 a1 a2 a3 q3.2 hf _ _ _ hP hS (lv_sub hl [0, 1, 2, 3] rfl)
        · have hf := ite_f c20 hf
          refine lv_bipush (v := -2) hx hb dX8_sheet_31 kB_m2 ?_
          exact hret _ _ _ _ _ _ (Or.inl rfl) (Option.some.inj hf) hP hS dX8_sheet_33
abbrev rm_X8_film : Room := { frames := 4, cells := 0, slots := 0, locals := 129 }
set_option maxRecDepth 100000 in
theorem t_X8_film (l : Launch) (v : Ev) (N : Nat) (a1 : Int32) (a2 : Int32) (a3 : Int32) (g : SM) (res : Int32 × SM) (hf : x_X8_film N a1 a2 a3 g = some res) : Ci l yX8_film cX8_film 7 .int rm_X8_film pM v [.ref (zA v 0), .int a1, .int a2, .int a3] g res := by
  refine ze_i (by decide +kernel) (Nat.le_of_ble_eq_true rfl) ?_
  intro p e s m args below meth c Q ls hcx hret hP hl
  obtain ⟨hx, hb, hml, hown, hts, hk⟩ := hcx
  have hown : s.vm.findClass RX8 = some m.cls := hown
  have hS : va_S (An nM v) s.heap s.heap [] := va_S.rf
  have hl : lv_has ls 7 [(0, .ref (zA v 0)), (1, .int a1), (2, .int a2), (3, .int a3)] := hl
  have wb134 : ∀ (h64 : Int32 × Int32 × Int32 × Int32 × Int32 × SM → Option (Int32 × SM)) (hh64 : ∀ x : Int32 × Int32 × Int32 × Int32 × Int32 × SM, h64 x = some res → ∀ (H : Heap) (locs : List Loc) (ls : Array Slot), va_P (zD v) vwCl (pM.1 v x.2.2.2.2.2) H → va_S (An nM v) s.heap H locs → lv_has ls 7 [(0, .ref (zA v 0)), (1, .int x.1), (2, .int x.2.1), (4, .int x.2.2.1), (5, .int x.2.2.2.1), (6, .int x.2.2.2.2.1)] → W p l e rm_X8_film s m args below meth c H locs 0 0 Q (F0 m 64 ls [])) (y1 : Int32) (y2 : Int32) (y4 : Int32) (y5 : Int32) (y6 : Int32) (g : SM) (hf : x_X8_film_b134 N h64 y1 y2 y4 y5 y6 g = some res) (H : Heap) (locs : List Loc) (ls : Array Slot) (hP : va_P (zD v) vwCl (pM.1 v g) H) (hS : va_S (An nM v) s.heap H locs) (hl : lv_has ls 7 [(0, .ref (zA v 0)), (1, .int y1), (2, .int y2), (4, .int y4), (5, .int y5), (6, .int y6)]), W p l e rm_X8_film s m args below meth c H locs 0 0 Q (F0 m 134 ls []) := by
    intro h64 hh64 y1 y2 y4 y5 y6 g hf H locs ls hP hS hl
    unfold x_X8_film_b134 at hf
    obtain ⟨x14, ex14, hf⟩ := lt_e hf
    refine lv_iinc (v := x14) (lv' := [(6, .int x14), (0, .ref (zA v 0)), (1, .int y1), (2, .int y2), (4, .int y4), (5, .int y5)]) hx hb dX8_film_134 hl (k := 5) rfl ((congrArg (fun z => y6 + z) kI_1).trans ex14.symm) (by decide) rfl (fun ls hl => ?_)
    refine lv_goto (tgt := 64) hx hb dX8_film_137 (by decide) ?_
    exact hh64 (y1, y2, y4, y5, x14, g) hf _ _ _ hP hS (lv_sub hl [1, 2, 3, 4, 5, 0] rfl)
  have wL64 : ∀ (n : Nat) (x : Int32 × Int32 × Int32 × Int32 × Int32 × SM), lp (x_X8_film_B64 N) n x = some res → ∀ (H : Heap) (locs : List Loc) (ls : Array Slot), va_P (zD v) vwCl (pM.1 v x.2.2.2.2.2) H → va_S (An nM v) s.heap H locs → lv_has ls 7 [(0, .ref (zA v 0)), (1, .int x.1), (2, .int x.2.1), (4, .int x.2.2.1), (5, .int x.2.2.2.1), (6, .int x.2.2.2.2.1)] → W p l e rm_X8_film s m args below meth c H locs 0 0 Q (F0 m 64 ls []) := by
    refine lp_w (P := fun x : Int32 × Int32 × Int32 × Int32 × Int32 × SM => ∀ (H : Heap) (locs : List Loc) (ls : Array Slot), va_P (zD v) vwCl (pM.1 v x.2.2.2.2.2) H → va_S (An nM v) s.heap H locs → lv_has ls 7 [(0, .ref (zA v 0)), (1, .int x.1), (2, .int x.2.1), (4, .int x.2.2.1), (5, .int x.2.2.2.1), (6, .int x.2.2.2.2.1)] → W p l e rm_X8_film s m args below meth c H locs 0 0 Q (F0 m 64 ls [])) ?_
    intro h64 hh64 x hf H locs ls hP hS hl
    unfold x_X8_film_B64 at hf
    refine lv_iload hx hb dX8_film_64 (lv_at hl 5 rfl) ?_
    refine lv_bipush (v := 20) hx hb dX8_film_66 kB_20 ?_
    refine lv_aload_n hx hb dX8_film_68 rfl (lv_at hl 0 rfl) ?_
    refine va_get (D := zD v) (ci := 7) (v := .int (x.2.2.2.2.2.1 0 15)) (C := RX8) (T := TX8) (N := 55) hx hb hts iX8 hown hk.1 hP 0 rfl rfl 15 (by decide) (hts _ fl_X8_97) (fun _ h9 => h9) rfl dX8_film_69 ?_
    refine lv_imul hx hb dX8_film_72 ?_
    refine lv_icmp_ge (tgt := 140) hx hb dX8_film_73 (by decide) (fun c10 => ?_) (fun c10 => ?_)
    · have hf := ite_t c10 hf
      refine lv_iload hx hb dX8_film_140 (lv_at hl 3 rfl) ?_
      exact hret _ _ _ _ _ _ (Or.inl rfl) (Option.some.inj hf) hP hS dX8_film_142
    · have hf := ite_f c10 hf
      refine lv_iload hx hb dX8_film_76 (lv_at hl 4 rfl) ?_
      refine lv_iload hx hb dX8_film_78 (lv_at hl 3 rfl) ?_
      refine lv_icmp_ge (tgt := 140) hx hb dX8_film_80 (by decide) (fun c11 => ?_) (fun c11 => ?_)
      · have hf := ite_t c11 hf
        refine lv_iload hx hb dX8_film_140 (lv_at hl 3 rfl) ?_
        exact hret _ _ _ _ _ _ (Or.inl rfl) (Option.some.inj hf) hP hS dX8_film_142
      · have hf := ite_f c11 hf
        refine lv_aload_n hx hb dX8_film_83 rfl (lv_at hl 0 rfl) ?_
        refine lv_iload hx hb dX8_film_84 (lv_at hl 5 rfl) ?_
        obtain ⟨q12, eq12, hf⟩ := bd_e hf
        refine zki hS (zrV (As := [.int x.2.2.2.2.1]) (rest := []) okM hx hb hml hown hts hk hP hS (t_X8_isStock l v N x.2.2.2.2.1 x.2.2.2.2.2 _ eq12) vk_X8_isStock ml_X8_277 rfl rfl ⟨(Nat.le_of_ble_eq_true rfl), (Nat.le_of_ble_eq_true rfl)⟩ (va_recv (q := (RX8, TX8, 55)) hk.1 hP (q0 := 0) (ci := 7) rfl rfl) rfl hl.1 rfl (Nat.le_of_ble_eq_true rfl) dX8_film_86) (fun H locs hP hS => ?_)
        refine lv_if_eq (tgt := 134) hx hb dX8_film_89 (by decide) (fun c13 => ?_) (fun c13 => ?_)
        · have hf := ite_t c13 hf
          exact wb134 h64 hh64 x.1 x.2.1 x.2.2.1 x.2.2.2.1 x.2.2.2.2.1 q12.2 hf _ _ _ hP hS (lv_sub hl [0, 1, 2, 3, 4, 5] rfl)
        · have hf := ite_f c13 hf
          refine lv_aload_n hx hb dX8_film_92 rfl (lv_at hl 0 rfl) ?_
          refine va_get (D := zD v) (ci := 7) (v := .ref (zA v 21)) (C := RX8) (T := TX8) (N := 55) hx hb hts iX8 hown hk.1 hP 0 rfl rfl 54 (by decide) (hts _ fl_X8_87) (fun _ h9 => h9) rfl dX8_film_93 ?_
          refine lv_bipush (v := 40) hx hb dX8_film_96 kB_40 ?_
          refine lv_iload_n hx hb dX8_film_98 rfl (lv_at hl 1 rfl) ?_
          refine lv_imul hx hb dX8_film_99 ?_
          refine lv_iconst (v := 2) hx hb dX8_film_100 kI_2 ?_
          refine lv_iload hx hb dX8_film_101 (lv_at hl 4 rfl) ?_
          refine lv_imul hx hb dX8_film_103 ?_
          refine lv_iadd hx hb dX8_film_104 ?_
          refine lv_iload hx hb dX8_film_105 (lv_at hl 5 rfl) ?_
          obtain ⟨c15, hf⟩ := gd_e hf
          refine va_iast hx hb hk.1 hP (zw_D okM hk _) hS 21 0 rfl rfl (inb_in c15) dX8_film_107 (fun H locs hP1 _ hS => ?_)
          have hP : va_P (zD v) vwCl (pM.1 v (up q12.2.1 21 (upd (q12.2.1 21) ((((40 : Int32) * x.1) + ((2 : Int32) * x.2.2.2.1))).toNatClampNeg x.2.2.2.2.1), q12.2.2)) H := hP1
          obtain ⟨g16, eg16, hf⟩ := lt_e hf
          rw [← eg16] at hP
          refine lv_aload_n hx hb dX8_film_108 rfl (lv_at hl 0 rfl) ?_
          refine va_get (D := zD v) (ci := 7) (v := .ref (zA v 21)) (C := RX8) (T := TX8) (N := 55) hx hb hts iX8 hown hk.1 hP 0 rfl rfl 54 (by decide) (hts _ fl_X8_87) (fun _ h9 => h9) rfl dX8_film_109 ?_
          refine lv_bipush (v := 40) hx hb dX8_film_112 kB_40 ?_
          refine lv_iload_n hx hb dX8_film_114 rfl (lv_at hl 1 rfl) ?_
          refine lv_imul hx hb dX8_film_115 ?_
          refine lv_iconst (v := 2) hx hb dX8_film_116 kI_2 ?_
          refine lv_iload hx hb dX8_film_117 (lv_at hl 4 rfl) ?_
          refine lv_imul hx hb dX8_film_119 ?_
          refine lv_iadd hx hb dX8_film_120 ?_
          refine lv_iconst (v := 1) hx hb dX8_film_121 kI_1 ?_
          refine lv_iadd hx hb dX8_film_122 ?_
          refine lv_aload_n hx hb dX8_film_123 rfl (lv_at hl 0 rfl) ?_
          refine lv_iload hx hb dX8_film_124 (lv_at hl 5 rfl) ?_
          refine lv_iload_n hx hb dX8_film_126 rfl (lv_at hl 2 rfl) ?_
          obtain ⟨q17, eq17, hf⟩ := bd_e hf
          refine zki hS (zrV (As := [.int x.2.2.2.2.1, .int x.2.1]) (rest := [.int ((((40 : Int32) * x.1) + ((2 : Int32) * x.2.2.2.1)) + (1 : Int32)), .ref (zA v 21)]) okM hx hb hml hown hts hk hP hS (t_X8_saysOf l v N x.2.2.2.2.1 x.2.1 g16 _ eq17) vk_X8_saysOf ml_X8_148 rfl rfl ⟨(Nat.le_of_ble_eq_true rfl), (Nat.le_of_ble_eq_true rfl)⟩ (va_recv (q := (RX8, TX8, 55)) hk.1 hP (q0 := 0) (ci := 7) rfl rfl) rfl hl.1 rfl (Nat.le_of_ble_eq_true rfl) dX8_film_127) (fun H locs hP hS => ?_)
          obtain ⟨c18, hf⟩ := gd_e hf
          refine va_iast hx hb hk.1 hP (zw_D okM hk _) hS 21 0 rfl rfl (inb_in c18) dX8_film_130 (fun H locs hP1 _ hS => ?_)
          have hP : va_P (zD v) vwCl (pM.1 v (up q17.2.1 21 (upd (q17.2.1 21) (((((40 : Int32) * x.1) + ((2 : Int32) * x.2.2.2.1)) + (1 : Int32))).toNatClampNeg q17.1), q17.2.2)) H := hP1
          obtain ⟨g19, eg19, hf⟩ := lt_e hf
          rw [← eg19] at hP
          obtain ⟨x20, ex20, hf⟩ := lt_e hf
          refine lv_iinc (v := x20) (lv' := [(5, .int x20), (0, .ref (zA v 0)), (1, .int x.1), (2, .int x.2.1), (4, .int x.2.2.1), (6, .int x.2.2.2.2.1)]) hx hb dX8_film_131 hl (k := 4) rfl ((congrArg (fun z => x.2.2.2.1 + z) kI_1).trans ex20.symm) (by decide) rfl (fun ls hl => ?_)
          exact wb134 h64 hh64 x.1 x.2.1 x.2.2.1 x20 x.2.2.2.2.1 g19 hf _ _ _ hP hS (lv_sub hl [1, 2, 3, 4, 0, 5] rfl)
  have wb45 : ∀ (y1 : Int32) (y2 : Int32) (t0 : Int32) (g : SM) (hf : x_X8_film_b45 N y1 y2 t0 g = some res) (H : Heap) (locs : List Loc) (ls : Array Slot) (hP : va_P (zD v) vwCl (pM.1 v g) H) (hS : va_S (An nM v) s.heap H locs) (hl : lv_has ls 7 [(0, .ref (zA v 0)), (1, .int y1), (2, .int y2)]), W p l e rm_X8_film s m args below meth c H locs 0 0 Q (F0 m 45 ls [.int t0]) := by
    intro y1 y2 t0 g hf H locs ls hP hS hl
    unfold x_X8_film_b45 at hf
    refine lv_istore (lv' := [(4, .int t0), (0, .ref (zA v 0)), (1, .int y1), (2, .int y2)]) hx hb dX8_film_45 hl (by decide) rfl (fun ls hl => ?_)
    refine lv_aload_n hx hb dX8_film_47 rfl (lv_at hl 1 rfl) ?_
    refine lv_iload_n hx hb dX8_film_48 rfl (lv_at hl 2 rfl) ?_
    refine lv_iconst (v := 0) hx hb dX8_film_49 kI_0 ?_
    refine lv_iconst (v := 2) hx hb dX8_film_50 kI_2 ?_
    refine lv_iload hx hb dX8_film_51 (lv_at hl 0 rfl) ?_
    refine lv_imul hx hb dX8_film_53 ?_
    obtain ⟨q9, eq9, hf⟩ := bd_e hf
    refine zki hS (zrV (As := [.int y1, .int (0 : Int32), .int ((2 : Int32) * t0)]) (rest := []) okM hx hb hml hown hts hk hP hS (t_X8_sheet l v N y1 (0 : Int32) ((2 : Int32) * t0) g _ eq9) vk_X8_sheet ml_X8_377 rfl rfl ⟨(Nat.le_of_ble_eq_true rfl), (Nat.le_of_ble_eq_true rfl)⟩ (va_recv (q := (RX8, TX8, 55)) hk.1 hP (q0 := 0) (ci := 7) rfl rfl) rfl hl.1 rfl (Nat.le_of_ble_eq_true rfl) dX8_film_54) (fun H locs hP hS => ?_)
    refine lv_pop hx hb dX8_film_57 rfl ?_
    refine lv_iconst (v := 0) hx hb dX8_film_58 kI_0 ?_
    refine lv_istore (lv' := [(5, .int (0 : Int32)), (4, .int t0), (0, .ref (zA v 0)), (1, .int y1), (2, .int y2)]) hx hb dX8_film_59 hl (by decide) rfl (fun ls hl => ?_)
    refine lv_iconst (v := 0) hx hb dX8_film_61 kI_0 ?_
    refine lv_istore (lv' := [(6, .int (0 : Int32)), (5, .int (0 : Int32)), (4, .int t0), (0, .ref (zA v 0)), (1, .int y1), (2, .int y2)]) hx hb dX8_film_62 hl (by decide) rfl (fun ls hl => ?_)
    exact wL64 N (y1, y2, t0, (0 : Int32), (0 : Int32), q9.2) hf _ _ _ hP hS (lv_sub hl [3, 4, 5, 2, 1, 0] rfl)
  unfold x_X8_film at hf
  refine lv_iload_n hx hb dX8_film_0 rfl (lv_at hl 1 rfl) ?_
  obtain ⟨q1, eq1, hf⟩ := bd_e hf
  refine zki hS (zrS (As := [.int a1]) (rest := []) okM hx hb hml hown hts hk hP hS (t_X8_isSheet l v N a1 g _ eq1) sk_X8_isSheet ml_X8_280 rfl rfl ⟨(Nat.le_of_ble_eq_true rfl), (Nat.le_of_ble_eq_true rfl)⟩ rfl hl.1 rfl (Nat.le_of_ble_eq_true rfl) dX8_film_1) (fun H locs hP hS => ?_)
  refine lv_if_eq (tgt := 26) hx hb dX8_film_4 (by decide) (fun c2 => ?_) (fun c2 => ?_)
  · have hf := ite_t c2 hf
    refine lv_bipush (v := -2) hx hb dX8_film_26 kB_m2 ?_
    exact hret _ _ _ _ _ _ (Or.inl rfl) (Option.some.inj hf) hP hS dX8_film_28
  · have hf := ite_f c2 hf
    refine lv_iload_n hx hb dX8_film_7 rfl (lv_at hl 2 rfl) ?_
    obtain ⟨q3, eq3, hf⟩ := bd_e hf
    refine zki hS (zrS (As := [.int a2]) (rest := []) okM hx hb hml hown hts hk hP hS (t_X8_isFoot l v N a2 q1.2 _ eq3) sk_X8_isFoot ml_X8_108 rfl rfl ⟨(Nat.le_of_ble_eq_true rfl), (Nat.le_of_ble_eq_true rfl)⟩ rfl hl.1 rfl (Nat.le_of_ble_eq_true rfl) dX8_film_8) (fun H locs hP hS => ?_)
    refine lv_if_eq (tgt := 26) hx hb dX8_film_11 (by decide) (fun c4 => ?_) (fun c4 => ?_)
    · have hf := ite_t c4 hf
      refine lv_bipush (v := -2) hx hb dX8_film_26 kB_m2 ?_
      exact hret _ _ _ _ _ _ (Or.inl rfl) (Option.some.inj hf) hP hS dX8_film_28
    · have hf := ite_f c4 hf
      refine lv_iload_n hx hb dX8_film_14 rfl (lv_at hl 3 rfl) ?_
      refine lv_i2l hx hb dX8_film_15 rfl ?_
      refine lv_lconst (v := 0) hx hb dX8_film_16 kL_0 ?_
      refine lv_ldc2 (v := 20) hx hb hown (hts _ kc_X8_372) dX8_film_17 ?_
      obtain ⟨q5, eq5, hf⟩ := bd_e hf
      refine zki hS (zrS (As := [.long ((a3).toInt64), .long (0 : Int64), .long (20 : Int64)]) (rest := []) okM hx hb hml hown hts hk hP hS (t_X8_in l v N ((a3).toInt64) (0 : Int64) (20 : Int64) q3.2 _ eq5) sk_X8_in ml_X8_100 rfl rfl ⟨(Nat.le_of_ble_eq_true rfl), (Nat.le_of_ble_eq_true rfl)⟩ rfl hl.1 rfl (Nat.le_of_ble_eq_true rfl) dX8_film_20) (fun H locs hP hS => ?_)
      refine lv_if_ne (tgt := 29) hx hb dX8_film_23 (by decide) (fun c6 => ?_) (fun c6 => ?_)
      · have hf := ite_f c6 hf
        refine lv_aload_n hx hb dX8_film_29 rfl (lv_at hl 0 rfl) ?_
        obtain ⟨q7, eq7, hf⟩ := bd_e hf
        refine zki hS (zrV (As := []) (rest := []) okM hx hb hml hown hts hk hP hS (t_X8_stockMany l v N q5.2 _ eq7) vk_X8_stockMany ml_X8_374 rfl rfl ⟨(Nat.le_of_ble_eq_true rfl), (Nat.le_of_ble_eq_true rfl)⟩ (va_recv (q := (RX8, TX8, 55)) hk.1 hP (q0 := 0) (ci := 7) rfl rfl) rfl hl.1 rfl (Nat.le_of_ble_eq_true rfl) dX8_film_30) (fun H locs hP hS => ?_)
        refine lv_iload_n hx hb dX8_film_33 rfl (lv_at hl 3 rfl) ?_
        refine lv_icmp_ge (tgt := 44) hx hb dX8_film_34 (by decide) (fun c8 => ?_) (fun c8 => ?_)
        · have hf := ite_t c8 hf
          refine lv_iload_n hx hb dX8_film_44 rfl (lv_at hl 3 rfl) ?_
          exact wb45 a1 a2 a3 q7.2 hf _ _ _ hP hS (lv_sub hl [0, 1, 2] rfl)
        · have hf := ite_f c8 hf
          refine lv_aload_n hx hb dX8_film_37 rfl (lv_at hl 0 rfl) ?_
          obtain ⟨q21, eq21, hf⟩ := bd_e hf
          refine zki hS (zrV (As := []) (rest := []) okM hx hb hml hown hts hk hP hS (t_X8_stockMany l v N q7.2 _ eq21) vk_X8_stockMany ml_X8_374 rfl rfl ⟨(Nat.le_of_ble_eq_true rfl), (Nat.le_of_ble_eq_true rfl)⟩ (va_recv (q := (RX8, TX8, 55)) hk.1 hP (q0 := 0) (ci := 7) rfl rfl) rfl hl.1 rfl (Nat.le_of_ble_eq_true rfl) dX8_film_38) (fun H locs hP hS => ?_)
          refine lv_goto (tgt := 45) hx hb dX8_film_41 (by decide) ?_
          exact wb45 a1 a2 q21.1 q21.2 hf _ _ _ hP hS (lv_sub hl [0, 1, 2] rfl)
      · have hf := ite_t c6 hf
        refine lv_bipush (v := -2) hx hb dX8_film_26 kB_m2 ?_
        exact hret _ _ _ _ _ _ (Or.inl rfl) (Option.some.inj hf) hP hS dX8_film_28
abbrev rm_X8_draws : Room := { frames := 6, cells := 0, slots := 0, locals := 179 }
set_option maxRecDepth 100000 in
theorem t_X8_draws (l : Launch) (v : Ev) (N : Nat) (a1 : Int32) (g : SM) (res : Int32 × SM) (hf : x_X8_draws N a1 g = some res) : Ci l yX8_draws cX8_draws 5 .int rm_X8_draws pM v [.ref (zA v 0), .int a1] g res := by
  refine ze_i (by decide +kernel) (Nat.le_of_ble_eq_true rfl) ?_
  intro p e s m args below meth c Q ls hcx hret hP hl
  obtain ⟨hx, hb, hml, hown, hts, hk⟩ := hcx
  have hown : s.vm.findClass RX8 = some m.cls := hown
  have hS : va_S (An nM v) s.heap s.heap [] := va_S.rf
  have hl : lv_has ls 5 [(0, .ref (zA v 0)), (1, .int a1)] := hl
  have wL67 : ∀ (n : Nat) (x : Int32 × Int32 × SM), lp (x_X8_draws_B67 N) n x = some res → ∀ (H : Heap) (locs : List Loc) (ls : Array Slot), va_P (zD v) vwCl (pM.1 v x.2.2) H → va_S (An nM v) s.heap H locs → lv_has ls 5 [(0, .ref (zA v 0)), (3, .int x.1), (4, .int x.2.1)] → W p l e rm_X8_draws s m args below meth c H locs 0 0 Q (F0 m 67 ls []) := by
    refine lp_w (P := fun x : Int32 × Int32 × SM => ∀ (H : Heap) (locs : List Loc) (ls : Array Slot), va_P (zD v) vwCl (pM.1 v x.2.2) H → va_S (An nM v) s.heap H locs → lv_has ls 5 [(0, .ref (zA v 0)), (3, .int x.1), (4, .int x.2.1)] → W p l e rm_X8_draws s m args below meth c H locs 0 0 Q (F0 m 67 ls [])) ?_
    intro h67 hh67 x hf H locs ls hP hS hl
    unfold x_X8_draws_B67 at hf
    refine lv_iload hx hb dX8_draws_67 (lv_at hl 2 rfl) ?_
    refine lv_bipush (v := 100) hx hb dX8_draws_69 kB_100 ?_
    refine lv_icmp_ge (tgt := 94) hx hb dX8_draws_71 (by decide) (fun c5 => ?_) (fun c5 => ?_)
    · have hf := ite_t c5 hf
      refine lv_iload_n hx hb dX8_draws_94 rfl (lv_at hl 1 rfl) ?_
      exact hret _ _ _ _ _ _ (Or.inl rfl) (Option.some.inj hf) hP hS dX8_draws_95
    · have hf := ite_f c5 hf
      refine lv_aload_n hx hb dX8_draws_74 rfl (lv_at hl 0 rfl) ?_
      refine va_get (D := zD v) (ci := 7) (v := .ref (zA v 4)) (C := RX8) (T := TX8) (N := 55) hx hb hts iX8 hown hk.1 hP 0 rfl rfl 10 (by decide) (hts _ fl_X8_32) (fun _ h9 => h9) rfl dX8_draws_75 ?_
      refine lv_iload hx hb dX8_draws_78 (lv_at hl 2 rfl) ?_
      refine lv_aload_n hx hb dX8_draws_80 rfl (lv_at hl 0 rfl) ?_
      refine va_get (D := zD v) (ci := 7) (v := .ref (zA v 15)) (C := RX8) (T := TX8) (N := 55) hx hb hts iX8 hown hk.1 hP 0 rfl rfl 42 (by decide) (hts _ fl_X8_66) (fun _ h9 => h9) rfl dX8_draws_81 ?_
      refine lv_iload hx hb dX8_draws_84 (lv_at hl 2 rfl) ?_
      obtain ⟨c6, hf⟩ := gd_e hf
      refine va_iald hx hb hk.1 hP 15 0 rfl rfl (inb_in c6) dX8_draws_86 ?_
      obtain ⟨c7, hf⟩ := gd_e hf
      refine va_iast hx hb hk.1 hP (zw_D okM hk _) hS 4 0 rfl rfl (inb_in c7) dX8_draws_87 (fun H locs hP1 _ hS => ?_)
      have hP : va_P (zD v) vwCl (pM.1 v (up x.2.2.1 4 (upd (x.2.2.1 4) (x.2.1).toNatClampNeg (x.2.2.1 15 (x.2.1).toNatClampNeg)), x.2.2.2)) H := hP1
      obtain ⟨g8, eg8, hf⟩ := lt_e hf
      rw [← eg8] at hP
      obtain ⟨x9, ex9, hf⟩ := lt_e hf
      refine lv_iinc (v := x9) (lv' := [(4, .int x9), (0, .ref (zA v 0)), (3, .int x.1)]) hx hb dX8_draws_88 hl (k := 2) rfl ((congrArg (fun z => x.2.1 + z) kI_1).trans ex9.symm) (by decide) rfl (fun ls hl => ?_)
      refine lv_goto (tgt := 67) hx hb dX8_draws_91 (by decide) ?_
      exact hh67 (x.1, x9, g8) hf _ _ _ hP hS (lv_sub hl [1, 2, 0] rfl)
  have wL4 : ∀ (n : Nat) (x : Int32 × Int32 × SM), lp (x_X8_draws_B4 N) n x = some res → ∀ (H : Heap) (locs : List Loc) (ls : Array Slot), va_P (zD v) vwCl (pM.1 v x.2.2) H → va_S (An nM v) s.heap H locs → lv_has ls 5 [(0, .ref (zA v 0)), (2, .int x.1), (3, .int x.2.1)] → W p l e rm_X8_draws s m args below meth c H locs 0 0 Q (F0 m 4 ls []) := by
    refine lp_w (P := fun x : Int32 × Int32 × SM => ∀ (H : Heap) (locs : List Loc) (ls : Array Slot), va_P (zD v) vwCl (pM.1 v x.2.2) H → va_S (An nM v) s.heap H locs → lv_has ls 5 [(0, .ref (zA v 0)), (2, .int x.1), (3, .int x.2.1)] → W p l e rm_X8_draws s m args below meth c H locs 0 0 Q (F0 m 4 ls [])) ?_
    intro h4 hh4 x hf H locs ls hP hS hl
    unfold x_X8_draws_B4 at hf
    refine lv_iload_n hx hb dX8_draws_4 rfl (lv_at hl 2 rfl) ?_
    refine lv_bipush (v := 100) hx hb dX8_draws_5 kB_100 ?_
    refine lv_icmp_ge (tgt := 51) hx hb dX8_draws_7 (by decide) (fun c1 => ?_) (fun c1 => ?_)
    · have hf := ite_t c1 hf
      refine lv_aload_n hx hb dX8_draws_51 rfl (lv_at hl 0 rfl) ?_
      obtain ⟨q2, eq2, hf⟩ := bd_e hf
      refine zki hS (zrV (As := []) (rest := []) okM hx hb hml hown hts hk hP hS (t_X8_servedAll l v N x.2.2 _ eq2) vk_X8_servedAll ml_X8_348 rfl rfl ⟨(Nat.le_of_ble_eq_true rfl), (Nat.le_of_ble_eq_true rfl)⟩ (va_recv (q := (RX8, TX8, 55)) hk.1 hP (q0 := 0) (ci := 7) rfl rfl) rfl hl.1 rfl (Nat.le_of_ble_eq_true rfl) dX8_draws_52) (fun H locs hP hS => ?_)
      refine lv_istore_n (lv' := [(3, .int q2.1), (0, .ref (zA v 0)), (2, .int x.1)]) hx hb dX8_draws_55 rfl hl (by decide) rfl (fun ls hl => ?_)
      refine lv_aload_n hx hb dX8_draws_56 rfl (lv_at hl 1 rfl) ?_
      refine lv_aload_n hx hb dX8_draws_57 rfl (lv_at hl 1 rfl) ?_
      obtain ⟨q3, eq3, hf⟩ := bd_e hf
      refine zki hS (zrV (As := []) (rest := [.ref (zA v 0)]) okM hx hb hml hown hts hk hP hS (t_X8_townAll l v N q2.2 _ eq3) vk_X8_townAll ml_X8_381 rfl rfl ⟨(Nat.le_of_ble_eq_true rfl), (Nat.le_of_ble_eq_true rfl)⟩ (va_recv (q := (RX8, TX8, 55)) hk.1 hP (q0 := 0) (ci := 7) rfl rfl) rfl hl.1 rfl (Nat.le_of_ble_eq_true rfl) dX8_draws_58) (fun H locs hP hS => ?_)
      refine va_put (D := zD v) (ci := 7) (v := .int q3.1) (ty := .int) (C := RX8) (T := TX8) (N := 55) hx hb hts iX8 tyX8 tyX8_ok nmX8 hown hk.1 hP (zw_D okM hk _) hS 0 rfl rfl 43 (by decide) (hts _ fl_X8_384) (fun _ h9 => h9) rfl pd_I rfl rfl (Nat.le_of_ble_eq_true rfl) dX8_draws_61 (fun H locs hP1 _ hS => ?_)
      have hP : va_P (zD v) vwCl (pM.1 v (up q3.2.1 0 (upd (q3.2.1 0) 43 q3.1), q3.2.2)) H := hP1
      obtain ⟨g4, eg4, hf⟩ := lt_e hf
      rw [← eg4] at hP
      refine lv_iconst (v := 0) hx hb dX8_draws_64 kI_0 ?_
      refine lv_istore (lv' := [(4, .int (0 : Int32)), (3, .int q2.1), (0, .ref (zA v 0)), (2, .int x.1)]) hx hb dX8_draws_65 hl (by decide) rfl (fun ls hl => ?_)
      exact wL67 N (q2.1, (0 : Int32), g4) hf _ _ _ hP hS (lv_sub hl [2, 1, 0] rfl)
    · have hf := ite_f c1 hf
      refine lv_aload_n hx hb dX8_draws_10 rfl (lv_at hl 0 rfl) ?_
      refine va_get (D := zD v) (ci := 7) (v := .ref (zA v 15)) (C := RX8) (T := TX8) (N := 55) hx hb hts iX8 hown hk.1 hP 0 rfl rfl 42 (by decide) (hts _ fl_X8_66) (fun _ h9 => h9) rfl dX8_draws_11 ?_
      refine lv_iload_n hx hb dX8_draws_14 rfl (lv_at hl 2 rfl) ?_
      refine lv_aload_n hx hb dX8_draws_15 rfl (lv_at hl 0 rfl) ?_
      refine va_get (D := zD v) (ci := 7) (v := .ref (zA v 4)) (C := RX8) (T := TX8) (N := 55) hx hb hts iX8 hown hk.1 hP 0 rfl rfl 10 (by decide) (hts _ fl_X8_32) (fun _ h9 => h9) rfl dX8_draws_16 ?_
      refine lv_iload_n hx hb dX8_draws_19 rfl (lv_at hl 2 rfl) ?_
      obtain ⟨c10, hf⟩ := gd_e hf
      refine va_iald hx hb hk.1 hP 4 0 rfl rfl (inb_in c10) dX8_draws_20 ?_
      obtain ⟨c11, hf⟩ := gd_e hf
      refine va_iast hx hb hk.1 hP (zw_D okM hk _) hS 15 0 rfl rfl (inb_in c11) dX8_draws_21 (fun H locs hP1 _ hS => ?_)
      have hP : va_P (zD v) vwCl (pM.1 v (up x.2.2.1 15 (upd (x.2.2.1 15) (x.2.1).toNatClampNeg (x.2.2.1 4 (x.2.1).toNatClampNeg)), x.2.2.2)) H := hP1
      obtain ⟨g12, eg12, hf⟩ := lt_e hf
      rw [← eg12] at hP
      refine lv_iload_n hx hb dX8_draws_22 rfl (lv_at hl 1 rfl) ?_
      refine lv_ldcw (v := 1103515245) hx hb hown (hts _ kc_X8_380) dX8_draws_23 ?_
      refine lv_imul hx hb dX8_draws_26 ?_
      refine lv_sipush (v := 12345) hx hb dX8_draws_27 kS_12345 ?_
      refine lv_iadd hx hb dX8_draws_30 ?_
      obtain ⟨x13, ex13, hf⟩ := lt_e hf
      refine lv_nm ex13 ?_
      refine lv_istore_n (lv' := [(2, .int x13), (0, .ref (zA v 0)), (3, .int x.2.1)]) hx hb dX8_draws_31 rfl hl (by decide) rfl (fun ls hl => ?_)
      refine lv_aload_n hx hb dX8_draws_32 rfl (lv_at hl 1 rfl) ?_
      refine va_get (D := zD v) (ci := 7) (v := .ref (zA v 4)) (C := RX8) (T := TX8) (N := 55) hx hb hts iX8 hown hk.1 hP 0 rfl rfl 10 (by decide) (hts _ fl_X8_32) (fun _ h9 => h9) rfl dX8_draws_33 ?_
      refine lv_iload_n hx hb dX8_draws_36 rfl (lv_at hl 2 rfl) ?_
      refine lv_iload_n hx hb dX8_draws_37 rfl (lv_at hl 0 rfl) ?_
      refine lv_bipush (v := 9) hx hb dX8_draws_38 kB_9 ?_
      refine lv_iushr hx hb dX8_draws_40 rfl ?_
      refine lv_bipush (v := 10) hx hb dX8_draws_41 kB_10 ?_
      refine lv_irem hx hb dX8_draws_43 kz_10 ?_
      refine lv_nm (z := (rmI (((x13).toUInt32 >>> (((9 : Int32)).toUInt32 &&& Int32.toUInt32 31)).toInt32) (10 : Int32))) rfl ?_
      obtain ⟨c14, hf⟩ := gd_e hf
      refine va_iast hx hb hk.1 hP (zw_D okM hk _) hS 4 0 rfl rfl (inb_in c14) dX8_draws_44 (fun H locs hP1 _ hS => ?_)
      have hP : va_P (zD v) vwCl (pM.1 v (up g12.1 4 (upd (g12.1 4) (x.2.1).toNatClampNeg (rmI (((x13).toUInt32 >>> (((9 : Int32)).toUInt32 &&& Int32.toUInt32 31)).toInt32) (10 : Int32))), g12.2)) H := hP1
      obtain ⟨g15, eg15, hf⟩ := lt_e hf
      rw [← eg15] at hP
      obtain ⟨x16, ex16, hf⟩ := lt_e hf
      refine lv_iinc (v := x16) (lv' := [(3, .int x16), (2, .int x13), (0, .ref (zA v 0))]) hx hb dX8_draws_45 hl (k := 2) rfl ((congrArg (fun z => x.2.1 + z) kI_1).trans ex16.symm) (by decide) rfl (fun ls hl => ?_)
      refine lv_goto (tgt := 4) hx hb dX8_draws_48 (by decide) ?_
      exact hh4 (x13, x16, g15) hf _ _ _ hP hS (lv_sub hl [2, 1, 0] rfl)
  unfold x_X8_draws at hf
  refine lv_iload_n hx hb dX8_draws_0 rfl (lv_at hl 1 rfl) ?_
  refine lv_istore_n (lv' := [(2, .int a1), (0, .ref (zA v 0)), (1, .int a1)]) hx hb dX8_draws_1 rfl hl (by decide) rfl (fun ls hl => ?_)
  refine lv_iconst (v := 0) hx hb dX8_draws_2 kI_0 ?_
  refine lv_istore_n (lv' := [(3, .int (0 : Int32)), (2, .int a1), (0, .ref (zA v 0)), (1, .int a1)]) hx hb dX8_draws_3 rfl hl (by decide) rfl (fun ls hl => ?_)
  exact wL4 N (a1, (0 : Int32), g) hf _ _ _ hP hS (lv_sub hl [2, 1, 0] rfl)
abbrev rm_X8_drawn : Room := { frames := 7, cells := 0, slots := 0, locals := 203 }
set_option maxRecDepth 100000 in
theorem t_X8_drawn (l : Launch) (v : Ev) (N : Nat) (a1 : Int32) (g : SM) (res : Int32 × SM) (hf : x_X8_drawn N a1 g = some res) : Ci l yX8_drawn cX8_drawn 2 .int rm_X8_drawn pM v [.ref (zA v 0), .int a1] g res := by
  refine ze_i (by decide +kernel) (Nat.le_of_ble_eq_true rfl) ?_
  intro p e s m args below meth c Q ls hcx hret hP hl
  obtain ⟨hx, hb, hml, hown, hts, hk⟩ := hcx
  have hown : s.vm.findClass RX8 = some m.cls := hown
  have hS : va_S (An nM v) s.heap s.heap [] := va_S.rf
  have hl : lv_has ls 2 [(0, .ref (zA v 0)), (1, .int a1)] := hl
  unfold x_X8_drawn at hf
  refine lv_aload_n hx hb dX8_drawn_0 rfl (lv_at hl 0 rfl) ?_
  refine lv_iload_n hx hb dX8_drawn_1 rfl (lv_at hl 1 rfl) ?_
  obtain ⟨q1, eq1, hf⟩ := bd_e hf
  refine zki hS (zrV (As := [.int a1]) (rest := []) okM hx hb hml hown hts hk hP hS (t_X8_draws l v N a1 g _ eq1) vk_X8_draws ml_X8_387 rfl rfl ⟨(Nat.le_of_ble_eq_true rfl), (Nat.le_of_ble_eq_true rfl)⟩ (va_recv (q := (RX8, TX8, 55)) hk.1 hP (q0 := 0) (ci := 7) rfl rfl) rfl hl.1 rfl (Nat.le_of_ble_eq_true rfl) dX8_drawn_2) (fun H locs hP hS => ?_)
  exact hret _ _ _ _ _ _ (Or.inl rfl) (Option.some.inj hf) hP hS dX8_drawn_5
abbrev rm_X8_chance : Room := { frames := 7, cells := 0, slots := 0, locals := 203 }
set_option maxRecDepth 100000 in
theorem t_X8_chance (l : Launch) (v : Ev) (N : Nat) (a1 : Int32) (a2 : Int32) (a3 : Int32) (g : SM) (res : Int64 × SM) (hf : x_X8_chance N a1 a2 a3 g = some res) : Cl l yX8_chance cX8_chance 12 rm_X8_chance pM v [.ref (zA v 0), .int a1, .int a2, .int a3] g res := by
  refine ze_l (by decide +kernel) (Nat.le_of_ble_eq_true rfl) ?_
  intro p e s m args below meth c Q ls hcx hret hP hl
  obtain ⟨hx, hb, hml, hown, hts, hk⟩ := hcx
  have hown : s.vm.findClass RX8 = some m.cls := hown
  have hS : va_S (An nM v) s.heap s.heap [] := va_S.rf
  have hl : lv_has ls 12 [(0, .ref (zA v 0)), (1, .int a1), (2, .int a2), (3, .int a3)] := hl
  have wL83 : ∀ (n : Nat) (x : Int32 × Int32 × Int64 × Int64 × Int64 × SM), lp (x_X8_chance_B83 N) n x = some res → ∀ (H : Heap) (locs : List Loc) (ls : Array Slot), va_P (zD v) vwCl (pM.1 v x.2.2.2.2.2) H → va_S (An nM v) s.heap H locs → lv_has ls 12 [(2, .int x.1), (3, .int x.2.1), (4, .long x.2.2.1), (6, .long x.2.2.2.1), (8, .long x.2.2.2.2.1)] → W p l e rm_X8_chance s m args below meth c H locs 0 0 Q (F0 m 83 ls []) := by
    refine lp_w (P := fun x : Int32 × Int32 × Int64 × Int64 × Int64 × SM => ∀ (H : Heap) (locs : List Loc) (ls : Array Slot), va_P (zD v) vwCl (pM.1 v x.2.2.2.2.2) H → va_S (An nM v) s.heap H locs → lv_has ls 12 [(2, .int x.1), (3, .int x.2.1), (4, .long x.2.2.1), (6, .long x.2.2.2.1), (8, .long x.2.2.2.2.1)] → W p l e rm_X8_chance s m args below meth c H locs 0 0 Q (F0 m 83 ls [])) ?_
    intro h83 hh83 x hf H locs ls hP hS hl
    unfold x_X8_chance_B83 at hf
    refine lv_lload hx hb dX8_chance_83 (lv_at hl 4 rfl) ?_
    refine lv_lconst (v := 0) hx hb dX8_chance_85 kL_0 ?_
    refine W.lcmp hx hb dX8_chance_86 ?_
    refine lv_if_eq (tgt := 108) hx hb dX8_chance_87 (by decide) (fun c7 => ?_) (fun c7 => ?_)
    · have hf := ite_t c7 hf
      refine lv_iload_n hx hb dX8_chance_108 rfl (lv_at hl 1 rfl) ?_
      refine lv_if_ne (tgt := 120) hx hb dX8_chance_109 (by decide) (fun c8 => ?_) (fun c8 => ?_)
      · have hf := ite_f c8 hf
        refine lv_iload_n hx hb dX8_chance_120 rfl (lv_at hl 0 rfl) ?_
        refine lv_i2l hx hb dX8_chance_121 rfl ?_
        refine lv_lload hx hb dX8_chance_122 (lv_at hl 3 rfl) ?_
        obtain ⟨c9, hf⟩ := gd_n hf
        refine lv_ldiv hx hb dX8_chance_124 c9 ?_
        exact hret _ _ _ _ _ _ (Option.some.inj hf) hP hS dX8_chance_125
      · have hf := ite_t c8 hf
        refine lv_lload hx hb dX8_chance_112 (lv_at hl 2 rfl) ?_
        refine lv_lload hx hb dX8_chance_114 (lv_at hl 3 rfl) ?_
        obtain ⟨c10, hf⟩ := gd_n hf
        refine lv_ldiv hx hb dX8_chance_116 c10 ?_
        refine lv_goto (tgt := 125) hx hb dX8_chance_117 (by decide) ?_
        exact hret _ _ _ _ _ _ (Option.some.inj hf) hP hS dX8_chance_125
    · have hf := ite_f c7 hf
      refine lv_lload hx hb dX8_chance_90 (lv_at hl 3 rfl) ?_
      refine lv_lload hx hb dX8_chance_92 (lv_at hl 4 rfl) ?_
      obtain ⟨c11, hf⟩ := gd_n hf
      refine lv_lrem hx hb dX8_chance_94 c11 ?_
      refine lv_nml (z := (rmL x.2.2.2.1 x.2.2.2.2.1)) rfl ?_
      obtain ⟨x12, ex12, hf⟩ := lt_e hf
      refine lv_nml ex12 ?_
      refine lv_lstore (lv' := [(10, .long x12), (2, .int x.1), (3, .int x.2.1), (4, .long x.2.2.1), (6, .long x.2.2.2.1), (8, .long x.2.2.2.2.1)]) hx hb dX8_chance_95 hl (by decide) rfl (fun ls hl => ?_)
      refine lv_lload hx hb dX8_chance_97 (lv_at hl 5 rfl) ?_
      refine lv_lstore (lv' := [(6, .long x.2.2.2.2.1), (10, .long x12), (2, .int x.1), (3, .int x.2.1), (4, .long x.2.2.1), (8, .long x.2.2.2.2.1)]) hx hb dX8_chance_99 hl (by decide) rfl (fun ls hl => ?_)
      refine lv_lload hx hb dX8_chance_101 (lv_at hl 1 rfl) ?_
      refine lv_lstore (lv' := [(8, .long x12), (6, .long x.2.2.2.2.1), (10, .long x12), (2, .int x.1), (3, .int x.2.1), (4, .long x.2.2.1)]) hx hb dX8_chance_103 hl (by decide) rfl (fun ls hl => ?_)
      refine lv_goto (tgt := 83) hx hb dX8_chance_105 (by decide) ?_
      exact hh83 (x.1, x.2.1, x.2.2.1, x.2.2.2.2.1, x12, x.2.2.2.2.2) hf _ _ _ hP hS (lv_sub hl [3, 4, 5, 1, 0] rfl)
  have wb66 : ∀ (h32 : Int32 × Int32 × Int32 × Int64 × Int32 × SM → Option (Int64 × SM)) (hh32 : ∀ x : Int32 × Int32 × Int32 × Int64 × Int32 × SM, h32 x = some res → ∀ (H : Heap) (locs : List Loc) (ls : Array Slot), va_P (zD v) vwCl (pM.1 v x.2.2.2.2.2) H → va_S (An nM v) s.heap H locs → lv_has ls 12 [(0, .ref (zA v 0)), (1, .int x.1), (2, .int x.2.1), (3, .int x.2.2.1), (4, .long x.2.2.2.1), (6, .int x.2.2.2.2.1)] → W p l e rm_X8_chance s m args below meth c H locs 0 0 Q (F0 m 32 ls [])) (y1 : Int32) (y2 : Int32) (y3 : Int32) (y6 : Int32) (t0 : Int64) (t1 : Int64) (g : SM) (hf : x_X8_chance_b66 N h32 y1 y2 y3 y6 t0 t1 g = some res) (H : Heap) (locs : List Loc) (ls : Array Slot) (hP : va_P (zD v) vwCl (pM.1 v g) H) (hS : va_S (An nM v) s.heap H locs) (hl : lv_has ls 12 [(0, .ref (zA v 0)), (1, .int y1), (2, .int y2), (3, .int y3), (6, .int y6)]), W p l e rm_X8_chance s m args below meth c H locs 0 0 Q (F0 m 66 ls [.long t0, .long t1]) := by
    intro h32 hh32 y1 y2 y3 y6 t0 t1 g hf H locs ls hP hS hl
    unfold x_X8_chance_b66 at hf
    refine lv_ladd hx hb dX8_chance_66 ?_
    obtain ⟨x15, ex15, hf⟩ := lt_e hf
    refine lv_nml ex15 ?_
    refine lv_lstore (lv' := [(4, .long x15), (0, .ref (zA v 0)), (1, .int y1), (2, .int y2), (3, .int y3), (6, .int y6)]) hx hb dX8_chance_67 hl (by decide) rfl (fun ls hl => ?_)
    obtain ⟨x16, ex16, hf⟩ := lt_e hf
    refine lv_iinc (v := x16) (lv' := [(6, .int x16), (4, .long x15), (0, .ref (zA v 0)), (1, .int y1), (2, .int y2), (3, .int y3)]) hx hb dX8_chance_69 hl (k := 5) rfl ((congrArg (fun z => y6 + z) kI_1).trans ex16.symm) (by decide) rfl (fun ls hl => ?_)
    refine lv_goto (tgt := 32) hx hb dX8_chance_72 (by decide) ?_
    exact hh32 (y1, y2, y3, x15, x16, g) hf _ _ _ hP hS (lv_sub hl [2, 3, 4, 5, 1, 0] rfl)
  have wL32 : ∀ (n : Nat) (x : Int32 × Int32 × Int32 × Int64 × Int32 × SM), lp (x_X8_chance_B32 N) n x = some res → ∀ (H : Heap) (locs : List Loc) (ls : Array Slot), va_P (zD v) vwCl (pM.1 v x.2.2.2.2.2) H → va_S (An nM v) s.heap H locs → lv_has ls 12 [(0, .ref (zA v 0)), (1, .int x.1), (2, .int x.2.1), (3, .int x.2.2.1), (4, .long x.2.2.2.1), (6, .int x.2.2.2.2.1)] → W p l e rm_X8_chance s m args below meth c H locs 0 0 Q (F0 m 32 ls []) := by
    refine lp_w (P := fun x : Int32 × Int32 × Int32 × Int64 × Int32 × SM => ∀ (H : Heap) (locs : List Loc) (ls : Array Slot), va_P (zD v) vwCl (pM.1 v x.2.2.2.2.2) H → va_S (An nM v) s.heap H locs → lv_has ls 12 [(0, .ref (zA v 0)), (1, .int x.1), (2, .int x.2.1), (3, .int x.2.2.1), (4, .long x.2.2.2.1), (6, .int x.2.2.2.2.1)] → W p l e rm_X8_chance s m args below meth c H locs 0 0 Q (F0 m 32 ls [])) ?_
    intro h32 hh32 x hf H locs ls hP hS hl
    unfold x_X8_chance_B32 at hf
    refine lv_iload hx hb dX8_chance_32 (lv_at hl 5 rfl) ?_
    refine lv_iload_n hx hb dX8_chance_34 rfl (lv_at hl 2 rfl) ?_
    refine lv_icmp_ge (tgt := 75) hx hb dX8_chance_35 (by decide) (fun c5 => ?_) (fun c5 => ?_)
    · have hf := ite_t c5 hf
      refine lv_lload hx hb dX8_chance_75 (lv_at hl 4 rfl) ?_
      refine lv_lstore (lv' := [(6, .long x.2.2.2.1), (0, .ref (zA v 0)), (1, .int x.1), (2, .int x.2.1), (3, .int x.2.2.1), (4, .long x.2.2.2.1)]) hx hb dX8_chance_77 hl (by decide) rfl (fun ls hl => ?_)
      refine lv_iload_n hx hb dX8_chance_79 rfl (lv_at hl 3 rfl) ?_
      refine lv_i2l hx hb dX8_chance_80 rfl ?_
      obtain ⟨x6, ex6, hf⟩ := lt_e hf
      refine lv_nml ex6 ?_
      refine lv_lstore (lv' := [(8, .long x6), (6, .long x.2.2.2.1), (0, .ref (zA v 0)), (1, .int x.1), (2, .int x.2.1), (3, .int x.2.2.1), (4, .long x.2.2.2.1)]) hx hb dX8_chance_81 hl (by decide) rfl (fun ls hl => ?_)
      exact wL83 N (x.2.1, x.2.2.1, x.2.2.2.1, x.2.2.2.1, x6, x.2.2.2.2.2) hf _ _ _ hP hS (lv_sub hl [4, 5, 6, 1, 0] rfl)
    · have hf := ite_f c5 hf
      refine lv_aload_n hx hb dX8_chance_38 rfl (lv_at hl 0 rfl) ?_
      refine lv_iload_n hx hb dX8_chance_39 rfl (lv_at hl 1 rfl) ?_
      refine lv_iload hx hb dX8_chance_40 (lv_at hl 5 rfl) ?_
      refine lv_iadd hx hb dX8_chance_42 ?_
      obtain ⟨q13, eq13, hf⟩ := bd_e hf
      refine zki hS (zrV (As := [.int (x.1 + x.2.2.2.2.1)]) (rest := []) okM hx hb hml hown hts hk hP hS (t_X8_draws l v N (x.1 + x.2.2.2.2.1) x.2.2.2.2.2 _ eq13) vk_X8_draws ml_X8_387 rfl rfl ⟨(Nat.le_of_ble_eq_true rfl), (Nat.le_of_ble_eq_true rfl)⟩ (va_recv (q := (RX8, TX8, 55)) hk.1 hP (q0 := 0) (ci := 7) rfl rfl) rfl hl.1 rfl (Nat.le_of_ble_eq_true rfl) dX8_chance_43) (fun H locs hP hS => ?_)
      refine lv_istore (lv' := [(7, .int q13.1), (0, .ref (zA v 0)), (1, .int x.1), (2, .int x.2.1), (3, .int x.2.2.1), (4, .long x.2.2.2.1), (6, .int x.2.2.2.2.1)]) hx hb dX8_chance_46 hl (by decide) rfl (fun ls hl => ?_)
      refine lv_lload hx hb dX8_chance_48 (lv_at hl 5 rfl) ?_
      refine lv_iconst (v := 2) hx hb dX8_chance_50 kI_2 ?_
      refine lv_iload hx hb dX8_chance_51 (lv_at hl 0 rfl) ?_
      refine lv_imul hx hb dX8_chance_53 ?_
      refine lv_aload_n hx hb dX8_chance_54 rfl (lv_at hl 1 rfl) ?_
      refine va_get (D := zD v) (ci := 7) (v := .int (q13.2.1 0 43)) (C := RX8) (T := TX8) (N := 55) hx hb hts iX8 hown hk.1 hP 0 rfl rfl 43 (by decide) (hts _ fl_X8_384) (fun _ h9 => h9) rfl dX8_chance_55 ?_
      refine lv_icmp_lt (tgt := 65) hx hb dX8_chance_58 (by decide) (fun c14 => ?_) (fun c14 => ?_)
      · have hf := ite_t c14 hf
        refine lv_lconst (v := 0) hx hb dX8_chance_65 kL_0 ?_
        exact wb66 h32 hh32 x.1 x.2.1 x.2.2.1 x.2.2.2.2.1 (0 : Int64) x.2.2.2.1 q13.2 hf _ _ _ hP hS (lv_sub hl [1, 2, 3, 4, 6] rfl)
      · have hf := ite_f c14 hf
        refine lv_lconst (v := 1) hx hb dX8_chance_61 kL_1 ?_
        refine lv_goto (tgt := 66) hx hb dX8_chance_62 (by decide) ?_
        exact wb66 h32 hh32 x.1 x.2.1 x.2.2.1 x.2.2.2.2.1 (1 : Int64) x.2.2.2.1 q13.2 hf _ _ _ hP hS (lv_sub hl [1, 2, 3, 4, 6] rfl)
  unfold x_X8_chance at hf
  refine lv_iload_n hx hb dX8_chance_0 rfl (lv_at hl 2 rfl) ?_
  refine lv_i2l hx hb dX8_chance_1 rfl ?_
  refine lv_lconst (v := 1) hx hb dX8_chance_2 kL_1 ?_
  refine lv_ldc2 (v := 20) hx hb hown (hts _ kc_X8_372) dX8_chance_3 ?_
  obtain ⟨q1, eq1, hf⟩ := bd_e hf
  refine zki hS (zrS (As := [.long ((a2).toInt64), .long (1 : Int64), .long (20 : Int64)]) (rest := []) okM hx hb hml hown hts hk hP hS (t_X8_in l v N ((a2).toInt64) (1 : Int64) (20 : Int64) g _ eq1) sk_X8_in ml_X8_100 rfl rfl ⟨(Nat.le_of_ble_eq_true rfl), (Nat.le_of_ble_eq_true rfl)⟩ rfl hl.1 rfl (Nat.le_of_ble_eq_true rfl) dX8_chance_6) (fun H locs hP hS => ?_)
  refine lv_if_eq (tgt := 22) hx hb dX8_chance_9 (by decide) (fun c2 => ?_) (fun c2 => ?_)
  · have hf := ite_t c2 hf
    refine lv_ldc2 (v := -4611686018427387904) hx hb hown (hts _ kc_X8_390) dX8_chance_22 ?_
    exact hret _ _ _ _ _ _ (Option.some.inj hf) hP hS dX8_chance_25
  · have hf := ite_f c2 hf
    refine lv_iload_n hx hb dX8_chance_12 rfl (lv_at hl 3 rfl) ?_
    refine lv_i2l hx hb dX8_chance_13 rfl ?_
    refine lv_lconst (v := 0) hx hb dX8_chance_14 kL_0 ?_
    refine lv_lconst (v := 1) hx hb dX8_chance_15 kL_1 ?_
    obtain ⟨q3, eq3, hf⟩ := bd_e hf
    refine zki hS (zrS (As := [.long ((a3).toInt64), .long (0 : Int64), .long (1 : Int64)]) (rest := []) okM hx hb hml hown hts hk hP hS (t_X8_in l v N ((a3).toInt64) (0 : Int64) (1 : Int64) q1.2 _ eq3) sk_X8_in ml_X8_100 rfl rfl ⟨(Nat.le_of_ble_eq_true rfl), (Nat.le_of_ble_eq_true rfl)⟩ rfl hl.1 rfl (Nat.le_of_ble_eq_true rfl) dX8_chance_16) (fun H locs hP hS => ?_)
    refine lv_if_ne (tgt := 26) hx hb dX8_chance_19 (by decide) (fun c4 => ?_) (fun c4 => ?_)
    · have hf := ite_f c4 hf
      refine lv_lconst (v := 0) hx hb dX8_chance_26 kL_0 ?_
      refine lv_lstore (lv' := [(4, .long (0 : Int64)), (0, .ref (zA v 0)), (1, .int a1), (2, .int a2), (3, .int a3)]) hx hb dX8_chance_27 hl (by decide) rfl (fun ls hl => ?_)
      refine lv_iconst (v := 0) hx hb dX8_chance_29 kI_0 ?_
      refine lv_istore (lv' := [(6, .int (0 : Int32)), (4, .long (0 : Int64)), (0, .ref (zA v 0)), (1, .int a1), (2, .int a2), (3, .int a3)]) hx hb dX8_chance_30 hl (by decide) rfl (fun ls hl => ?_)
      exact wL32 N (a1, a2, a3, (0 : Int64), (0 : Int32), q3.2) hf _ _ _ hP hS (lv_sub hl [2, 3, 4, 5, 1, 0] rfl)
    · have hf := ite_t c4 hf
      refine lv_ldc2 (v := -4611686018427387904) hx hb hown (hts _ kc_X8_390) dX8_chance_22 ?_
      exact hret _ _ _ _ _ _ (Option.some.inj hf) hP hS dX8_chance_25
abbrev rm_X8_image : Room := { frames := 1, cells := 0, slots := 0, locals := 60 }
set_option maxRecDepth 100000 in
theorem t_X8_image (l : Launch) (v : Ev) (N : Nat) (g : SM) (res : Int32 × SM) (hf : x_X8_image N g = some res) : Ci l yX8_image cX8_image 2 .int rm_X8_image pM v [.ref (zA v 0)] g res := by
  refine ze_i (by decide +kernel) (Nat.le_of_ble_eq_true rfl) ?_
  intro p e s m args below meth c Q ls hcx hret hP hl
  obtain ⟨hx, hb, hml, hown, hts, hk⟩ := hcx
  have hown : s.vm.findClass RX8 = some m.cls := hown
  have hS : va_S (An nM v) s.heap s.heap [] := va_S.rf
  have hl : lv_has ls 2 [(0, .ref (zA v 0))] := hl
  have wL28 : ∀ (n : Nat) (x : Int32 × SM), lp (x_X8_image_B28 N) n x = some res → ∀ (H : Heap) (locs : List Loc) (ls : Array Slot), va_P (zD v) vwCl (pM.1 v x.2) H → va_S (An nM v) s.heap H locs → lv_has ls 2 [(0, .ref (zA v 0)), (1, .int x.1)] → W p l e rm_X8_image s m args below meth c H locs 0 0 Q (F0 m 28 ls []) := by
    refine lp_w (P := fun x : Int32 × SM => ∀ (H : Heap) (locs : List Loc) (ls : Array Slot), va_P (zD v) vwCl (pM.1 v x.2) H → va_S (An nM v) s.heap H locs → lv_has ls 2 [(0, .ref (zA v 0)), (1, .int x.1)] → W p l e rm_X8_image s m args below meth c H locs 0 0 Q (F0 m 28 ls [])) ?_
    intro h28 hh28 x hf H locs ls hP hS hl
    unfold x_X8_image_B28 at hf
    refine lv_iload_n hx hb dX8_image_28 rfl (lv_at hl 1 rfl) ?_
    refine lv_iconst (v := 5) hx hb dX8_image_29 kI_5 ?_
    refine lv_icmp_ge (tgt := 80) hx hb dX8_image_30 (by decide) (fun c2 => ?_) (fun c2 => ?_)
    · have hf := ite_t c2 hf
      refine lv_aload_n hx hb dX8_image_80 rfl (lv_at hl 0 rfl) ?_
      refine lv_aload_n hx hb dX8_image_81 rfl (lv_at hl 0 rfl) ?_
      refine va_get (D := zD v) (ci := 7) (v := .int (x.2.1 0 15)) (C := RX8) (T := TX8) (N := 55) hx hb hts iX8 hown hk.1 hP 0 rfl rfl 15 (by decide) (hts _ fl_X8_97) (fun _ h9 => h9) rfl dX8_image_82 ?_
      refine va_put (D := zD v) (ci := 7) (v := .int (x.2.1 0 15)) (ty := .int) (C := RX8) (T := TX8) (N := 55) hx hb hts iX8 tyX8 tyX8_ok nmX8 hown hk.1 hP (zw_D okM hk _) hS 0 rfl rfl 46 (by decide) (hts _ fl_X8_75) (fun _ h9 => h9) rfl pd_I rfl rfl (Nat.le_of_ble_eq_true rfl) dX8_image_85 (fun H locs hP1 _ hS => ?_)
      have hP : va_P (zD v) vwCl (pM.1 v (up x.2.1 0 (upd (x.2.1 0) 46 (x.2.1 0 15)), x.2.2)) H := hP1
      obtain ⟨g3, eg3, hf⟩ := lt_e hf
      rw [← eg3] at hP
      refine lv_aload_n hx hb dX8_image_88 rfl (lv_at hl 0 rfl) ?_
      refine lv_aload_n hx hb dX8_image_89 rfl (lv_at hl 0 rfl) ?_
      refine va_get (D := zD v) (ci := 7) (v := .int (g3.1 0 7)) (C := RX8) (T := TX8) (N := 55) hx hb hts iX8 hown hk.1 hP 0 rfl rfl 7 (by decide) (hts _ fl_X8_23) (fun _ h9 => h9) rfl dX8_image_90 ?_
      refine va_put (D := zD v) (ci := 7) (v := .int (g3.1 0 7)) (ty := .int) (C := RX8) (T := TX8) (N := 55) hx hb hts iX8 tyX8 tyX8_ok nmX8 hown hk.1 hP (zw_D okM hk _) hS 0 rfl rfl 47 (by decide) (hts _ fl_X8_392) (fun _ h9 => h9) rfl pd_I rfl rfl (Nat.le_of_ble_eq_true rfl) dX8_image_93 (fun H locs hP1 _ hS => ?_)
      have hP : va_P (zD v) vwCl (pM.1 v (up g3.1 0 (upd (g3.1 0) 47 (g3.1 0 7)), g3.2)) H := hP1
      obtain ⟨g4, eg4, hf⟩ := lt_e hf
      rw [← eg4] at hP
      refine lv_aload_n hx hb dX8_image_96 rfl (lv_at hl 0 rfl) ?_
      refine lv_aload_n hx hb dX8_image_97 rfl (lv_at hl 0 rfl) ?_
      refine va_get (D := zD v) (ci := 7) (v := .int (g4.1 0 8)) (C := RX8) (T := TX8) (N := 55) hx hb hts iX8 hown hk.1 hP 0 rfl rfl 8 (by decide) (hts _ fl_X8_26) (fun _ h9 => h9) rfl dX8_image_98 ?_
      refine va_put (D := zD v) (ci := 7) (v := .int (g4.1 0 8)) (ty := .int) (C := RX8) (T := TX8) (N := 55) hx hb hts iX8 tyX8 tyX8_ok nmX8 hown hk.1 hP (zw_D okM hk _) hS 0 rfl rfl 48 (by decide) (hts _ fl_X8_395) (fun _ h9 => h9) rfl pd_I rfl rfl (Nat.le_of_ble_eq_true rfl) dX8_image_101 (fun H locs hP1 _ hS => ?_)
      have hP : va_P (zD v) vwCl (pM.1 v (up g4.1 0 (upd (g4.1 0) 48 (g4.1 0 8)), g4.2)) H := hP1
      obtain ⟨g5, eg5, hf⟩ := lt_e hf
      rw [← eg5] at hP
      refine lv_aload_n hx hb dX8_image_104 rfl (lv_at hl 0 rfl) ?_
      refine lv_aload_n hx hb dX8_image_105 rfl (lv_at hl 0 rfl) ?_
      refine va_get (D := zD v) (ci := 7) (v := .int (g5.1 0 9)) (C := RX8) (T := TX8) (N := 55) hx hb hts iX8 hown hk.1 hP 0 rfl rfl 9 (by decide) (hts _ fl_X8_29) (fun _ h9 => h9) rfl dX8_image_106 ?_
      refine va_put (D := zD v) (ci := 7) (v := .int (g5.1 0 9)) (ty := .int) (C := RX8) (T := TX8) (N := 55) hx hb hts iX8 tyX8 tyX8_ok nmX8 hown hk.1 hP (zw_D okM hk _) hS 0 rfl rfl 49 (by decide) (hts _ fl_X8_398) (fun _ h9 => h9) rfl pd_I rfl rfl (Nat.le_of_ble_eq_true rfl) dX8_image_109 (fun H locs hP1 _ hS => ?_)
      have hP : va_P (zD v) vwCl (pM.1 v (up g5.1 0 (upd (g5.1 0) 49 (g5.1 0 9)), g5.2)) H := hP1
      obtain ⟨g6, eg6, hf⟩ := lt_e hf
      rw [← eg6] at hP
      refine lv_aload_n hx hb dX8_image_112 rfl (lv_at hl 0 rfl) ?_
      refine lv_aload_n hx hb dX8_image_113 rfl (lv_at hl 0 rfl) ?_
      refine va_get (D := zD v) (ci := 7) (v := .int (g6.1 0 4)) (C := RX8) (T := TX8) (N := 55) hx hb hts iX8 hown hk.1 hP 0 rfl rfl 4 (by decide) (hts _ fl_X8_270) (fun _ h9 => h9) rfl dX8_image_114 ?_
      refine va_put (D := zD v) (ci := 7) (v := .int (g6.1 0 4)) (ty := .int) (C := RX8) (T := TX8) (N := 55) hx hb hts iX8 tyX8 tyX8_ok nmX8 hown hk.1 hP (zw_D okM hk _) hS 0 rfl rfl 50 (by decide) (hts _ fl_X8_401) (fun _ h9 => h9) rfl pd_I rfl rfl (Nat.le_of_ble_eq_true rfl) dX8_image_117 (fun H locs hP1 _ hS => ?_)
      have hP : va_P (zD v) vwCl (pM.1 v (up g6.1 0 (upd (g6.1 0) 50 (g6.1 0 4)), g6.2)) H := hP1
      obtain ⟨g7, eg7, hf⟩ := lt_e hf
      rw [← eg7] at hP
      refine lv_aload_n hx hb dX8_image_120 rfl (lv_at hl 0 rfl) ?_
      refine va_get (D := zD v) (ci := 7) (v := .int (g7.1 0 15)) (C := RX8) (T := TX8) (N := 55) hx hb hts iX8 hown hk.1 hP 0 rfl rfl 15 (by decide) (hts _ fl_X8_97) (fun _ h9 => h9) rfl dX8_image_121 ?_
      exact hret _ _ _ _ _ _ (Or.inl rfl) (Option.some.inj hf) hP hS dX8_image_124
    · have hf := ite_f c2 hf
      refine lv_aload_n hx hb dX8_image_33 rfl (lv_at hl 0 rfl) ?_
      refine va_get (D := zD v) (ci := 7) (v := .ref (zA v 17)) (C := RX8) (T := TX8) (N := 55) hx hb hts iX8 hown hk.1 hP 0 rfl rfl 45 (by decide) (hts _ fl_X8_72) (fun _ h9 => h9) rfl dX8_image_34 ?_
      refine lv_iload_n hx hb dX8_image_37 rfl (lv_at hl 1 rfl) ?_
      refine lv_aload_n hx hb dX8_image_38 rfl (lv_at hl 0 rfl) ?_
      refine va_get (D := zD v) (ci := 7) (v := .ref (zA v 6)) (C := RX8) (T := TX8) (N := 55) hx hb hts iX8 hown hk.1 hP 0 rfl rfl 12 (by decide) (hts _ fl_X8_38) (fun _ h9 => h9) rfl dX8_image_39 ?_
      refine lv_iload_n hx hb dX8_image_42 rfl (lv_at hl 1 rfl) ?_
      obtain ⟨c8, hf⟩ := gd_e hf
      refine va_iald hx hb hk.1 hP 6 0 rfl rfl (inb_in c8) dX8_image_43 ?_
      obtain ⟨c9, hf⟩ := gd_e hf
      refine va_iast hx hb hk.1 hP (zw_D okM hk _) hS 17 0 rfl rfl (inb_in c9) dX8_image_44 (fun H locs hP1 _ hS => ?_)
      have hP : va_P (zD v) vwCl (pM.1 v (up x.2.1 17 (upd (x.2.1 17) (x.1).toNatClampNeg (x.2.1 6 (x.1).toNatClampNeg)), x.2.2)) H := hP1
      obtain ⟨g10, eg10, hf⟩ := lt_e hf
      rw [← eg10] at hP
      refine lv_aload_n hx hb dX8_image_45 rfl (lv_at hl 0 rfl) ?_
      refine va_get (D := zD v) (ci := 7) (v := .ref (zA v 17)) (C := RX8) (T := TX8) (N := 55) hx hb hts iX8 hown hk.1 hP 0 rfl rfl 45 (by decide) (hts _ fl_X8_72) (fun _ h9 => h9) rfl dX8_image_46 ?_
      refine lv_iconst (v := 5) hx hb dX8_image_49 kI_5 ?_
      refine lv_iload_n hx hb dX8_image_50 rfl (lv_at hl 1 rfl) ?_
      refine lv_iadd hx hb dX8_image_51 ?_
      refine lv_aload_n hx hb dX8_image_52 rfl (lv_at hl 0 rfl) ?_
      refine va_get (D := zD v) (ci := 7) (v := .ref (zA v 7)) (C := RX8) (T := TX8) (N := 55) hx hb hts iX8 hown hk.1 hP 0 rfl rfl 13 (by decide) (hts _ fl_X8_41) (fun _ h9 => h9) rfl dX8_image_53 ?_
      refine lv_iload_n hx hb dX8_image_56 rfl (lv_at hl 1 rfl) ?_
      obtain ⟨c11, hf⟩ := gd_e hf
      refine va_iald hx hb hk.1 hP 7 0 rfl rfl (inb_in c11) dX8_image_57 ?_
      obtain ⟨c12, hf⟩ := gd_e hf
      refine va_iast hx hb hk.1 hP (zw_D okM hk _) hS 17 0 rfl rfl (inb_in c12) dX8_image_58 (fun H locs hP1 _ hS => ?_)
      have hP : va_P (zD v) vwCl (pM.1 v (up g10.1 17 (upd (g10.1 17) (((5 : Int32) + x.1)).toNatClampNeg (g10.1 7 (x.1).toNatClampNeg)), g10.2)) H := hP1
      obtain ⟨g13, eg13, hf⟩ := lt_e hf
      rw [← eg13] at hP
      refine lv_aload_n hx hb dX8_image_59 rfl (lv_at hl 0 rfl) ?_
      refine va_get (D := zD v) (ci := 7) (v := .ref (zA v 17)) (C := RX8) (T := TX8) (N := 55) hx hb hts iX8 hown hk.1 hP 0 rfl rfl 45 (by decide) (hts _ fl_X8_72) (fun _ h9 => h9) rfl dX8_image_60 ?_
      refine lv_bipush (v := 10) hx hb dX8_image_63 kB_10 ?_
      refine lv_iload_n hx hb dX8_image_65 rfl (lv_at hl 1 rfl) ?_
      refine lv_iadd hx hb dX8_image_66 ?_
      refine lv_aload_n hx hb dX8_image_67 rfl (lv_at hl 0 rfl) ?_
      refine va_get (D := zD v) (ci := 7) (v := .ref (zA v 8)) (C := RX8) (T := TX8) (N := 55) hx hb hts iX8 hown hk.1 hP 0 rfl rfl 14 (by decide) (hts _ fl_X8_44) (fun _ h9 => h9) rfl dX8_image_68 ?_
      refine lv_iload_n hx hb dX8_image_71 rfl (lv_at hl 1 rfl) ?_
      obtain ⟨c14, hf⟩ := gd_e hf
      refine va_iald hx hb hk.1 hP 8 0 rfl rfl (inb_in c14) dX8_image_72 ?_
      obtain ⟨c15, hf⟩ := gd_e hf
      refine va_iast hx hb hk.1 hP (zw_D okM hk _) hS 17 0 rfl rfl (inb_in c15) dX8_image_73 (fun H locs hP1 _ hS => ?_)
      have hP : va_P (zD v) vwCl (pM.1 v (up g13.1 17 (upd (g13.1 17) (((10 : Int32) + x.1)).toNatClampNeg (g13.1 8 (x.1).toNatClampNeg)), g13.2)) H := hP1
      obtain ⟨g16, eg16, hf⟩ := lt_e hf
      rw [← eg16] at hP
      obtain ⟨x17, ex17, hf⟩ := lt_e hf
      refine lv_iinc (v := x17) (lv' := [(1, .int x17), (0, .ref (zA v 0))]) hx hb dX8_image_74 hl (k := 1) rfl ((congrArg (fun z => x.1 + z) kI_1).trans ex17.symm) (by decide) rfl (fun ls hl => ?_)
      refine lv_goto (tgt := 28) hx hb dX8_image_77 (by decide) ?_
      exact hh28 (x17, g16) hf _ _ _ hP hS (lv_sub hl [1, 0] rfl)
  have wL2 : ∀ (n : Nat) (x : Int32 × SM), lp (x_X8_image_B2 N) n x = some res → ∀ (H : Heap) (locs : List Loc) (ls : Array Slot), va_P (zD v) vwCl (pM.1 v x.2) H → va_S (An nM v) s.heap H locs → lv_has ls 2 [(0, .ref (zA v 0)), (1, .int x.1)] → W p l e rm_X8_image s m args below meth c H locs 0 0 Q (F0 m 2 ls []) := by
    refine lp_w (P := fun x : Int32 × SM => ∀ (H : Heap) (locs : List Loc) (ls : Array Slot), va_P (zD v) vwCl (pM.1 v x.2) H → va_S (An nM v) s.heap H locs → lv_has ls 2 [(0, .ref (zA v 0)), (1, .int x.1)] → W p l e rm_X8_image s m args below meth c H locs 0 0 Q (F0 m 2 ls [])) ?_
    intro h2 hh2 x hf H locs ls hP hS hl
    unfold x_X8_image_B2 at hf
    refine lv_iload_n hx hb dX8_image_2 rfl (lv_at hl 1 rfl) ?_
    refine lv_bipush (v := 100) hx hb dX8_image_3 kB_100 ?_
    refine lv_icmp_ge (tgt := 26) hx hb dX8_image_5 (by decide) (fun c1 => ?_) (fun c1 => ?_)
    · have hf := ite_t c1 hf
      refine lv_iconst (v := 0) hx hb dX8_image_26 kI_0 ?_
      refine lv_istore_n (lv' := [(1, .int (0 : Int32)), (0, .ref (zA v 0))]) hx hb dX8_image_27 rfl hl (by decide) rfl (fun ls hl => ?_)
      exact wL28 N ((0 : Int32), x.2) hf _ _ _ hP hS (lv_sub hl [1, 0] rfl)
    · have hf := ite_f c1 hf
      refine lv_aload_n hx hb dX8_image_8 rfl (lv_at hl 0 rfl) ?_
      refine va_get (D := zD v) (ci := 7) (v := .ref (zA v 16)) (C := RX8) (T := TX8) (N := 55) hx hb hts iX8 hown hk.1 hP 0 rfl rfl 44 (by decide) (hts _ fl_X8_69) (fun _ h9 => h9) rfl dX8_image_9 ?_
      refine lv_iload_n hx hb dX8_image_12 rfl (lv_at hl 1 rfl) ?_
      refine lv_aload_n hx hb dX8_image_13 rfl (lv_at hl 0 rfl) ?_
      refine va_get (D := zD v) (ci := 7) (v := .ref (zA v 4)) (C := RX8) (T := TX8) (N := 55) hx hb hts iX8 hown hk.1 hP 0 rfl rfl 10 (by decide) (hts _ fl_X8_32) (fun _ h9 => h9) rfl dX8_image_14 ?_
      refine lv_iload_n hx hb dX8_image_17 rfl (lv_at hl 1 rfl) ?_
      obtain ⟨c18, hf⟩ := gd_e hf
      refine va_iald hx hb hk.1 hP 4 0 rfl rfl (inb_in c18) dX8_image_18 ?_
      obtain ⟨c19, hf⟩ := gd_e hf
      refine va_iast hx hb hk.1 hP (zw_D okM hk _) hS 16 0 rfl rfl (inb_in c19) dX8_image_19 (fun H locs hP1 _ hS => ?_)
      have hP : va_P (zD v) vwCl (pM.1 v (up x.2.1 16 (upd (x.2.1 16) (x.1).toNatClampNeg (x.2.1 4 (x.1).toNatClampNeg)), x.2.2)) H := hP1
      obtain ⟨g20, eg20, hf⟩ := lt_e hf
      rw [← eg20] at hP
      obtain ⟨x21, ex21, hf⟩ := lt_e hf
      refine lv_iinc (v := x21) (lv' := [(1, .int x21), (0, .ref (zA v 0))]) hx hb dX8_image_20 hl (k := 1) rfl ((congrArg (fun z => x.1 + z) kI_1).trans ex21.symm) (by decide) rfl (fun ls hl => ?_)
      refine lv_goto (tgt := 2) hx hb dX8_image_23 (by decide) ?_
      exact hh2 (x21, g20) hf _ _ _ hP hS (lv_sub hl [1, 0] rfl)
  unfold x_X8_image at hf
  refine lv_iconst (v := 0) hx hb dX8_image_0 kI_0 ?_
  refine lv_istore_n (lv' := [(1, .int (0 : Int32)), (0, .ref (zA v 0))]) hx hb dX8_image_1 rfl hl (by decide) rfl (fun ls hl => ?_)
  exact wL2 N ((0 : Int32), g) hf _ _ _ hP hS (lv_sub hl [1, 0] rfl)
abbrev rm_X8_back : Room := { frames := 1, cells := 0, slots := 0, locals := 60 }
set_option maxRecDepth 100000 in
theorem t_X8_back (l : Launch) (v : Ev) (N : Nat) (g : SM) (res : Int32 × SM) (hf : x_X8_back N g = some res) : Ci l yX8_back cX8_back 2 .int rm_X8_back pM v [.ref (zA v 0)] g res := by
  refine ze_i (by decide +kernel) (Nat.le_of_ble_eq_true rfl) ?_
  intro p e s m args below meth c Q ls hcx hret hP hl
  obtain ⟨hx, hb, hml, hown, hts, hk⟩ := hcx
  have hown : s.vm.findClass RX8 = some m.cls := hown
  have hS : va_S (An nM v) s.heap s.heap [] := va_S.rf
  have hl : lv_has ls 2 [(0, .ref (zA v 0))] := hl
  have wL39 : ∀ (n : Nat) (x : Int32 × SM), lp (x_X8_back_B39 N) n x = some res → ∀ (H : Heap) (locs : List Loc) (ls : Array Slot), va_P (zD v) vwCl (pM.1 v x.2) H → va_S (An nM v) s.heap H locs → lv_has ls 2 [(0, .ref (zA v 0)), (1, .int x.1)] → W p l e rm_X8_back s m args below meth c H locs 0 0 Q (F0 m 39 ls []) := by
    refine lp_w (P := fun x : Int32 × SM => ∀ (H : Heap) (locs : List Loc) (ls : Array Slot), va_P (zD v) vwCl (pM.1 v x.2) H → va_S (An nM v) s.heap H locs → lv_has ls 2 [(0, .ref (zA v 0)), (1, .int x.1)] → W p l e rm_X8_back s m args below meth c H locs 0 0 Q (F0 m 39 ls [])) ?_
    intro h39 hh39 x hf H locs ls hP hS hl
    unfold x_X8_back_B39 at hf
    refine lv_iload_n hx hb dX8_back_39 rfl (lv_at hl 1 rfl) ?_
    refine lv_iconst (v := 5) hx hb dX8_back_40 kI_5 ?_
    refine lv_icmp_ge (tgt := 91) hx hb dX8_back_41 (by decide) (fun c3 => ?_) (fun c3 => ?_)
    · have hf := ite_t c3 hf
      refine lv_aload_n hx hb dX8_back_91 rfl (lv_at hl 0 rfl) ?_
      refine lv_aload_n hx hb dX8_back_92 rfl (lv_at hl 0 rfl) ?_
      refine va_get (D := zD v) (ci := 7) (v := .int (x.2.1 0 46)) (C := RX8) (T := TX8) (N := 55) hx hb hts iX8 hown hk.1 hP 0 rfl rfl 46 (by decide) (hts _ fl_X8_75) (fun _ h9 => h9) rfl dX8_back_93 ?_
      refine va_put (D := zD v) (ci := 7) (v := .int (x.2.1 0 46)) (ty := .int) (C := RX8) (T := TX8) (N := 55) hx hb hts iX8 tyX8 tyX8_ok nmX8 hown hk.1 hP (zw_D okM hk _) hS 0 rfl rfl 15 (by decide) (hts _ fl_X8_97) (fun _ h9 => h9) rfl pd_I rfl rfl (Nat.le_of_ble_eq_true rfl) dX8_back_96 (fun H locs hP1 _ hS => ?_)
      have hP : va_P (zD v) vwCl (pM.1 v (up x.2.1 0 (upd (x.2.1 0) 15 (x.2.1 0 46)), x.2.2)) H := hP1
      obtain ⟨g4, eg4, hf⟩ := lt_e hf
      rw [← eg4] at hP
      refine lv_aload_n hx hb dX8_back_99 rfl (lv_at hl 0 rfl) ?_
      refine lv_aload_n hx hb dX8_back_100 rfl (lv_at hl 0 rfl) ?_
      refine va_get (D := zD v) (ci := 7) (v := .int (g4.1 0 47)) (C := RX8) (T := TX8) (N := 55) hx hb hts iX8 hown hk.1 hP 0 rfl rfl 47 (by decide) (hts _ fl_X8_392) (fun _ h9 => h9) rfl dX8_back_101 ?_
      refine va_put (D := zD v) (ci := 7) (v := .int (g4.1 0 47)) (ty := .int) (C := RX8) (T := TX8) (N := 55) hx hb hts iX8 tyX8 tyX8_ok nmX8 hown hk.1 hP (zw_D okM hk _) hS 0 rfl rfl 7 (by decide) (hts _ fl_X8_23) (fun _ h9 => h9) rfl pd_I rfl rfl (Nat.le_of_ble_eq_true rfl) dX8_back_104 (fun H locs hP1 _ hS => ?_)
      have hP : va_P (zD v) vwCl (pM.1 v (up g4.1 0 (upd (g4.1 0) 7 (g4.1 0 47)), g4.2)) H := hP1
      obtain ⟨g5, eg5, hf⟩ := lt_e hf
      rw [← eg5] at hP
      refine lv_aload_n hx hb dX8_back_107 rfl (lv_at hl 0 rfl) ?_
      refine lv_aload_n hx hb dX8_back_108 rfl (lv_at hl 0 rfl) ?_
      refine va_get (D := zD v) (ci := 7) (v := .int (g5.1 0 48)) (C := RX8) (T := TX8) (N := 55) hx hb hts iX8 hown hk.1 hP 0 rfl rfl 48 (by decide) (hts _ fl_X8_395) (fun _ h9 => h9) rfl dX8_back_109 ?_
      refine va_put (D := zD v) (ci := 7) (v := .int (g5.1 0 48)) (ty := .int) (C := RX8) (T := TX8) (N := 55) hx hb hts iX8 tyX8 tyX8_ok nmX8 hown hk.1 hP (zw_D okM hk _) hS 0 rfl rfl 8 (by decide) (hts _ fl_X8_26) (fun _ h9 => h9) rfl pd_I rfl rfl (Nat.le_of_ble_eq_true rfl) dX8_back_112 (fun H locs hP1 _ hS => ?_)
      have hP : va_P (zD v) vwCl (pM.1 v (up g5.1 0 (upd (g5.1 0) 8 (g5.1 0 48)), g5.2)) H := hP1
      obtain ⟨g6, eg6, hf⟩ := lt_e hf
      rw [← eg6] at hP
      refine lv_aload_n hx hb dX8_back_115 rfl (lv_at hl 0 rfl) ?_
      refine lv_aload_n hx hb dX8_back_116 rfl (lv_at hl 0 rfl) ?_
      refine va_get (D := zD v) (ci := 7) (v := .int (g6.1 0 49)) (C := RX8) (T := TX8) (N := 55) hx hb hts iX8 hown hk.1 hP 0 rfl rfl 49 (by decide) (hts _ fl_X8_398) (fun _ h9 => h9) rfl dX8_back_117 ?_
      refine va_put (D := zD v) (ci := 7) (v := .int (g6.1 0 49)) (ty := .int) (C := RX8) (T := TX8) (N := 55) hx hb hts iX8 tyX8 tyX8_ok nmX8 hown hk.1 hP (zw_D okM hk _) hS 0 rfl rfl 9 (by decide) (hts _ fl_X8_29) (fun _ h9 => h9) rfl pd_I rfl rfl (Nat.le_of_ble_eq_true rfl) dX8_back_120 (fun H locs hP1 _ hS => ?_)
      have hP : va_P (zD v) vwCl (pM.1 v (up g6.1 0 (upd (g6.1 0) 9 (g6.1 0 49)), g6.2)) H := hP1
      obtain ⟨g7, eg7, hf⟩ := lt_e hf
      rw [← eg7] at hP
      refine lv_aload_n hx hb dX8_back_123 rfl (lv_at hl 0 rfl) ?_
      refine lv_aload_n hx hb dX8_back_124 rfl (lv_at hl 0 rfl) ?_
      refine va_get (D := zD v) (ci := 7) (v := .int (g7.1 0 50)) (C := RX8) (T := TX8) (N := 55) hx hb hts iX8 hown hk.1 hP 0 rfl rfl 50 (by decide) (hts _ fl_X8_401) (fun _ h9 => h9) rfl dX8_back_125 ?_
      refine va_put (D := zD v) (ci := 7) (v := .int (g7.1 0 50)) (ty := .int) (C := RX8) (T := TX8) (N := 55) hx hb hts iX8 tyX8 tyX8_ok nmX8 hown hk.1 hP (zw_D okM hk _) hS 0 rfl rfl 4 (by decide) (hts _ fl_X8_270) (fun _ h9 => h9) rfl pd_I rfl rfl (Nat.le_of_ble_eq_true rfl) dX8_back_128 (fun H locs hP1 _ hS => ?_)
      have hP : va_P (zD v) vwCl (pM.1 v (up g7.1 0 (upd (g7.1 0) 4 (g7.1 0 50)), g7.2)) H := hP1
      obtain ⟨g8, eg8, hf⟩ := lt_e hf
      rw [← eg8] at hP
      refine lv_aload_n hx hb dX8_back_131 rfl (lv_at hl 0 rfl) ?_
      refine va_get (D := zD v) (ci := 7) (v := .int (g8.1 0 15)) (C := RX8) (T := TX8) (N := 55) hx hb hts iX8 hown hk.1 hP 0 rfl rfl 15 (by decide) (hts _ fl_X8_97) (fun _ h9 => h9) rfl dX8_back_132 ?_
      exact hret _ _ _ _ _ _ (Or.inl rfl) (Option.some.inj hf) hP hS dX8_back_135
    · have hf := ite_f c3 hf
      refine lv_aload_n hx hb dX8_back_44 rfl (lv_at hl 0 rfl) ?_
      refine va_get (D := zD v) (ci := 7) (v := .ref (zA v 6)) (C := RX8) (T := TX8) (N := 55) hx hb hts iX8 hown hk.1 hP 0 rfl rfl 12 (by decide) (hts _ fl_X8_38) (fun _ h9 => h9) rfl dX8_back_45 ?_
      refine lv_iload_n hx hb dX8_back_48 rfl (lv_at hl 1 rfl) ?_
      refine lv_aload_n hx hb dX8_back_49 rfl (lv_at hl 0 rfl) ?_
      refine va_get (D := zD v) (ci := 7) (v := .ref (zA v 17)) (C := RX8) (T := TX8) (N := 55) hx hb hts iX8 hown hk.1 hP 0 rfl rfl 45 (by decide) (hts _ fl_X8_72) (fun _ h9 => h9) rfl dX8_back_50 ?_
      refine lv_iload_n hx hb dX8_back_53 rfl (lv_at hl 1 rfl) ?_
      obtain ⟨c9, hf⟩ := gd_e hf
      refine va_iald hx hb hk.1 hP 17 0 rfl rfl (inb_in c9) dX8_back_54 ?_
      obtain ⟨c10, hf⟩ := gd_e hf
      refine va_iast hx hb hk.1 hP (zw_D okM hk _) hS 6 0 rfl rfl (inb_in c10) dX8_back_55 (fun H locs hP1 _ hS => ?_)
      have hP : va_P (zD v) vwCl (pM.1 v (up x.2.1 6 (upd (x.2.1 6) (x.1).toNatClampNeg (x.2.1 17 (x.1).toNatClampNeg)), x.2.2)) H := hP1
      obtain ⟨g11, eg11, hf⟩ := lt_e hf
      rw [← eg11] at hP
      refine lv_aload_n hx hb dX8_back_56 rfl (lv_at hl 0 rfl) ?_
      refine va_get (D := zD v) (ci := 7) (v := .ref (zA v 7)) (C := RX8) (T := TX8) (N := 55) hx hb hts iX8 hown hk.1 hP 0 rfl rfl 13 (by decide) (hts _ fl_X8_41) (fun _ h9 => h9) rfl dX8_back_57 ?_
      refine lv_iload_n hx hb dX8_back_60 rfl (lv_at hl 1 rfl) ?_
      refine lv_aload_n hx hb dX8_back_61 rfl (lv_at hl 0 rfl) ?_
      refine va_get (D := zD v) (ci := 7) (v := .ref (zA v 17)) (C := RX8) (T := TX8) (N := 55) hx hb hts iX8 hown hk.1 hP 0 rfl rfl 45 (by decide) (hts _ fl_X8_72) (fun _ h9 => h9) rfl dX8_back_62 ?_
      refine lv_iconst (v := 5) hx hb dX8_back_65 kI_5 ?_
      refine lv_iload_n hx hb dX8_back_66 rfl (lv_at hl 1 rfl) ?_
      refine lv_iadd hx hb dX8_back_67 ?_
      obtain ⟨c12, hf⟩ := gd_e hf
      refine va_iald hx hb hk.1 hP 17 0 rfl rfl (inb_in c12) dX8_back_68 ?_
      obtain ⟨c13, hf⟩ := gd_e hf
      refine va_iast hx hb hk.1 hP (zw_D okM hk _) hS 7 0 rfl rfl (inb_in c13) dX8_back_69 (fun H locs hP1 _ hS => ?_)
      have hP : va_P (zD v) vwCl (pM.1 v (up g11.1 7 (upd (g11.1 7) (x.1).toNatClampNeg (g11.1 17 (((5 : Int32) + x.1)).toNatClampNeg)), g11.2)) H := hP1
      obtain ⟨g14, eg14, hf⟩ := lt_e hf
      rw [← eg14] at hP
      refine lv_aload_n hx hb dX8_back_70 rfl (lv_at hl 0 rfl) ?_
      refine va_get (D := zD v) (ci := 7) (v := .ref (zA v 8)) (C := RX8) (T := TX8) (N := 55) hx hb hts iX8 hown hk.1 hP 0 rfl rfl 14 (by decide) (hts _ fl_X8_44) (fun _ h9 => h9) rfl dX8_back_71 ?_
      refine lv_iload_n hx hb dX8_back_74 rfl (lv_at hl 1 rfl) ?_
      refine lv_aload_n hx hb dX8_back_75 rfl (lv_at hl 0 rfl) ?_
      refine va_get (D := zD v) (ci := 7) (v := .ref (zA v 17)) (C := RX8) (T := TX8) (N := 55) hx hb hts iX8 hown hk.1 hP 0 rfl rfl 45 (by decide) (hts _ fl_X8_72) (fun _ h9 => h9) rfl dX8_back_76 ?_
      refine lv_bipush (v := 10) hx hb dX8_back_79 kB_10 ?_
      refine lv_iload_n hx hb dX8_back_81 rfl (lv_at hl 1 rfl) ?_
      refine lv_iadd hx hb dX8_back_82 ?_
      obtain ⟨c15, hf⟩ := gd_e hf
      refine va_iald hx hb hk.1 hP 17 0 rfl rfl (inb_in c15) dX8_back_83 ?_
      obtain ⟨c16, hf⟩ := gd_e hf
      refine va_iast hx hb hk.1 hP (zw_D okM hk _) hS 8 0 rfl rfl (inb_in c16) dX8_back_84 (fun H locs hP1 _ hS => ?_)
      have hP : va_P (zD v) vwCl (pM.1 v (up g14.1 8 (upd (g14.1 8) (x.1).toNatClampNeg (g14.1 17 (((10 : Int32) + x.1)).toNatClampNeg)), g14.2)) H := hP1
      obtain ⟨g17, eg17, hf⟩ := lt_e hf
      rw [← eg17] at hP
      obtain ⟨x18, ex18, hf⟩ := lt_e hf
      refine lv_iinc (v := x18) (lv' := [(1, .int x18), (0, .ref (zA v 0))]) hx hb dX8_back_85 hl (k := 1) rfl ((congrArg (fun z => x.1 + z) kI_1).trans ex18.symm) (by decide) rfl (fun ls hl => ?_)
      refine lv_goto (tgt := 39) hx hb dX8_back_88 (by decide) ?_
      exact hh39 (x18, g17) hf _ _ _ hP hS (lv_sub hl [1, 0] rfl)
  have wL13 : ∀ (n : Nat) (x : Int32 × SM), lp (x_X8_back_B13 N) n x = some res → ∀ (H : Heap) (locs : List Loc) (ls : Array Slot), va_P (zD v) vwCl (pM.1 v x.2) H → va_S (An nM v) s.heap H locs → lv_has ls 2 [(0, .ref (zA v 0)), (1, .int x.1)] → W p l e rm_X8_back s m args below meth c H locs 0 0 Q (F0 m 13 ls []) := by
    refine lp_w (P := fun x : Int32 × SM => ∀ (H : Heap) (locs : List Loc) (ls : Array Slot), va_P (zD v) vwCl (pM.1 v x.2) H → va_S (An nM v) s.heap H locs → lv_has ls 2 [(0, .ref (zA v 0)), (1, .int x.1)] → W p l e rm_X8_back s m args below meth c H locs 0 0 Q (F0 m 13 ls [])) ?_
    intro h13 hh13 x hf H locs ls hP hS hl
    unfold x_X8_back_B13 at hf
    refine lv_iload_n hx hb dX8_back_13 rfl (lv_at hl 1 rfl) ?_
    refine lv_bipush (v := 100) hx hb dX8_back_14 kB_100 ?_
    refine lv_icmp_ge (tgt := 37) hx hb dX8_back_16 (by decide) (fun c2 => ?_) (fun c2 => ?_)
    · have hf := ite_t c2 hf
      refine lv_iconst (v := 0) hx hb dX8_back_37 kI_0 ?_
      refine lv_istore_n (lv' := [(1, .int (0 : Int32)), (0, .ref (zA v 0))]) hx hb dX8_back_38 rfl hl (by decide) rfl (fun ls hl => ?_)
      exact wL39 N ((0 : Int32), x.2) hf _ _ _ hP hS (lv_sub hl [1, 0] rfl)
    · have hf := ite_f c2 hf
      refine lv_aload_n hx hb dX8_back_19 rfl (lv_at hl 0 rfl) ?_
      refine va_get (D := zD v) (ci := 7) (v := .ref (zA v 4)) (C := RX8) (T := TX8) (N := 55) hx hb hts iX8 hown hk.1 hP 0 rfl rfl 10 (by decide) (hts _ fl_X8_32) (fun _ h9 => h9) rfl dX8_back_20 ?_
      refine lv_iload_n hx hb dX8_back_23 rfl (lv_at hl 1 rfl) ?_
      refine lv_aload_n hx hb dX8_back_24 rfl (lv_at hl 0 rfl) ?_
      refine va_get (D := zD v) (ci := 7) (v := .ref (zA v 16)) (C := RX8) (T := TX8) (N := 55) hx hb hts iX8 hown hk.1 hP 0 rfl rfl 44 (by decide) (hts _ fl_X8_69) (fun _ h9 => h9) rfl dX8_back_25 ?_
      refine lv_iload_n hx hb dX8_back_28 rfl (lv_at hl 1 rfl) ?_
      obtain ⟨c19, hf⟩ := gd_e hf
      refine va_iald hx hb hk.1 hP 16 0 rfl rfl (inb_in c19) dX8_back_29 ?_
      obtain ⟨c20, hf⟩ := gd_e hf
      refine va_iast hx hb hk.1 hP (zw_D okM hk _) hS 4 0 rfl rfl (inb_in c20) dX8_back_30 (fun H locs hP1 _ hS => ?_)
      have hP : va_P (zD v) vwCl (pM.1 v (up x.2.1 4 (upd (x.2.1 4) (x.1).toNatClampNeg (x.2.1 16 (x.1).toNatClampNeg)), x.2.2)) H := hP1
      obtain ⟨g21, eg21, hf⟩ := lt_e hf
      rw [← eg21] at hP
      obtain ⟨x22, ex22, hf⟩ := lt_e hf
      refine lv_iinc (v := x22) (lv' := [(1, .int x22), (0, .ref (zA v 0))]) hx hb dX8_back_31 hl (k := 1) rfl ((congrArg (fun z => x.1 + z) kI_1).trans ex22.symm) (by decide) rfl (fun ls hl => ?_)
      refine lv_goto (tgt := 13) hx hb dX8_back_34 (by decide) ?_
      exact hh13 (x22, g21) hf _ _ _ hP hS (lv_sub hl [1, 0] rfl)
  unfold x_X8_back at hf
  refine lv_aload_n hx hb dX8_back_0 rfl (lv_at hl 0 rfl) ?_
  refine va_get (D := zD v) (ci := 7) (v := .int (g.1 0 46)) (C := RX8) (T := TX8) (N := 55) hx hb hts iX8 hown hk.1 hP 0 rfl rfl 46 (by decide) (hts _ fl_X8_75) (fun _ h9 => h9) rfl dX8_back_1 ?_
  refine lv_iconst (v := -1) hx hb dX8_back_4 kI_m1 ?_
  refine lv_icmp_ne (tgt := 11) hx hb dX8_back_5 (by decide) (fun c1 => ?_) (fun c1 => ?_)
  · have hf := ite_f c1 hf
    refine lv_iconst (v := 0) hx hb dX8_back_11 kI_0 ?_
    refine lv_istore_n (lv' := [(1, .int (0 : Int32)), (0, .ref (zA v 0))]) hx hb dX8_back_12 rfl hl (by decide) rfl (fun ls hl => ?_)
    exact wL13 N ((0 : Int32), g) hf _ _ _ hP hS (lv_sub hl [1, 0] rfl)
  · have hf := ite_t c1 hf
    refine lv_bipush (v := -3) hx hb dX8_back_8 kB_m3 ?_
    exact hret _ _ _ _ _ _ (Or.inl rfl) (Option.some.inj hf) hP hS dX8_back_10
abbrev rm_X8_count : Room := { frames := 3, cells := 0, slots := 0, locals := 103 }
set_option maxRecDepth 100000 in
theorem t_X8_count (l : Launch) (v : Ev) (N : Nat) (a1 : Int32) (g : SM) (res : Int32 × SM) (hf : x_X8_count N a1 g = some res) : Ci l yX8_count cX8_count 2 .int rm_X8_count pM v [.ref (zA v 0), .int a1] g res := by
  refine ze_i (by decide +kernel) (Nat.le_of_ble_eq_true rfl) ?_
  intro p e s m args below meth c Q ls hcx hret hP hl
  obtain ⟨hx, hb, hml, hown, hts, hk⟩ := hcx
  have hown : s.vm.findClass RX8 = some m.cls := hown
  have hS : va_S (An nM v) s.heap s.heap [] := va_S.rf
  have hl : lv_has ls 2 [(0, .ref (zA v 0)), (1, .int a1)] := hl
  unfold x_X8_count at hf
  refine lv_iload_n hx hb dX8_count_0 rfl (lv_at hl 1 rfl) ?_
  refine lv_i2l hx hb dX8_count_1 rfl ?_
  refine lv_lconst (v := 0) hx hb dX8_count_2 kL_0 ?_
  refine lv_ldc2 (v := 5) hx hb hown (hts _ kc_X8_127) dX8_count_3 ?_
  obtain ⟨q1, eq1, hf⟩ := bd_e hf
  refine zki hS (zrS (As := [.long ((a1).toInt64), .long (0 : Int64), .long (5 : Int64)]) (rest := []) okM hx hb hml hown hts hk hP hS (t_X8_in l v N ((a1).toInt64) (0 : Int64) (5 : Int64) g _ eq1) sk_X8_in ml_X8_100 rfl rfl ⟨(Nat.le_of_ble_eq_true rfl), (Nat.le_of_ble_eq_true rfl)⟩ rfl hl.1 rfl (Nat.le_of_ble_eq_true rfl) dX8_count_6) (fun H locs hP hS => ?_)
  refine lv_if_ne (tgt := 15) hx hb dX8_count_9 (by decide) (fun c2 => ?_) (fun c2 => ?_)
  · have hf := ite_f c2 hf
    refine lv_iload_n hx hb dX8_count_15 rfl (lv_at hl 1 rfl) ?_
    refine lv_iconst (v := 3) hx hb dX8_count_16 kI_3 ?_
    refine lv_icmp_ge (tgt := 48) hx hb dX8_count_17 (by decide) (fun c3 => ?_) (fun c3 => ?_)
    · have hf := ite_t c3 hf
      refine lv_iload_n hx hb dX8_count_48 rfl (lv_at hl 1 rfl) ?_
      refine lv_iconst (v := 3) hx hb dX8_count_49 kI_3 ?_
      refine lv_icmp_ne (tgt := 60) hx hb dX8_count_50 (by decide) (fun c4 => ?_) (fun c4 => ?_)
      · have hf := ite_f c4 hf
        refine lv_iload_n hx hb dX8_count_60 rfl (lv_at hl 1 rfl) ?_
        refine lv_iconst (v := 4) hx hb dX8_count_61 kI_4 ?_
        refine lv_icmp_ne (tgt := 72) hx hb dX8_count_62 (by decide) (fun c5 => ?_) (fun c5 => ?_)
        · have hf := ite_f c5 hf
          refine lv_aload_n hx hb dX8_count_72 rfl (lv_at hl 0 rfl) ?_
          refine va_get (D := zD v) (ci := 7) (v := .int (q1.2.1 0 4)) (C := RX8) (T := TX8) (N := 55) hx hb hts iX8 hown hk.1 hP 0 rfl rfl 4 (by decide) (hts _ fl_X8_270) (fun _ h9 => h9) rfl dX8_count_73 ?_
          exact hret _ _ _ _ _ _ (Or.inl rfl) (Option.some.inj hf) hP hS dX8_count_76
        · have hf := ite_t c5 hf
          refine lv_aload_n hx hb dX8_count_65 rfl (lv_at hl 0 rfl) ?_
          refine va_get (D := zD v) (ci := 7) (v := .int (q1.2.1 0 6)) (C := RX8) (T := TX8) (N := 55) hx hb hts iX8 hown hk.1 hP 0 rfl rfl 6 (by decide) (hts _ fl_X8_153) (fun _ h9 => h9) rfl dX8_count_66 ?_
          refine lv_goto (tgt := 76) hx hb dX8_count_69 (by decide) ?_
          exact hret _ _ _ _ _ _ (Or.inl rfl) (Option.some.inj hf) hP hS dX8_count_76
      · have hf := ite_t c4 hf
        refine lv_aload_n hx hb dX8_count_53 rfl (lv_at hl 0 rfl) ?_
        refine va_get (D := zD v) (ci := 7) (v := .int (q1.2.1 0 3)) (C := RX8) (T := TX8) (N := 55) hx hb hts iX8 hown hk.1 hP 0 rfl rfl 3 (by decide) (hts _ fl_X8_94) (fun _ h9 => h9) rfl dX8_count_54 ?_
        refine lv_goto (tgt := 76) hx hb dX8_count_57 (by decide) ?_
        exact hret _ _ _ _ _ _ (Or.inl rfl) (Option.some.inj hf) hP hS dX8_count_76
    · have hf := ite_f c3 hf
      refine lv_iload_n hx hb dX8_count_20 rfl (lv_at hl 1 rfl) ?_
      refine lv_if_ne (tgt := 31) hx hb dX8_count_21 (by decide) (fun c6 => ?_) (fun c6 => ?_)
      · have hf := ite_f c6 hf
        refine lv_iload_n hx hb dX8_count_31 rfl (lv_at hl 1 rfl) ?_
        refine lv_iconst (v := 1) hx hb dX8_count_32 kI_1 ?_
        refine lv_icmp_ne (tgt := 43) hx hb dX8_count_33 (by decide) (fun c7 => ?_) (fun c7 => ?_)
        · have hf := ite_f c7 hf
          refine lv_aload_n hx hb dX8_count_43 rfl (lv_at hl 0 rfl) ?_
          obtain ⟨q8, eq8, hf⟩ := bd_e hf
          refine zki hS (zrV (As := []) (rest := []) okM hx hb hml hown hts hk hP hS (t_X8_townAll l v N q1.2 _ eq8) vk_X8_townAll ml_X8_381 rfl rfl ⟨(Nat.le_of_ble_eq_true rfl), (Nat.le_of_ble_eq_true rfl)⟩ (va_recv (q := (RX8, TX8, 55)) hk.1 hP (q0 := 0) (ci := 7) rfl rfl) rfl hl.1 rfl (Nat.le_of_ble_eq_true rfl) dX8_count_44) (fun H locs hP hS => ?_)
          exact hret _ _ _ _ _ _ (Or.inl rfl) (Option.some.inj hf) hP hS dX8_count_47
        · have hf := ite_t c7 hf
          refine lv_aload_n hx hb dX8_count_36 rfl (lv_at hl 0 rfl) ?_
          obtain ⟨q9, eq9, hf⟩ := bd_e hf
          refine zki hS (zrV (As := []) (rest := []) okM hx hb hml hown hts hk hP hS (t_X8_stockMany l v N q1.2 _ eq9) vk_X8_stockMany ml_X8_374 rfl rfl ⟨(Nat.le_of_ble_eq_true rfl), (Nat.le_of_ble_eq_true rfl)⟩ (va_recv (q := (RX8, TX8, 55)) hk.1 hP (q0 := 0) (ci := 7) rfl rfl) rfl hl.1 rfl (Nat.le_of_ble_eq_true rfl) dX8_count_37) (fun H locs hP hS => ?_)
          refine lv_goto (tgt := 47) hx hb dX8_count_40 (by decide) ?_
          exact hret _ _ _ _ _ _ (Or.inl rfl) (Option.some.inj hf) hP hS dX8_count_47
      · have hf := ite_t c6 hf
        refine lv_aload_n hx hb dX8_count_24 rfl (lv_at hl 0 rfl) ?_
        refine va_get (D := zD v) (ci := 7) (v := .int (q1.2.1 0 15)) (C := RX8) (T := TX8) (N := 55) hx hb hts iX8 hown hk.1 hP 0 rfl rfl 15 (by decide) (hts _ fl_X8_97) (fun _ h9 => h9) rfl dX8_count_25 ?_
        refine lv_goto (tgt := 47) hx hb dX8_count_28 (by decide) ?_
        exact hret _ _ _ _ _ _ (Or.inl rfl) (Option.some.inj hf) hP hS dX8_count_47
  · have hf := ite_t c2 hf
    refine lv_bipush (v := -2) hx hb dX8_count_12 kB_m2 ?_
    exact hret _ _ _ _ _ _ (Or.inl rfl) (Option.some.inj hf) hP hS dX8_count_14
abbrev rm_X8_cell : Room := { frames := 3, cells := 0, slots := 0, locals := 105 }
set_option maxRecDepth 100000 in
theorem t_X8_cell (l : Launch) (v : Ev) (N : Nat) (a1 : Int32) (a2 : Int32) (a3 : Int32) (g : SM) (res : Int32 × SM) (hf : x_X8_cell N a1 a2 a3 g = some res) : Ci l yX8_cell cX8_cell 4 .int rm_X8_cell pM v [.ref (zA v 0), .int a1, .int a2, .int a3] g res := by
  refine ze_i (by decide +kernel) (Nat.le_of_ble_eq_true rfl) ?_
  intro p e s m args below meth c Q ls hcx hret hP hl
  obtain ⟨hx, hb, hml, hown, hts, hk⟩ := hcx
  have hown : s.vm.findClass RX8 = some m.cls := hown
  have hS : va_S (An nM v) s.heap s.heap [] := va_S.rf
  have hl : lv_has ls 4 [(0, .ref (zA v 0)), (1, .int a1), (2, .int a2), (3, .int a3)] := hl
  have wb83 : ∀ (t0 : Int32) (t1 : Int32) (g : SM) (hf : x_X8_cell_b83 N t0 t1 g = some res) (H : Heap) (locs : List Loc) (ls : Array Slot) (hP : va_P (zD v) vwCl (pM.1 v g) H) (hS : va_S (An nM v) s.heap H locs) (hl : lv_has ls 4 []), W p l e rm_X8_cell s m args below meth c H locs 0 0 Q (F0 m 83 ls [.int t0, .int t1, .ref (zA v 21)]) := by
    intro t0 t1 g hf H locs ls hP hS hl
    unfold x_X8_cell_b83 at hf
    obtain ⟨c12, hf⟩ := gd_e hf
    refine va_iast hx hb hk.1 hP (zw_D okM hk _) hS 21 0 rfl rfl (inb_in c12) dX8_cell_83 (fun H locs hP1 _ hS => ?_)
    have hP : va_P (zD v) vwCl (pM.1 v (up g.1 21 (upd (g.1 21) (t1).toNatClampNeg t0), g.2)) H := hP1
    obtain ⟨g13, eg13, hf⟩ := lt_e hf
    rw [← eg13] at hP
    refine lv_iconst (v := 1) hx hb dX8_cell_84 kI_1 ?_
    exact hret _ _ _ _ _ _ (Or.inl rfl) (Option.some.inj hf) hP hS dX8_cell_85
  unfold x_X8_cell at hf
  refine lv_iload_n hx hb dX8_cell_0 rfl (lv_at hl 1 rfl) ?_
  obtain ⟨q1, eq1, hf⟩ := bd_e hf
  refine zki hS (zrS (As := [.int a1]) (rest := []) okM hx hb hml hown hts hk hP hS (t_X8_isSheet l v N a1 g _ eq1) sk_X8_isSheet ml_X8_280 rfl rfl ⟨(Nat.le_of_ble_eq_true rfl), (Nat.le_of_ble_eq_true rfl)⟩ rfl hl.1 rfl (Nat.le_of_ble_eq_true rfl) dX8_cell_1) (fun H locs hP hS => ?_)
  refine lv_if_ne (tgt := 10) hx hb dX8_cell_4 (by decide) (fun c2 => ?_) (fun c2 => ?_)
  · have hf := ite_f c2 hf
    refine lv_aload_n hx hb dX8_cell_10 rfl (lv_at hl 0 rfl) ?_
    refine va_get (D := zD v) (ci := 7) (v := .ref (zA v 18)) (C := RX8) (T := TX8) (N := 55) hx hb hts iX8 hown hk.1 hP 0 rfl rfl 51 (by decide) (hts _ fl_X8_78) (fun _ h9 => h9) rfl dX8_cell_11 ?_
    refine lv_iload_n hx hb dX8_cell_14 rfl (lv_at hl 1 rfl) ?_
    obtain ⟨c3, hf⟩ := gd_e hf
    refine va_zald hx hb hk.1 hP 18 1 rfl rfl (inb_in c3) dX8_cell_15 ?_
    refine lv_if_ne (tgt := 22) hx hb dX8_cell_16 (by decide) (fun c4 => ?_) (fun c4 => ?_)
    · have hf := ite_f c4 hf
      refine lv_iload_n hx hb dX8_cell_22 rfl (lv_at hl 2 rfl) ?_
      refine lv_i2l hx hb dX8_cell_23 rfl ?_
      refine lv_lconst (v := 0) hx hb dX8_cell_24 kL_0 ?_
      refine lv_aload_n hx hb dX8_cell_25 rfl (lv_at hl 0 rfl) ?_
      refine va_get (D := zD v) (ci := 7) (v := .ref (zA v 20)) (C := RX8) (T := TX8) (N := 55) hx hb hts iX8 hown hk.1 hP 0 rfl rfl 53 (by decide) (hts _ fl_X8_84) (fun _ h9 => h9) rfl dX8_cell_26 ?_
      refine lv_iload_n hx hb dX8_cell_29 rfl (lv_at hl 1 rfl) ?_
      obtain ⟨c5, hf⟩ := gd_e hf
      refine va_iald hx hb hk.1 hP 20 0 rfl rfl (inb_in c5) dX8_cell_30 ?_
      refine lv_iconst (v := 1) hx hb dX8_cell_31 kI_1 ?_
      refine lv_isub hx hb dX8_cell_32 ?_
      refine lv_i2l hx hb dX8_cell_33 rfl ?_
      obtain ⟨q6, eq6, hf⟩ := bd_e hf
      refine zki hS (zrS (As := [.long ((a2).toInt64), .long (0 : Int64), .long ((((q1.2.1 20 (a1).toNatClampNeg) - (1 : Int32))).toInt64)]) (rest := []) okM hx hb hml hown hts hk hP hS (t_X8_in l v N ((a2).toInt64) (0 : Int64) ((((q1.2.1 20 (a1).toNatClampNeg) - (1 : Int32))).toInt64) q1.2 _ eq6) sk_X8_in ml_X8_100 rfl rfl ⟨(Nat.le_of_ble_eq_true rfl), (Nat.le_of_ble_eq_true rfl)⟩ rfl hl.1 rfl (Nat.le_of_ble_eq_true rfl) dX8_cell_34) (fun H locs hP hS => ?_)
      refine lv_if_ne (tgt := 43) hx hb dX8_cell_37 (by decide) (fun c7 => ?_) (fun c7 => ?_)
      · have hf := ite_f c7 hf
        refine lv_aload_n hx hb dX8_cell_43 rfl (lv_at hl 0 rfl) ?_
        refine va_get (D := zD v) (ci := 7) (v := .ref (zA v 21)) (C := RX8) (T := TX8) (N := 55) hx hb hts iX8 hown hk.1 hP 0 rfl rfl 54 (by decide) (hts _ fl_X8_87) (fun _ h9 => h9) rfl dX8_cell_44 ?_
        refine lv_bipush (v := 40) hx hb dX8_cell_47 kB_40 ?_
        refine lv_iload_n hx hb dX8_cell_49 rfl (lv_at hl 1 rfl) ?_
        refine lv_imul hx hb dX8_cell_50 ?_
        refine lv_iload_n hx hb dX8_cell_51 rfl (lv_at hl 2 rfl) ?_
        refine lv_iadd hx hb dX8_cell_52 ?_
        refine lv_aload_n hx hb dX8_cell_53 rfl (lv_at hl 0 rfl) ?_
        refine va_get (D := zD v) (ci := 7) (v := .ref (zA v 19)) (C := RX8) (T := TX8) (N := 55) hx hb hts iX8 hown hk.1 hP 0 rfl rfl 52 (by decide) (hts _ fl_X8_81) (fun _ h9 => h9) rfl dX8_cell_54 ?_
        refine lv_iload_n hx hb dX8_cell_57 rfl (lv_at hl 1 rfl) ?_
        obtain ⟨c8, hf⟩ := gd_e hf
        refine va_iald hx hb hk.1 hP 19 0 rfl rfl (inb_in c8) dX8_cell_58 ?_
        refine lv_if_ne (tgt := 67) hx hb dX8_cell_59 (by decide) (fun c9 => ?_) (fun c9 => ?_)
        · have hf := ite_f c9 hf
          refine lv_aload_n hx hb dX8_cell_67 rfl (lv_at hl 0 rfl) ?_
          refine va_get (D := zD v) (ci := 7) (v := .ref (zA v 19)) (C := RX8) (T := TX8) (N := 55) hx hb hts iX8 hown hk.1 hP 0 rfl rfl 52 (by decide) (hts _ fl_X8_81) (fun _ h9 => h9) rfl dX8_cell_68 ?_
          refine lv_iload_n hx hb dX8_cell_71 rfl (lv_at hl 1 rfl) ?_
          obtain ⟨c10, hf⟩ := gd_e hf
          refine va_iald hx hb hk.1 hP 19 0 rfl rfl (inb_in c10) dX8_cell_72 ?_
          refine lv_iconst (v := 1) hx hb dX8_cell_73 kI_1 ?_
          refine lv_icmp_ne (tgt := 82) hx hb dX8_cell_74 (by decide) (fun c11 => ?_) (fun c11 => ?_)
          · have hf := ite_f c11 hf
            refine lv_iload_n hx hb dX8_cell_82 rfl (lv_at hl 3 rfl) ?_
            exact wb83 a3 (((40 : Int32) * a1) + a2) q6.2 hf _ _ _ hP hS (lv_sub hl [] rfl)
          · have hf := ite_t c11 hf
            refine lv_iload_n hx hb dX8_cell_77 rfl (lv_at hl 3 rfl) ?_
            refine lv_i2s hx hb dX8_cell_78 rfl ?_
            refine lv_goto (tgt := 83) hx hb dX8_cell_79 (by decide) ?_
            exact wb83 ((a3).toInt16.toInt32) (((40 : Int32) * a1) + a2) q6.2 hf _ _ _ hP hS (lv_sub hl [] rfl)
        · have hf := ite_t c9 hf
          refine lv_iload_n hx hb dX8_cell_62 rfl (lv_at hl 3 rfl) ?_
          refine lv_i2b hx hb dX8_cell_63 rfl ?_
          refine lv_goto (tgt := 83) hx hb dX8_cell_64 (by decide) ?_
          exact wb83 ((a3).toInt8.toInt32) (((40 : Int32) * a1) + a2) q6.2 hf _ _ _ hP hS (lv_sub hl [] rfl)
      · have hf := ite_t c7 hf
        refine lv_bipush (v := -12) hx hb dX8_cell_40 kB_m12 ?_
        exact hret _ _ _ _ _ _ (Or.inl rfl) (Option.some.inj hf) hP hS dX8_cell_42
    · have hf := ite_t c4 hf
      refine lv_bipush (v := -11) hx hb dX8_cell_19 kB_m11 ?_
      exact hret _ _ _ _ _ _ (Or.inl rfl) (Option.some.inj hf) hP hS dX8_cell_21
  · have hf := ite_t c2 hf
    refine lv_bipush (v := -2) hx hb dX8_cell_7 kB_m2 ?_
    exact hret _ _ _ _ _ _ (Or.inl rfl) (Option.some.inj hf) hP hS dX8_cell_9
abbrev rm_X8_copy : Room := { frames := 3, cells := 0, slots := 0, locals := 105 }
set_option maxRecDepth 100000 in
theorem t_X8_copy (l : Launch) (v : Ev) (N : Nat) (a1 : Int32) (a2 : Int32) (a3 : Int32) (a4 : Int32) (a5 : Int32) (g : SM) (res : Int32 × SM) (hf : x_X8_copy N a1 a2 a3 a4 a5 g = some res) : Ci l yX8_copy cX8_copy 9 .int rm_X8_copy pM v [.ref (zA v 0), .int a1, .int a2, .int a3, .int a4, .int a5] g res := by
  refine ze_i (by decide +kernel) (Nat.le_of_ble_eq_true rfl) ?_
  intro p e s m args below meth c Q ls hcx hret hP hl
  obtain ⟨hx, hb, hml, hown, hts, hk⟩ := hcx
  have hown : s.vm.findClass RX8 = some m.cls := hown
  have hS : va_S (An nM v) s.heap s.heap [] := va_S.rf
  have hl : lv_has ls 9 [(0, .ref (zA v 0)), (1, .int a1), (2, .int a2), (3, .int a3), (4, .int a4), (5, .int a5)] := hl
  have wb145 : ∀ (h121 : Int32 × Int32 × Int32 × Int32 × Int32 × Int32 × Int32 × SM → Option (Int32 × SM)) (hh121 : ∀ x : Int32 × Int32 × Int32 × Int32 × Int32 × Int32 × Int32 × SM, h121 x = some res → ∀ (H : Heap) (locs : List Loc) (ls : Array Slot), va_P (zD v) vwCl (pM.1 v x.2.2.2.2.2.2.2) H → va_S (An nM v) s.heap H locs → lv_has ls 9 [(0, .ref (zA v 0)), (1, .int x.1), (2, .int x.2.1), (3, .int x.2.2.1), (4, .int x.2.2.2.1), (5, .int x.2.2.2.2.1), (6, .int x.2.2.2.2.2.1), (7, .int x.2.2.2.2.2.2.1)] → W p l e rm_X8_copy s m args below meth c H locs 0 0 Q (F0 m 121 ls [])) (y1 : Int32) (y2 : Int32) (y3 : Int32) (y4 : Int32) (y5 : Int32) (y6 : Int32) (y7 : Int32) (t0 : Int32) (g : SM) (hf : x_X8_copy_b145 N h121 y1 y2 y3 y4 y5 y6 y7 t0 g = some res) (H : Heap) (locs : List Loc) (ls : Array Slot) (hP : va_P (zD v) vwCl (pM.1 v g) H) (hS : va_S (An nM v) s.heap H locs) (hl : lv_has ls 9 [(0, .ref (zA v 0)), (1, .int y1), (2, .int y2), (3, .int y3), (4, .int y4), (5, .int y5), (6, .int y6), (7, .int y7)]), W p l e rm_X8_copy s m args below meth c H locs 0 0 Q (F0 m 145 ls [.int t0]) := by
    intro h121 hh121 y1 y2 y3 y4 y5 y6 y7 t0 g hf H locs ls hP hS hl
    unfold x_X8_copy_b145 at hf
    refine lv_istore (lv' := [(8, .int t0), (0, .ref (zA v 0)), (1, .int y1), (2, .int y2), (3, .int y3), (4, .int y4), (5, .int y5), (6, .int y6), (7, .int y7)]) hx hb dX8_copy_145 hl (by decide) rfl (fun ls hl => ?_)
    refine lv_aload_n hx hb dX8_copy_147 rfl (lv_at hl 1 rfl) ?_
    refine va_get (D := zD v) (ci := 7) (v := .ref (zA v 21)) (C := RX8) (T := TX8) (N := 55) hx hb hts iX8 hown hk.1 hP 0 rfl rfl 54 (by decide) (hts _ fl_X8_87) (fun _ h9 => h9) rfl dX8_copy_148 ?_
    refine lv_bipush (v := 40) hx hb dX8_copy_151 kB_40 ?_
    refine lv_iload_n hx hb dX8_copy_153 rfl (lv_at hl 4 rfl) ?_
    refine lv_imul hx hb dX8_copy_154 ?_
    refine lv_iload hx hb dX8_copy_155 (lv_at hl 5 rfl) ?_
    refine lv_iadd hx hb dX8_copy_157 ?_
    refine lv_iload hx hb dX8_copy_158 (lv_at hl 0 rfl) ?_
    refine lv_iadd hx hb dX8_copy_160 ?_
    refine lv_aload_n hx hb dX8_copy_161 rfl (lv_at hl 1 rfl) ?_
    refine va_get (D := zD v) (ci := 7) (v := .ref (zA v 21)) (C := RX8) (T := TX8) (N := 55) hx hb hts iX8 hown hk.1 hP 0 rfl rfl 54 (by decide) (hts _ fl_X8_87) (fun _ h9 => h9) rfl dX8_copy_162 ?_
    refine lv_bipush (v := 40) hx hb dX8_copy_165 kB_40 ?_
    refine lv_iload_n hx hb dX8_copy_167 rfl (lv_at hl 2 rfl) ?_
    refine lv_imul hx hb dX8_copy_168 ?_
    refine lv_iload_n hx hb dX8_copy_169 rfl (lv_at hl 3 rfl) ?_
    refine lv_iadd hx hb dX8_copy_170 ?_
    refine lv_iload hx hb dX8_copy_171 (lv_at hl 0 rfl) ?_
    refine lv_iadd hx hb dX8_copy_173 ?_
    obtain ⟨c22, hf⟩ := gd_e hf
    refine va_iald hx hb hk.1 hP 21 0 rfl rfl (inb_in c22) dX8_copy_174 ?_
    obtain ⟨c23, hf⟩ := gd_e hf
    refine va_iast hx hb hk.1 hP (zw_D okM hk _) hS 21 0 rfl rfl (inb_in c23) dX8_copy_175 (fun H locs hP1 _ hS => ?_)
    have hP : va_P (zD v) vwCl (pM.1 v (up g.1 21 (upd (g.1 21) (((((40 : Int32) * y3) + y4) + t0)).toNatClampNeg (g.1 21 (((((40 : Int32) * y1) + y2) + t0)).toNatClampNeg)), g.2)) H := hP1
    obtain ⟨g24, eg24, hf⟩ := lt_e hf
    rw [← eg24] at hP
    obtain ⟨x25, ex25, hf⟩ := lt_e hf
    refine lv_iinc (v := x25) (lv' := [(7, .int x25), (8, .int t0), (0, .ref (zA v 0)), (1, .int y1), (2, .int y2), (3, .int y3), (4, .int y4), (5, .int y5), (6, .int y6)]) hx hb dX8_copy_176 hl (k := 8) rfl ((congrArg (fun z => y7 + z) kI_1).trans ex25.symm) (by decide) rfl (fun ls hl => ?_)
    refine lv_goto (tgt := 121) hx hb dX8_copy_179 (by decide) ?_
    exact hh121 (y1, y2, y3, y4, y5, y6, x25, g24) hf _ _ _ hP hS (lv_sub hl [2, 3, 4, 5, 6, 7, 8, 0] rfl)
  have wL121 : ∀ (n : Nat) (x : Int32 × Int32 × Int32 × Int32 × Int32 × Int32 × Int32 × SM), lp (x_X8_copy_B121 N) n x = some res → ∀ (H : Heap) (locs : List Loc) (ls : Array Slot), va_P (zD v) vwCl (pM.1 v x.2.2.2.2.2.2.2) H → va_S (An nM v) s.heap H locs → lv_has ls 9 [(0, .ref (zA v 0)), (1, .int x.1), (2, .int x.2.1), (3, .int x.2.2.1), (4, .int x.2.2.2.1), (5, .int x.2.2.2.2.1), (6, .int x.2.2.2.2.2.1), (7, .int x.2.2.2.2.2.2.1)] → W p l e rm_X8_copy s m args below meth c H locs 0 0 Q (F0 m 121 ls []) := by
    refine lp_w (P := fun x : Int32 × Int32 × Int32 × Int32 × Int32 × Int32 × Int32 × SM => ∀ (H : Heap) (locs : List Loc) (ls : Array Slot), va_P (zD v) vwCl (pM.1 v x.2.2.2.2.2.2.2) H → va_S (An nM v) s.heap H locs → lv_has ls 9 [(0, .ref (zA v 0)), (1, .int x.1), (2, .int x.2.1), (3, .int x.2.2.1), (4, .int x.2.2.2.1), (5, .int x.2.2.2.2.1), (6, .int x.2.2.2.2.2.1), (7, .int x.2.2.2.2.2.2.1)] → W p l e rm_X8_copy s m args below meth c H locs 0 0 Q (F0 m 121 ls [])) ?_
    intro h121 hh121 x hf H locs ls hP hS hl
    unfold x_X8_copy_B121 at hf
    refine lv_iload hx hb dX8_copy_121 (lv_at hl 7 rfl) ?_
    refine lv_iload hx hb dX8_copy_123 (lv_at hl 5 rfl) ?_
    refine lv_icmp_ge (tgt := 182) hx hb dX8_copy_125 (by decide) (fun c20 => ?_) (fun c20 => ?_)
    · have hf := ite_t c20 hf
      refine lv_iload hx hb dX8_copy_182 (lv_at hl 5 rfl) ?_
      exact hret _ _ _ _ _ _ (Or.inl rfl) (Option.some.inj hf) hP hS dX8_copy_184
    · have hf := ite_f c20 hf
      refine lv_iload hx hb dX8_copy_128 (lv_at hl 6 rfl) ?_
      refine lv_if_eq (tgt := 143) hx hb dX8_copy_130 (by decide) (fun c21 => ?_) (fun c21 => ?_)
      · have hf := ite_t c21 hf
        refine lv_iload hx hb dX8_copy_143 (lv_at hl 7 rfl) ?_
        exact wb145 h121 hh121 x.1 x.2.1 x.2.2.1 x.2.2.2.1 x.2.2.2.2.1 x.2.2.2.2.2.1 x.2.2.2.2.2.2.1 x.2.2.2.2.2.2.1 x.2.2.2.2.2.2.2 hf _ _ _ hP hS (lv_sub hl [0, 1, 2, 3, 4, 5, 6, 7] rfl)
      · have hf := ite_f c21 hf
        refine lv_iload hx hb dX8_copy_133 (lv_at hl 5 rfl) ?_
        refine lv_iconst (v := 1) hx hb dX8_copy_135 kI_1 ?_
        refine lv_isub hx hb dX8_copy_136 ?_
        refine lv_iload hx hb dX8_copy_137 (lv_at hl 7 rfl) ?_
        refine lv_isub hx hb dX8_copy_139 ?_
        refine lv_goto (tgt := 145) hx hb dX8_copy_140 (by decide) ?_
        exact wb145 h121 hh121 x.1 x.2.1 x.2.2.1 x.2.2.2.1 x.2.2.2.2.1 x.2.2.2.2.2.1 x.2.2.2.2.2.2.1 ((x.2.2.2.2.1 - (1 : Int32)) - x.2.2.2.2.2.2.1) x.2.2.2.2.2.2.2 hf _ _ _ hP hS (lv_sub hl [0, 1, 2, 3, 4, 5, 6, 7] rfl)
  have wb116 : ∀ (y1 : Int32) (y2 : Int32) (y3 : Int32) (y4 : Int32) (y5 : Int32) (t0 : Int32) (g : SM) (hf : x_X8_copy_b116 N y1 y2 y3 y4 y5 t0 g = some res) (H : Heap) (locs : List Loc) (ls : Array Slot) (hP : va_P (zD v) vwCl (pM.1 v g) H) (hS : va_S (An nM v) s.heap H locs) (hl : lv_has ls 9 [(0, .ref (zA v 0)), (1, .int y1), (2, .int y2), (3, .int y3), (4, .int y4), (5, .int y5)]), W p l e rm_X8_copy s m args below meth c H locs 0 0 Q (F0 m 116 ls [.int t0]) := by
    intro y1 y2 y3 y4 y5 t0 g hf H locs ls hP hS hl
    unfold x_X8_copy_b116 at hf
    refine lv_istore (lv' := [(6, .int t0), (0, .ref (zA v 0)), (1, .int y1), (2, .int y2), (3, .int y3), (4, .int y4), (5, .int y5)]) hx hb dX8_copy_116 hl (by decide) rfl (fun ls hl => ?_)
    refine lv_iconst (v := 0) hx hb dX8_copy_118 kI_0 ?_
    refine lv_istore (lv' := [(7, .int (0 : Int32)), (6, .int t0), (0, .ref (zA v 0)), (1, .int y1), (2, .int y2), (3, .int y3), (4, .int y4), (5, .int y5)]) hx hb dX8_copy_119 hl (by decide) rfl (fun ls hl => ?_)
    exact wL121 N (y1, y2, y3, y4, y5, t0, (0 : Int32), g) hf _ _ _ hP hS (lv_sub hl [2, 3, 4, 5, 6, 7, 1, 0] rfl)
  have wb115 : ∀ (y1 : Int32) (y2 : Int32) (y3 : Int32) (y4 : Int32) (y5 : Int32) (g : SM) (hf : x_X8_copy_b115 N y1 y2 y3 y4 y5 g = some res) (H : Heap) (locs : List Loc) (ls : Array Slot) (hP : va_P (zD v) vwCl (pM.1 v g) H) (hS : va_S (An nM v) s.heap H locs) (hl : lv_has ls 9 [(0, .ref (zA v 0)), (1, .int y1), (2, .int y2), (3, .int y3), (4, .int y4), (5, .int y5)]), W p l e rm_X8_copy s m args below meth c H locs 0 0 Q (F0 m 115 ls []) := by
    intro y1 y2 y3 y4 y5 g hf H locs ls hP hS hl
    unfold x_X8_copy_b115 at hf
    refine lv_iconst (v := 0) hx hb dX8_copy_115 kI_0 ?_
    exact wb116 y1 y2 y3 y4 y5 (0 : Int32) g hf _ _ _ hP hS (lv_sub hl [0, 1, 2, 3, 4, 5] rfl)
  unfold x_X8_copy at hf
  refine lv_iload_n hx hb dX8_copy_0 rfl (lv_at hl 1 rfl) ?_
  obtain ⟨q1, eq1, hf⟩ := bd_e hf
  refine zki hS (zrS (As := [.int a1]) (rest := []) okM hx hb hml hown hts hk hP hS (t_X8_isSheet l v N a1 g _ eq1) sk_X8_isSheet ml_X8_280 rfl rfl ⟨(Nat.le_of_ble_eq_true rfl), (Nat.le_of_ble_eq_true rfl)⟩ rfl hl.1 rfl (Nat.le_of_ble_eq_true rfl) dX8_copy_1) (fun H locs hP hS => ?_)
  refine lv_if_eq (tgt := 14) hx hb dX8_copy_4 (by decide) (fun c2 => ?_) (fun c2 => ?_)
  · have hf := ite_t c2 hf
    refine lv_bipush (v := -2) hx hb dX8_copy_14 kB_m2 ?_
    exact hret _ _ _ _ _ _ (Or.inl rfl) (Option.some.inj hf) hP hS dX8_copy_16
  · have hf := ite_f c2 hf
    refine lv_iload_n hx hb dX8_copy_7 rfl (lv_at hl 3 rfl) ?_
    obtain ⟨q3, eq3, hf⟩ := bd_e hf
    refine zki hS (zrS (As := [.int a3]) (rest := []) okM hx hb hml hown hts hk hP hS (t_X8_isSheet l v N a3 q1.2 _ eq3) sk_X8_isSheet ml_X8_280 rfl rfl ⟨(Nat.le_of_ble_eq_true rfl), (Nat.le_of_ble_eq_true rfl)⟩ rfl hl.1 rfl (Nat.le_of_ble_eq_true rfl) dX8_copy_8) (fun H locs hP hS => ?_)
    refine lv_if_ne (tgt := 17) hx hb dX8_copy_11 (by decide) (fun c4 => ?_) (fun c4 => ?_)
    · have hf := ite_f c4 hf
      refine lv_aload_n hx hb dX8_copy_17 rfl (lv_at hl 0 rfl) ?_
      refine va_get (D := zD v) (ci := 7) (v := .ref (zA v 18)) (C := RX8) (T := TX8) (N := 55) hx hb hts iX8 hown hk.1 hP 0 rfl rfl 51 (by decide) (hts _ fl_X8_78) (fun _ h9 => h9) rfl dX8_copy_18 ?_
      refine lv_iload_n hx hb dX8_copy_21 rfl (lv_at hl 1 rfl) ?_
      obtain ⟨c5, hf⟩ := gd_e hf
      refine va_zald hx hb hk.1 hP 18 1 rfl rfl (inb_in c5) dX8_copy_22 ?_
      refine lv_if_eq (tgt := 35) hx hb dX8_copy_23 (by decide) (fun c6 => ?_) (fun c6 => ?_)
      · have hf := ite_t c6 hf
        refine lv_bipush (v := -11) hx hb dX8_copy_35 kB_m11 ?_
        exact hret _ _ _ _ _ _ (Or.inl rfl) (Option.some.inj hf) hP hS dX8_copy_37
      · have hf := ite_f c6 hf
        refine lv_aload_n hx hb dX8_copy_26 rfl (lv_at hl 0 rfl) ?_
        refine va_get (D := zD v) (ci := 7) (v := .ref (zA v 18)) (C := RX8) (T := TX8) (N := 55) hx hb hts iX8 hown hk.1 hP 0 rfl rfl 51 (by decide) (hts _ fl_X8_78) (fun _ h9 => h9) rfl dX8_copy_27 ?_
        refine lv_iload_n hx hb dX8_copy_30 rfl (lv_at hl 3 rfl) ?_
        obtain ⟨c7, hf⟩ := gd_e hf
        refine va_zald hx hb hk.1 hP 18 1 rfl rfl (inb_in c7) dX8_copy_31 ?_
        refine lv_if_ne (tgt := 38) hx hb dX8_copy_32 (by decide) (fun c8 => ?_) (fun c8 => ?_)
        · have hf := ite_f c8 hf
          refine lv_aload_n hx hb dX8_copy_38 rfl (lv_at hl 0 rfl) ?_
          refine va_get (D := zD v) (ci := 7) (v := .ref (zA v 19)) (C := RX8) (T := TX8) (N := 55) hx hb hts iX8 hown hk.1 hP 0 rfl rfl 52 (by decide) (hts _ fl_X8_81) (fun _ h9 => h9) rfl dX8_copy_39 ?_
          refine lv_iload_n hx hb dX8_copy_42 rfl (lv_at hl 1 rfl) ?_
          obtain ⟨c9, hf⟩ := gd_e hf
          refine va_iald hx hb hk.1 hP 19 0 rfl rfl (inb_in c9) dX8_copy_43 ?_
          refine lv_aload_n hx hb dX8_copy_44 rfl (lv_at hl 0 rfl) ?_
          refine va_get (D := zD v) (ci := 7) (v := .ref (zA v 19)) (C := RX8) (T := TX8) (N := 55) hx hb hts iX8 hown hk.1 hP 0 rfl rfl 52 (by decide) (hts _ fl_X8_81) (fun _ h9 => h9) rfl dX8_copy_45 ?_
          refine lv_iload_n hx hb dX8_copy_48 rfl (lv_at hl 3 rfl) ?_
          obtain ⟨c10, hf⟩ := gd_e hf
          refine va_iald hx hb hk.1 hP 19 0 rfl rfl (inb_in c10) dX8_copy_49 ?_
          refine lv_icmp_eq (tgt := 56) hx hb dX8_copy_50 (by decide) (fun c11 => ?_) (fun c11 => ?_)
          · have hf := ite_t c11 hf
            refine lv_iload hx hb dX8_copy_56 (lv_at hl 5 rfl) ?_
            refine lv_if_lt (tgt := 97) hx hb dX8_copy_58 (by decide) (fun c12 => ?_) (fun c12 => ?_)
            · have hf := ite_t c12 hf
              refine lv_bipush (v := -12) hx hb dX8_copy_97 kB_m12 ?_
              exact hret _ _ _ _ _ _ (Or.inl rfl) (Option.some.inj hf) hP hS dX8_copy_99
            · have hf := ite_f c12 hf
              refine lv_iload_n hx hb dX8_copy_61 rfl (lv_at hl 2 rfl) ?_
              refine lv_if_lt (tgt := 97) hx hb dX8_copy_62 (by decide) (fun c13 => ?_) (fun c13 => ?_)
              · have hf := ite_t c13 hf
                refine lv_bipush (v := -12) hx hb dX8_copy_97 kB_m12 ?_
                exact hret _ _ _ _ _ _ (Or.inl rfl) (Option.some.inj hf) hP hS dX8_copy_99
              · have hf := ite_f c13 hf
                refine lv_iload hx hb dX8_copy_65 (lv_at hl 4 rfl) ?_
                refine lv_if_lt (tgt := 97) hx hb dX8_copy_67 (by decide) (fun c14 => ?_) (fun c14 => ?_)
                · have hf := ite_t c14 hf
                  refine lv_bipush (v := -12) hx hb dX8_copy_97 kB_m12 ?_
                  exact hret _ _ _ _ _ _ (Or.inl rfl) (Option.some.inj hf) hP hS dX8_copy_99
                · have hf := ite_f c14 hf
                  refine lv_iload_n hx hb dX8_copy_70 rfl (lv_at hl 2 rfl) ?_
                  refine lv_aload_n hx hb dX8_copy_71 rfl (lv_at hl 0 rfl) ?_
                  refine va_get (D := zD v) (ci := 7) (v := .ref (zA v 20)) (C := RX8) (T := TX8) (N := 55) hx hb hts iX8 hown hk.1 hP 0 rfl rfl 53 (by decide) (hts _ fl_X8_84) (fun _ h9 => h9) rfl dX8_copy_72 ?_
                  refine lv_iload_n hx hb dX8_copy_75 rfl (lv_at hl 1 rfl) ?_
                  obtain ⟨c15, hf⟩ := gd_e hf
                  refine va_iald hx hb hk.1 hP 20 0 rfl rfl (inb_in c15) dX8_copy_76 ?_
                  refine lv_iload hx hb dX8_copy_77 (lv_at hl 5 rfl) ?_
                  refine lv_isub hx hb dX8_copy_79 ?_
                  refine lv_icmp_gt (tgt := 97) hx hb dX8_copy_80 (by decide) (fun c16 => ?_) (fun c16 => ?_)
                  · have hf := ite_t c16 hf
                    refine lv_bipush (v := -12) hx hb dX8_copy_97 kB_m12 ?_
                    exact hret _ _ _ _ _ _ (Or.inl rfl) (Option.some.inj hf) hP hS dX8_copy_99
                  · have hf := ite_f c16 hf
                    refine lv_iload hx hb dX8_copy_83 (lv_at hl 4 rfl) ?_
                    refine lv_aload_n hx hb dX8_copy_85 rfl (lv_at hl 0 rfl) ?_
                    refine va_get (D := zD v) (ci := 7) (v := .ref (zA v 20)) (C := RX8) (T := TX8) (N := 55) hx hb hts iX8 hown hk.1 hP 0 rfl rfl 53 (by decide) (hts _ fl_X8_84) (fun _ h9 => h9) rfl dX8_copy_86 ?_
                    refine lv_iload_n hx hb dX8_copy_89 rfl (lv_at hl 3 rfl) ?_
                    obtain ⟨c17, hf⟩ := gd_e hf
                    refine va_iald hx hb hk.1 hP 20 0 rfl rfl (inb_in c17) dX8_copy_90 ?_
                    refine lv_iload hx hb dX8_copy_91 (lv_at hl 5 rfl) ?_
                    refine lv_isub hx hb dX8_copy_93 ?_
                    refine lv_icmp_le (tgt := 100) hx hb dX8_copy_94 (by decide) (fun c18 => ?_) (fun c18 => ?_)
                    · have hf := ite_t c18 hf
                      refine lv_iload_n hx hb dX8_copy_100 rfl (lv_at hl 1 rfl) ?_
                      refine lv_iload_n hx hb dX8_copy_101 rfl (lv_at hl 3 rfl) ?_
                      refine lv_icmp_ne (tgt := 115) hx hb dX8_copy_102 (by decide) (fun c19 => ?_) (fun c19 => ?_)
                      · have hf := ite_f c19 hf
                        exact wb115 a1 a2 a3 a4 a5 q3.2 hf _ _ _ hP hS (lv_sub hl [0, 1, 2, 3, 4, 5] rfl)
                      · have hf := ite_t c19 hf
                        refine lv_iload_n hx hb dX8_copy_105 rfl (lv_at hl 2 rfl) ?_
                        refine lv_iload hx hb dX8_copy_106 (lv_at hl 4 rfl) ?_
                        refine lv_icmp_ge (tgt := 115) hx hb dX8_copy_108 (by decide) (fun c26 => ?_) (fun c26 => ?_)
                        · have hf := ite_t c26 hf
                          exact wb115 a1 a2 a3 a4 a5 q3.2 hf _ _ _ hP hS (lv_sub hl [0, 1, 2, 3, 4, 5] rfl)
                        · have hf := ite_f c26 hf
                          refine lv_iconst (v := 1) hx hb dX8_copy_111 kI_1 ?_
                          refine lv_goto (tgt := 116) hx hb dX8_copy_112 (by decide) ?_
                          exact wb116 a1 a2 a3 a4 a5 (1 : Int32) q3.2 hf _ _ _ hP hS (lv_sub hl [0, 1, 2, 3, 4, 5] rfl)
                    · have hf := ite_f c18 hf
                      refine lv_bipush (v := -12) hx hb dX8_copy_97 kB_m12 ?_
                      exact hret _ _ _ _ _ _ (Or.inl rfl) (Option.some.inj hf) hP hS dX8_copy_99
          · have hf := ite_f c11 hf
            refine lv_bipush (v := -13) hx hb dX8_copy_53 kB_m13 ?_
            exact hret _ _ _ _ _ _ (Or.inl rfl) (Option.some.inj hf) hP hS dX8_copy_55
        · have hf := ite_t c8 hf
          refine lv_bipush (v := -11) hx hb dX8_copy_35 kB_m11 ?_
          exact hret _ _ _ _ _ _ (Or.inl rfl) (Option.some.inj hf) hP hS dX8_copy_37
    · have hf := ite_t c4 hf
      refine lv_bipush (v := -2) hx hb dX8_copy_14 kB_m2 ?_
      exact hret _ _ _ _ _ _ (Or.inl rfl) (Option.some.inj hf) hP hS dX8_copy_16
abbrev rm_X8_town : Room := { frames := 74, cells := 0, slots := 0, locals := 4537 }
set_option maxRecDepth 100000 in
theorem t_X8_town (l : Launch) (v : Ev) (N : Nat) (a1 : Int32) (a2 : Int32) (a3 : Int32) (a4 : Int32) (g : SM) (res : Int32 × SM) (hf : x_X8_town N a1 a2 a3 a4 g = some res) : Ci l yX8_town cX8_town 8 .int rm_X8_town pM v [.ref (zA v 0), .int a1, .int a2, .int a3, .int a4] g res := by
  refine ze_i (by decide +kernel) (Nat.le_of_ble_eq_true rfl) ?_
  intro p e s m args below meth c Q ls hcx hret hP hl
  obtain ⟨hx, hb, hml, hown, hts, hk⟩ := hcx
  have hown : s.vm.findClass RX8 = some m.cls := hown
  have hS : va_S (An nM v) s.heap s.heap [] := va_S.rf
  have hl : lv_has ls 8 [(0, .ref (zA v 0)), (1, .int a1), (2, .int a2), (3, .int a3), (4, .int a4)] := hl
  have wb150 : ∀ (h75 : Int32 × Int32 × Int32 × Int32 × Int32 × SM → Option (Int32 × SM)) (hh75 : ∀ x : Int32 × Int32 × Int32 × Int32 × Int32 × SM, h75 x = some res → ∀ (H : Heap) (locs : List Loc) (ls : Array Slot), va_P (zD v) vwCl (pM.1 v x.2.2.2.2.2) H → va_S (An nM v) s.heap H locs → lv_has ls 8 [(0, .ref (zA v 0)), (1, .int x.1), (3, .int x.2.1), (4, .int x.2.2.1), (5, .int x.2.2.2.1), (6, .int x.2.2.2.2.1)] → W p l e rm_X8_town s m args below meth c H locs 0 0 Q (F0 m 75 ls [])) (y1 : Int32) (y3 : Int32) (y4 : Int32) (y6 : Int32) (t0 : Int32) (t1 : Int32) (g : SM) (hf : x_X8_town_b150 N h75 y1 y3 y4 y6 t0 t1 g = some res) (H : Heap) (locs : List Loc) (ls : Array Slot) (hP : va_P (zD v) vwCl (pM.1 v g) H) (hS : va_S (An nM v) s.heap H locs) (hl : lv_has ls 8 [(0, .ref (zA v 0)), (1, .int y1), (3, .int y3), (4, .int y4), (6, .int y6)]), W p l e rm_X8_town s m args below meth c H locs 0 0 Q (F0 m 150 ls [.int t0, .int t1]) := by
    intro h75 hh75 y1 y3 y4 y6 t0 t1 g hf H locs ls hP hS hl
    unfold x_X8_town_b150 at hf
    refine lv_iadd hx hb dX8_town_150 ?_
    obtain ⟨x20, ex20, hf⟩ := lt_e hf
    refine lv_nm ex20 ?_
    refine lv_istore (lv' := [(5, .int x20), (0, .ref (zA v 0)), (1, .int y1), (3, .int y3), (4, .int y4), (6, .int y6)]) hx hb dX8_town_151 hl (by decide) rfl (fun ls hl => ?_)
    obtain ⟨x21, ex21, hf⟩ := lt_e hf
    refine lv_iinc (v := x21) (lv' := [(6, .int x21), (5, .int x20), (0, .ref (zA v 0)), (1, .int y1), (3, .int y3), (4, .int y4)]) hx hb dX8_town_153 hl (k := 5) rfl ((congrArg (fun z => y6 + z) kI_1).trans ex21.symm) (by decide) rfl (fun ls hl => ?_)
    refine lv_goto (tgt := 75) hx hb dX8_town_156 (by decide) ?_
    exact hh75 (y1, y3, y4, x20, x21, g) hf _ _ _ hP hS (lv_sub hl [2, 3, 4, 5, 1, 0] rfl)
  have wL75 : ∀ (n : Nat) (x : Int32 × Int32 × Int32 × Int32 × Int32 × SM), lp (x_X8_town_B75 N) n x = some res → ∀ (H : Heap) (locs : List Loc) (ls : Array Slot), va_P (zD v) vwCl (pM.1 v x.2.2.2.2.2) H → va_S (An nM v) s.heap H locs → lv_has ls 8 [(0, .ref (zA v 0)), (1, .int x.1), (3, .int x.2.1), (4, .int x.2.2.1), (5, .int x.2.2.2.1), (6, .int x.2.2.2.2.1)] → W p l e rm_X8_town s m args below meth c H locs 0 0 Q (F0 m 75 ls []) := by
    refine lp_w (P := fun x : Int32 × Int32 × Int32 × Int32 × Int32 × SM => ∀ (H : Heap) (locs : List Loc) (ls : Array Slot), va_P (zD v) vwCl (pM.1 v x.2.2.2.2.2) H → va_S (An nM v) s.heap H locs → lv_has ls 8 [(0, .ref (zA v 0)), (1, .int x.1), (3, .int x.2.1), (4, .int x.2.2.1), (5, .int x.2.2.2.1), (6, .int x.2.2.2.2.1)] → W p l e rm_X8_town s m args below meth c H locs 0 0 Q (F0 m 75 ls [])) ?_
    intro h75 hh75 x hf H locs ls hP hS hl
    unfold x_X8_town_B75 at hf
    refine lv_iload hx hb dX8_town_75 (lv_at hl 5 rfl) ?_
    refine lv_iload hx hb dX8_town_77 (lv_at hl 3 rfl) ?_
    refine lv_icmp_ge (tgt := 159) hx hb dX8_town_79 (by decide) (fun c11 => ?_) (fun c11 => ?_)
    · have hf := ite_t c11 hf
      refine lv_iload hx hb dX8_town_159 (lv_at hl 4 rfl) ?_
      exact hret _ _ _ _ _ _ (Or.inl rfl) (Option.some.inj hf) hP hS dX8_town_161
    · have hf := ite_f c11 hf
      refine lv_iload_n hx hb dX8_town_82 rfl (lv_at hl 2 rfl) ?_
      refine lv_if_lt (tgt := 103) hx hb dX8_town_83 (by decide) (fun c12 => ?_) (fun c12 => ?_)
      · have hf := ite_t c12 hf
        refine lv_bipush (v := -12) hx hb dX8_town_103 kB_m12 ?_
        exact hret _ _ _ _ _ _ (Or.inl rfl) (Option.some.inj hf) hP hS dX8_town_105
      · have hf := ite_f c12 hf
        refine lv_iload_n hx hb dX8_town_86 rfl (lv_at hl 2 rfl) ?_
        refine lv_aload_n hx hb dX8_town_87 rfl (lv_at hl 0 rfl) ?_
        refine va_get (D := zD v) (ci := 7) (v := .ref (zA v 20)) (C := RX8) (T := TX8) (N := 55) hx hb hts iX8 hown hk.1 hP 0 rfl rfl 53 (by decide) (hts _ fl_X8_84) (fun _ h9 => h9) rfl dX8_town_88 ?_
        refine lv_iload_n hx hb dX8_town_91 rfl (lv_at hl 1 rfl) ?_
        obtain ⟨c13, hf⟩ := gd_e hf
        refine va_iald hx hb hk.1 hP 20 0 rfl rfl (inb_in c13) dX8_town_92 ?_
        refine lv_iconst (v := 2) hx hb dX8_town_93 kI_2 ?_
        refine lv_iload hx hb dX8_town_94 (lv_at hl 5 rfl) ?_
        refine lv_imul hx hb dX8_town_96 ?_
        refine lv_isub hx hb dX8_town_97 ?_
        refine lv_iconst (v := 2) hx hb dX8_town_98 kI_2 ?_
        refine lv_isub hx hb dX8_town_99 ?_
        refine lv_icmp_le (tgt := 106) hx hb dX8_town_100 (by decide) (fun c14 => ?_) (fun c14 => ?_)
        · have hf := ite_t c14 hf
          refine lv_bipush (v := 40) hx hb dX8_town_106 kB_40 ?_
          refine lv_iload_n hx hb dX8_town_108 rfl (lv_at hl 1 rfl) ?_
          refine lv_imul hx hb dX8_town_109 ?_
          refine lv_iload_n hx hb dX8_town_110 rfl (lv_at hl 2 rfl) ?_
          refine lv_iadd hx hb dX8_town_111 ?_
          refine lv_iconst (v := 2) hx hb dX8_town_112 kI_2 ?_
          refine lv_iload hx hb dX8_town_113 (lv_at hl 5 rfl) ?_
          refine lv_imul hx hb dX8_town_115 ?_
          refine lv_iadd hx hb dX8_town_116 ?_
          obtain ⟨x15, ex15, hf⟩ := lt_e hf
          refine lv_nm ex15 ?_
          refine lv_istore (lv' := [(7, .int x15), (0, .ref (zA v 0)), (1, .int x.1), (3, .int x.2.1), (4, .int x.2.2.1), (5, .int x.2.2.2.1), (6, .int x.2.2.2.2.1)]) hx hb dX8_town_117 hl (by decide) rfl (fun ls hl => ?_)
          refine lv_iload hx hb dX8_town_119 (lv_at hl 5 rfl) ?_
          refine lv_aload_n hx hb dX8_town_121 rfl (lv_at hl 1 rfl) ?_
          refine lv_iconst (v := 3) hx hb dX8_town_122 kI_3 ?_
          refine lv_aload_n hx hb dX8_town_123 rfl (lv_at hl 1 rfl) ?_
          refine va_get (D := zD v) (ci := 7) (v := .ref (zA v 21)) (C := RX8) (T := TX8) (N := 55) hx hb hts iX8 hown hk.1 hP 0 rfl rfl 54 (by decide) (hts _ fl_X8_87) (fun _ h9 => h9) rfl dX8_town_124 ?_
          refine lv_iload hx hb dX8_town_127 (lv_at hl 0 rfl) ?_
          obtain ⟨c16, hf⟩ := gd_e hf
          refine va_iald hx hb hk.1 hP 21 0 rfl rfl (inb_in c16) dX8_town_129 ?_
          refine lv_aload_n hx hb dX8_town_130 rfl (lv_at hl 1 rfl) ?_
          refine va_get (D := zD v) (ci := 7) (v := .ref (zA v 21)) (C := RX8) (T := TX8) (N := 55) hx hb hts iX8 hown hk.1 hP 0 rfl rfl 54 (by decide) (hts _ fl_X8_87) (fun _ h9 => h9) rfl dX8_town_131 ?_
          refine lv_iload hx hb dX8_town_134 (lv_at hl 0 rfl) ?_
          refine lv_iconst (v := 1) hx hb dX8_town_136 kI_1 ?_
          refine lv_iadd hx hb dX8_town_137 ?_
          obtain ⟨c17, hf⟩ := gd_e hf
          refine va_iald hx hb hk.1 hP 21 0 rfl rfl (inb_in c17) dX8_town_138 ?_
          obtain ⟨q18, eq18, hf⟩ := bd_e hf
          refine zki hS (zrV (As := [.int (3 : Int32), .int (x.2.2.2.2.2.1 21 (x15).toNatClampNeg), .int (x.2.2.2.2.2.1 21 ((x15 + (1 : Int32))).toNatClampNeg)]) (rest := [.int x.2.2.2.1]) okM hx hb hml hown hts hk hP hS (t_X8_set l v N (3 : Int32) (x.2.2.2.2.2.1 21 (x15).toNatClampNeg) (x.2.2.2.2.2.1 21 ((x15 + (1 : Int32))).toNatClampNeg) x.2.2.2.2.2 _ eq18) vk_X8_set ml_X8_406 rfl rfl ⟨(Nat.le_of_ble_eq_true rfl), (Nat.le_of_ble_eq_true rfl)⟩ (va_recv (q := (RX8, TX8, 55)) hk.1 hP (q0 := 0) (ci := 7) rfl rfl) rfl hl.1 rfl (Nat.le_of_ble_eq_true rfl) dX8_town_139) (fun H locs hP hS => ?_)
          refine lv_if_lt (tgt := 149) hx hb dX8_town_142 (by decide) (fun c19 => ?_) (fun c19 => ?_)
          · have hf := ite_t c19 hf
            refine lv_iconst (v := 0) hx hb dX8_town_149 kI_0 ?_
            exact wb150 h75 hh75 x.1 x.2.1 x.2.2.1 x.2.2.2.2.1 (0 : Int32) x.2.2.2.1 q18.2 hf _ _ _ hP hS (lv_sub hl [1, 2, 3, 4, 6] rfl)
          · have hf := ite_f c19 hf
            refine lv_iconst (v := 1) hx hb dX8_town_145 kI_1 ?_
            refine lv_goto (tgt := 150) hx hb dX8_town_146 (by decide) ?_
            exact wb150 h75 hh75 x.1 x.2.1 x.2.2.1 x.2.2.2.2.1 (1 : Int32) x.2.2.2.1 q18.2 hf _ _ _ hP hS (lv_sub hl [1, 2, 3, 4, 6] rfl)
        · have hf := ite_f c14 hf
          refine lv_bipush (v := -12) hx hb dX8_town_103 kB_m12 ?_
          exact hret _ _ _ _ _ _ (Or.inl rfl) (Option.some.inj hf) hP hS dX8_town_105
  have wb57 : ∀ (y1 : Int32) (y3 : Int32) (y4 : Int32) (g : SM) (hf : x_X8_town_b57 N y1 y3 y4 g = some res) (H : Heap) (locs : List Loc) (ls : Array Slot) (hP : va_P (zD v) vwCl (pM.1 v g) H) (hS : va_S (An nM v) s.heap H locs) (hl : lv_has ls 8 [(0, .ref (zA v 0)), (1, .int y1), (3, .int y3), (4, .int y4)]), W p l e rm_X8_town s m args below meth c H locs 0 0 Q (F0 m 57 ls []) := by
    intro y1 y3 y4 g hf H locs ls hP hS hl
    unfold x_X8_town_b57 at hf
    refine lv_aload_n hx hb dX8_town_57 rfl (lv_at hl 0 rfl) ?_
    refine va_get (D := zD v) (ci := 7) (v := .ref (zA v 18)) (C := RX8) (T := TX8) (N := 55) hx hb hts iX8 hown hk.1 hP 0 rfl rfl 51 (by decide) (hts _ fl_X8_78) (fun _ h9 => h9) rfl dX8_town_58 ?_
    refine lv_iload_n hx hb dX8_town_61 rfl (lv_at hl 1 rfl) ?_
    obtain ⟨c9, hf⟩ := gd_e hf
    refine va_zald hx hb hk.1 hP 18 1 rfl rfl (inb_in c9) dX8_town_62 ?_
    refine lv_if_ne (tgt := 69) hx hb dX8_town_63 (by decide) (fun c10 => ?_) (fun c10 => ?_)
    · have hf := ite_f c10 hf
      refine lv_iconst (v := 0) hx hb dX8_town_69 kI_0 ?_
      refine lv_istore (lv' := [(5, .int (0 : Int32)), (0, .ref (zA v 0)), (1, .int y1), (3, .int y3), (4, .int y4)]) hx hb dX8_town_70 hl (by decide) rfl (fun ls hl => ?_)
      refine lv_iconst (v := 0) hx hb dX8_town_72 kI_0 ?_
      refine lv_istore (lv' := [(6, .int (0 : Int32)), (5, .int (0 : Int32)), (0, .ref (zA v 0)), (1, .int y1), (3, .int y3), (4, .int y4)]) hx hb dX8_town_73 hl (by decide) rfl (fun ls hl => ?_)
      exact wL75 N (y1, y3, y4, (0 : Int32), (0 : Int32), g) hf _ _ _ hP hS (lv_sub hl [2, 3, 4, 5, 1, 0] rfl)
    · have hf := ite_t c10 hf
      refine lv_bipush (v := -11) hx hb dX8_town_66 kB_m11 ?_
      exact hret _ _ _ _ _ _ (Or.inl rfl) (Option.some.inj hf) hP hS dX8_town_68
  unfold x_X8_town at hf
  refine lv_iload_n hx hb dX8_town_0 rfl (lv_at hl 1 rfl) ?_
  obtain ⟨q1, eq1, hf⟩ := bd_e hf
  refine zki hS (zrS (As := [.int a1]) (rest := []) okM hx hb hml hown hts hk hP hS (t_X8_isSheet l v N a1 g _ eq1) sk_X8_isSheet ml_X8_280 rfl rfl ⟨(Nat.le_of_ble_eq_true rfl), (Nat.le_of_ble_eq_true rfl)⟩ rfl hl.1 rfl (Nat.le_of_ble_eq_true rfl) dX8_town_1) (fun H locs hP hS => ?_)
  refine lv_if_eq (tgt := 32) hx hb dX8_town_4 (by decide) (fun c2 => ?_) (fun c2 => ?_)
  · have hf := ite_t c2 hf
    refine lv_bipush (v := -2) hx hb dX8_town_32 kB_m2 ?_
    exact hret _ _ _ _ _ _ (Or.inl rfl) (Option.some.inj hf) hP hS dX8_town_34
  · have hf := ite_f c2 hf
    refine lv_iload_n hx hb dX8_town_7 rfl (lv_at hl 2 rfl) ?_
    refine lv_i2l hx hb dX8_town_8 rfl ?_
    refine lv_lconst (v := 0) hx hb dX8_town_9 kL_0 ?_
    refine lv_ldc2 (v := 2) hx hb hown (hts _ kc_X8_285) dX8_town_10 ?_
    obtain ⟨q3, eq3, hf⟩ := bd_e hf
    refine zki hS (zrS (As := [.long ((a2).toInt64), .long (0 : Int64), .long (2 : Int64)]) (rest := []) okM hx hb hml hown hts hk hP hS (t_X8_in l v N ((a2).toInt64) (0 : Int64) (2 : Int64) q1.2 _ eq3) sk_X8_in ml_X8_100 rfl rfl ⟨(Nat.le_of_ble_eq_true rfl), (Nat.le_of_ble_eq_true rfl)⟩ rfl hl.1 rfl (Nat.le_of_ble_eq_true rfl) dX8_town_13) (fun H locs hP hS => ?_)
    refine lv_if_eq (tgt := 32) hx hb dX8_town_16 (by decide) (fun c4 => ?_) (fun c4 => ?_)
    · have hf := ite_t c4 hf
      refine lv_bipush (v := -2) hx hb dX8_town_32 kB_m2 ?_
      exact hret _ _ _ _ _ _ (Or.inl rfl) (Option.some.inj hf) hP hS dX8_town_34
    · have hf := ite_f c4 hf
      refine lv_iload hx hb dX8_town_19 (lv_at hl 4 rfl) ?_
      refine lv_i2l hx hb dX8_town_21 rfl ?_
      refine lv_lconst (v := 0) hx hb dX8_town_22 kL_0 ?_
      refine lv_ldc2 (v := 20) hx hb hown (hts _ kc_X8_372) dX8_town_23 ?_
      obtain ⟨q5, eq5, hf⟩ := bd_e hf
      refine zki hS (zrS (As := [.long ((a4).toInt64), .long (0 : Int64), .long (20 : Int64)]) (rest := []) okM hx hb hml hown hts hk hP hS (t_X8_in l v N ((a4).toInt64) (0 : Int64) (20 : Int64) q3.2 _ eq5) sk_X8_in ml_X8_100 rfl rfl ⟨(Nat.le_of_ble_eq_true rfl), (Nat.le_of_ble_eq_true rfl)⟩ rfl hl.1 rfl (Nat.le_of_ble_eq_true rfl) dX8_town_26) (fun H locs hP hS => ?_)
      refine lv_if_ne (tgt := 35) hx hb dX8_town_29 (by decide) (fun c6 => ?_) (fun c6 => ?_)
      · have hf := ite_f c6 hf
        refine lv_aload_n hx hb dX8_town_35 rfl (lv_at hl 0 rfl) ?_
        refine va_get (D := zD v) (ci := 7) (v := .ref (zA v 18)) (C := RX8) (T := TX8) (N := 55) hx hb hts iX8 hown hk.1 hP 0 rfl rfl 51 (by decide) (hts _ fl_X8_78) (fun _ h9 => h9) rfl dX8_town_36 ?_
        refine lv_iload_n hx hb dX8_town_39 rfl (lv_at hl 1 rfl) ?_
        obtain ⟨c7, hf⟩ := gd_e hf
        refine va_zald hx hb hk.1 hP 18 1 rfl rfl (inb_in c7) dX8_town_40 ?_
        refine lv_if_eq (tgt := 57) hx hb dX8_town_41 (by decide) (fun c8 => ?_) (fun c8 => ?_)
        · have hf := ite_t c8 hf
          exact wb57 a1 a3 a4 q5.2 hf _ _ _ hP hS (lv_sub hl [0, 1, 3, 4] rfl)
        · have hf := ite_f c8 hf
          refine lv_aload_n hx hb dX8_town_44 rfl (lv_at hl 0 rfl) ?_
          refine va_get (D := zD v) (ci := 7) (v := .ref (zA v 19)) (C := RX8) (T := TX8) (N := 55) hx hb hts iX8 hown hk.1 hP 0 rfl rfl 52 (by decide) (hts _ fl_X8_81) (fun _ h9 => h9) rfl dX8_town_45 ?_
          refine lv_iload_n hx hb dX8_town_48 rfl (lv_at hl 1 rfl) ?_
          obtain ⟨c22, hf⟩ := gd_e hf
          refine va_iald hx hb hk.1 hP 19 0 rfl rfl (inb_in c22) dX8_town_49 ?_
          refine lv_iload_n hx hb dX8_town_50 rfl (lv_at hl 2 rfl) ?_
          refine lv_icmp_eq (tgt := 57) hx hb dX8_town_51 (by decide) (fun c23 => ?_) (fun c23 => ?_)
          · have hf := ite_t c23 hf
            exact wb57 a1 a3 a4 q5.2 hf _ _ _ hP hS (lv_sub hl [0, 1, 3, 4] rfl)
          · have hf := ite_f c23 hf
            refine lv_bipush (v := -13) hx hb dX8_town_54 kB_m13 ?_
            exact hret _ _ _ _ _ _ (Or.inl rfl) (Option.some.inj hf) hP hS dX8_town_56
      · have hf := ite_t c6 hf
        refine lv_bipush (v := -2) hx hb dX8_town_32 kB_m2 ?_
        exact hret _ _ _ _ _ _ (Or.inl rfl) (Option.some.inj hf) hP hS dX8_town_34
abbrev rm_X8_over : Room := { frames := 1, cells := 0, slots := 0, locals := 60 }
set_option maxRecDepth 100000 in
theorem t_X8_over (l : Launch) (v : Ev) (N : Nat) (a0 : Int32) (g : SM) (res : Int32 × SM) (hf : x_X8_over N a0 g = some res) : Ci l yX8_over cX8_over 1 .int rm_X8_over pM v [.int a0] g res := by
  refine ze_i (by decide +kernel) (Nat.le_of_ble_eq_true rfl) ?_
  intro p e s m args below meth c Q ls hcx hret hP hl
  obtain ⟨hx, hb, hml, hown, hts, hk⟩ := hcx
  have hown : s.vm.findClass RX8 = some m.cls := hown
  have hS : va_S (An nM v) s.heap s.heap [] := va_S.rf
  have hl : lv_has ls 1 [(0, .int a0)] := hl
  unfold x_X8_over at hf
  refine lv_iload_n hx hb dX8_over_0 rfl (lv_at hl 0 rfl) ?_
  refine lv_if_ne (tgt := 8) hx hb dX8_over_1 (by decide) (fun c1 => ?_) (fun c1 => ?_)
  · have hf := ite_f c1 hf
    refine lv_iload_n hx hb dX8_over_8 rfl (lv_at hl 0 rfl) ?_
    refine lv_iconst (v := 3) hx hb dX8_over_9 kI_3 ?_
    refine lv_icmp_ne (tgt := 17) hx hb dX8_over_10 (by decide) (fun c2 => ?_) (fun c2 => ?_)
    · have hf := ite_f c2 hf
      refine lv_iload_n hx hb dX8_over_17 rfl (lv_at hl 0 rfl) ?_
      refine lv_iconst (v := 4) hx hb dX8_over_18 kI_4 ?_
      refine lv_icmp_ne (tgt := 26) hx hb dX8_over_19 (by decide) (fun c3 => ?_) (fun c3 => ?_)
      · have hf := ite_f c3 hf
        refine lv_iconst (v := 0) hx hb dX8_over_26 kI_0 ?_
        exact hret _ _ _ _ _ _ (Or.inl rfl) (Option.some.inj hf) hP hS dX8_over_27
      · have hf := ite_t c3 hf
        refine lv_iconst (v := 2) hx hb dX8_over_22 kI_2 ?_
        refine lv_goto (tgt := 27) hx hb dX8_over_23 (by decide) ?_
        exact hret _ _ _ _ _ _ (Or.inl rfl) (Option.some.inj hf) hP hS dX8_over_27
    · have hf := ite_t c2 hf
      refine lv_iconst (v := 1) hx hb dX8_over_13 kI_1 ?_
      refine lv_goto (tgt := 27) hx hb dX8_over_14 (by decide) ?_
      exact hret _ _ _ _ _ _ (Or.inl rfl) (Option.some.inj hf) hP hS dX8_over_27
  · have hf := ite_t c1 hf
    refine lv_iconst (v := -1) hx hb dX8_over_4 kI_m1 ?_
    refine lv_goto (tgt := 27) hx hb dX8_over_5 (by decide) ?_
    exact hret _ _ _ _ _ _ (Or.inl rfl) (Option.some.inj hf) hP hS dX8_over_27
abbrev rm_X8_taken : Room := { frames := 3, cells := 0, slots := 0, locals := 106 }
set_option maxRecDepth 100000 in
theorem t_X8_taken (l : Launch) (v : Ev) (N : Nat) (a1 : Int32) (a2 : Int32) (g : SM) (res : Int32 × SM) (hf : x_X8_taken N a1 a2 g = some res) : Ci l yX8_taken cX8_taken 4 .int rm_X8_taken pM v [.ref (zA v 0), .int a1, .int a2] g res := by
  refine ze_i (by decide +kernel) (Nat.le_of_ble_eq_true rfl) ?_
  intro p e s m args below meth c Q ls hcx hret hP hl
  obtain ⟨hx, hb, hml, hown, hts, hk⟩ := hcx
  have hown : s.vm.findClass RX8 = some m.cls := hown
  have hS : va_S (An nM v) s.heap s.heap [] := va_S.rf
  have hl : lv_has ls 4 [(0, .ref (zA v 0)), (1, .int a1), (2, .int a2)] := hl
  have wb51 : ∀ (y1 : Int32) (y2 : Int32) (y3 : Int32) (g : SM) (hf : x_X8_taken_b51 N y1 y2 y3 g = some res) (H : Heap) (locs : List Loc) (ls : Array Slot) (hP : va_P (zD v) vwCl (pM.1 v g) H) (hS : va_S (An nM v) s.heap H locs) (hl : lv_has ls 4 [(0, .ref (zA v 0)), (1, .int y1), (2, .int y2), (3, .int y3)]), W p l e rm_X8_taken s m args below meth c H locs 0 0 Q (F0 m 51 ls []) := by
    intro y1 y2 y3 g hf H locs ls hP hS hl
    unfold x_X8_taken_b51 at hf
    refine lv_iload_n hx hb dX8_taken_51 rfl (lv_at hl 3 rfl) ?_
    refine lv_iload_n hx hb dX8_taken_52 rfl (lv_at hl 2 rfl) ?_
    refine lv_icmp_ne (tgt := 65) hx hb dX8_taken_53 (by decide) (fun c8 => ?_) (fun c8 => ?_)
    · have hf := ite_f c8 hf
      refine lv_bipush (v := -13) hx hb dX8_taken_65 kB_m13 ?_
      exact hret _ _ _ _ _ _ (Or.inl rfl) (Option.some.inj hf) hP hS dX8_taken_67
    · have hf := ite_t c8 hf
      refine lv_aload_n hx hb dX8_taken_56 rfl (lv_at hl 0 rfl) ?_
      refine va_get (D := zD v) (ci := 7) (v := .ref (zA v 6)) (C := RX8) (T := TX8) (N := 55) hx hb hts iX8 hown hk.1 hP 0 rfl rfl 12 (by decide) (hts _ fl_X8_38) (fun _ h9 => h9) rfl dX8_taken_57 ?_
      refine lv_iload_n hx hb dX8_taken_60 rfl (lv_at hl 1 rfl) ?_
      obtain ⟨c9, hf⟩ := gd_e hf
      refine va_iald hx hb hk.1 hP 6 0 rfl rfl (inb_in c9) dX8_taken_61 ?_
      refine lv_goto (tgt := 67) hx hb dX8_taken_62 (by decide) ?_
      exact hret _ _ _ _ _ _ (Or.inl rfl) (Option.some.inj hf) hP hS dX8_taken_67
  have wL33 : ∀ (n : Nat) (x : Int32 × Int32 × Int32 × SM), lp (x_X8_taken_B33 N) n x = some res → ∀ (H : Heap) (locs : List Loc) (ls : Array Slot), va_P (zD v) vwCl (pM.1 v x.2.2.2) H → va_S (An nM v) s.heap H locs → lv_has ls 4 [(0, .ref (zA v 0)), (1, .int x.1), (2, .int x.2.1), (3, .int x.2.2.1)] → W p l e rm_X8_taken s m args below meth c H locs 0 0 Q (F0 m 33 ls []) := by
    refine lp_w (P := fun x : Int32 × Int32 × Int32 × SM => ∀ (H : Heap) (locs : List Loc) (ls : Array Slot), va_P (zD v) vwCl (pM.1 v x.2.2.2) H → va_S (An nM v) s.heap H locs → lv_has ls 4 [(0, .ref (zA v 0)), (1, .int x.1), (2, .int x.2.1), (3, .int x.2.2.1)] → W p l e rm_X8_taken s m args below meth c H locs 0 0 Q (F0 m 33 ls [])) ?_
    intro h33 hh33 x hf H locs ls hP hS hl
    unfold x_X8_taken_B33 at hf
    refine lv_iload_n hx hb dX8_taken_33 rfl (lv_at hl 3 rfl) ?_
    refine lv_iconst (v := -1) hx hb dX8_taken_34 kI_m1 ?_
    refine lv_icmp_eq (tgt := 51) hx hb dX8_taken_35 (by decide) (fun c7 => ?_) (fun c7 => ?_)
    · have hf := ite_t c7 hf
      exact wb51 x.1 x.2.1 x.2.2.1 x.2.2.2 hf _ _ _ hP hS (lv_sub hl [0, 1, 2, 3] rfl)
    · have hf := ite_f c7 hf
      refine lv_iload_n hx hb dX8_taken_38 rfl (lv_at hl 3 rfl) ?_
      refine lv_iload_n hx hb dX8_taken_39 rfl (lv_at hl 2 rfl) ?_
      refine lv_icmp_eq (tgt := 51) hx hb dX8_taken_40 (by decide) (fun c10 => ?_) (fun c10 => ?_)
      · have hf := ite_t c10 hf
        exact wb51 x.1 x.2.1 x.2.2.1 x.2.2.2 hf _ _ _ hP hS (lv_sub hl [0, 1, 2, 3] rfl)
      · have hf := ite_f c10 hf
        refine lv_iload_n hx hb dX8_taken_43 rfl (lv_at hl 3 rfl) ?_
        obtain ⟨q11, eq11, hf⟩ := bd_e hf
        refine zki hS (zrS (As := [.int x.2.2.1]) (rest := []) okM hx hb hml hown hts hk hP hS (t_X8_over l v N x.2.2.1 x.2.2.2 _ eq11) sk_X8_over ml_X8_409 rfl rfl ⟨(Nat.le_of_ble_eq_true rfl), (Nat.le_of_ble_eq_true rfl)⟩ rfl hl.1 rfl (Nat.le_of_ble_eq_true rfl) dX8_taken_44) (fun H locs hP hS => ?_)
        refine lv_istore_n (lv' := [(3, .int q11.1), (0, .ref (zA v 0)), (1, .int x.1), (2, .int x.2.1)]) hx hb dX8_taken_47 rfl hl (by decide) rfl (fun ls hl => ?_)
        refine lv_goto (tgt := 33) hx hb dX8_taken_48 (by decide) ?_
        exact hh33 (x.1, x.2.1, q11.1, q11.2) hf _ _ _ hP hS (lv_sub hl [1, 2, 3, 0] rfl)
  unfold x_X8_taken at hf
  refine lv_iload_n hx hb dX8_taken_0 rfl (lv_at hl 2 rfl) ?_
  refine lv_i2l hx hb dX8_taken_1 rfl ?_
  refine lv_lconst (v := 0) hx hb dX8_taken_2 kL_0 ?_
  refine lv_ldc2 (v := 5) hx hb hown (hts _ kc_X8_127) dX8_taken_3 ?_
  obtain ⟨q1, eq1, hf⟩ := bd_e hf
  refine zki hS (zrS (As := [.long ((a2).toInt64), .long (0 : Int64), .long (5 : Int64)]) (rest := []) okM hx hb hml hown hts hk hP hS (t_X8_in l v N ((a2).toInt64) (0 : Int64) (5 : Int64) g _ eq1) sk_X8_in ml_X8_100 rfl rfl ⟨(Nat.le_of_ble_eq_true rfl), (Nat.le_of_ble_eq_true rfl)⟩ rfl hl.1 rfl (Nat.le_of_ble_eq_true rfl) dX8_taken_6) (fun H locs hP hS => ?_)
  refine lv_if_ne (tgt := 15) hx hb dX8_taken_9 (by decide) (fun c2 => ?_) (fun c2 => ?_)
  · have hf := ite_f c2 hf
    refine lv_aload_n hx hb dX8_taken_15 rfl (lv_at hl 0 rfl) ?_
    refine lv_iload_n hx hb dX8_taken_16 rfl (lv_at hl 1 rfl) ?_
    obtain ⟨q3, eq3, hf⟩ := bd_e hf
    refine zki hS (zrV (As := [.int a1]) (rest := []) okM hx hb hml hown hts hk hP hS (t_X8_isMake l v N a1 q1.2 _ eq3) vk_X8_isMake ml_X8_112 rfl rfl ⟨(Nat.le_of_ble_eq_true rfl), (Nat.le_of_ble_eq_true rfl)⟩ (va_recv (q := (RX8, TX8, 55)) hk.1 hP (q0 := 0) (ci := 7) rfl rfl) rfl hl.1 rfl (Nat.le_of_ble_eq_true rfl) dX8_taken_17) (fun H locs hP hS => ?_)
    refine lv_if_ne (tgt := 26) hx hb dX8_taken_20 (by decide) (fun c4 => ?_) (fun c4 => ?_)
    · have hf := ite_f c4 hf
      refine lv_aload_n hx hb dX8_taken_26 rfl (lv_at hl 0 rfl) ?_
      refine va_get (D := zD v) (ci := 7) (v := .ref (zA v 5)) (C := RX8) (T := TX8) (N := 55) hx hb hts iX8 hown hk.1 hP 0 rfl rfl 11 (by decide) (hts _ fl_X8_35) (fun _ h9 => h9) rfl dX8_taken_27 ?_
      refine lv_iload_n hx hb dX8_taken_30 rfl (lv_at hl 1 rfl) ?_
      obtain ⟨c5, hf⟩ := gd_e hf
      refine va_iald hx hb hk.1 hP 5 0 rfl rfl (inb_in c5) dX8_taken_31 ?_
      obtain ⟨x6, ex6, hf⟩ := lt_e hf
      refine lv_nm ex6 ?_
      refine lv_istore_n (lv' := [(3, .int x6), (0, .ref (zA v 0)), (1, .int a1), (2, .int a2)]) hx hb dX8_taken_32 rfl hl (by decide) rfl (fun ls hl => ?_)
      exact wL33 N (a1, a2, x6, q3.2) hf _ _ _ hP hS (lv_sub hl [1, 2, 3, 0] rfl)
    · have hf := ite_t c4 hf
      refine lv_bipush (v := -11) hx hb dX8_taken_23 kB_m11 ?_
      exact hret _ _ _ _ _ _ (Or.inl rfl) (Option.some.inj hf) hP hS dX8_taken_25
  · have hf := ite_t c2 hf
    refine lv_bipush (v := -2) hx hb dX8_taken_12 kB_m2 ?_
    exact hret _ _ _ _ _ _ (Or.inl rfl) (Option.some.inj hf) hP hS dX8_taken_14
