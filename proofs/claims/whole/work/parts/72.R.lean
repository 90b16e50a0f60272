theorem fl_X2_27 : Cond.fieldLink RX2 27 "HalfASize$Reader" "taped" "I" ∈ WL := wl (by decide +kernel) rfl
theorem vk_X2_isFull : VOK yX2_isFull cX2_isFull 1 (some .boolean) 0 := vok_of (by decide +kernel)
theorem ml_X2_31 : Cond.methodLink RX2 31 yX2_isFull ∈ WL := wl (by decide +kernel) rfl
theorem fl_X2_9 : Cond.fieldLink RX2 9 "HalfASize$Reader" "tape" "[I" ∈ WL := wl (by decide +kernel) rfl
theorem kB_97 : (Int8.ofInt (97)).toInt32 = (97 : Int32) := by decide +kernel
theorem kB_48 : (Int8.ofInt (48)).toInt32 = (48 : Int32) := by decide +kernel
theorem kB_57 : (Int8.ofInt (57)).toInt32 = (57 : Int32) := by decide +kernel
theorem kB_122 : (Int8.ofInt (122)).toInt32 = (122 : Int32) := by decide +kernel
theorem vk_J0_charAt_5068e : VOK yJ0_charAt_5068e cJ0_charAt_5068e 2 (some .char) 1 := vok_of (by decide +kernel)
theorem ml_X2_75 : Cond.methodLink RX2 75 yJ0_charAt_5068e ∈ WL := wl (by decide +kernel) rfl
theorem vk_X2_wordOf : VOK yX2_wordOf cX2_wordOf 7 (some .int) 2 := vok_of (by decide +kernel)
theorem ml_X2_70 : Cond.methodLink RX2 70 yX2_wordOf ∈ WL := wl (by decide +kernel) rfl
theorem vk_X2_numberOf : VOK yX2_numberOf cX2_numberOf 5 (some .int) 2 := vok_of (by decide +kernel)
theorem ml_X2_67 : Cond.methodLink RX2 67 yX2_numberOf ∈ WL := wl (by decide +kernel) rfl
theorem sk_X2_sortOf : SOK yX2_sortOf cX2_sortOf 1 (some .int) 1 := sok_of (by decide +kernel)
theorem ml_X2_52 : Cond.methodLink RX2 52 yX2_sortOf ∈ WL := wl (by decide +kernel) rfl
theorem vk_J0_indexOf_0f7a4 : VOK yJ0_indexOf_0f7a4 cJ0_indexOf_0f7a4 2 (some .int) 1 := vok_of (by decide +kernel)
theorem ml_X2_62 : Cond.methodLink RX2 62 yJ0_indexOf_0f7a4 ∈ WL := wl (by decide +kernel) rfl
theorem fl_X2_15 : Cond.fieldLink RX2 15 "HalfASize$Reader" "tokens" "[I" ∈ WL := wl (by decide +kernel) rfl
theorem kB_21 : (Int8.ofInt (21)).toInt32 = (21 : Int32) := by decide +kernel
theorem fl_X2_18 : Cond.fieldLink RX2 18 "HalfASize$Reader" "places" "[I" ∈ WL := wl (by decide +kernel) rfl
theorem vk_X2_tokenAt : VOK yX2_tokenAt cX2_tokenAt 4 (some .int) 2 := vok_of (by decide +kernel)
theorem ml_X2_56 : Cond.methodLink RX2 56 yX2_tokenAt ∈ WL := wl (by decide +kernel) rfl
theorem fl_X2_38 : Cond.fieldLink RX2 38 "HalfASize$Reader" "here" "I" ∈ WL := wl (by decide +kernel) rfl
theorem fl_X2_41 : Cond.fieldLink RX2 41 "HalfASize$Reader" "written" "I" ∈ WL := wl (by decide +kernel) rfl
theorem fl_X2_21 : Cond.fieldLink RX2 21 "HalfASize$Reader" "steps" "[I" ∈ WL := wl (by decide +kernel) rfl
theorem vk_X2_operand : VOK yX2_operand cX2_operand 3 (some .boolean) 2 := vok_of (by decide +kernel)
theorem ml_X2_83 : Cond.methodLink RX2 83 yX2_operand ∈ WL := wl (by decide +kernel) rfl
theorem sk_X2_levelOf : SOK yX2_levelOf cX2_levelOf 1 (some .int) 1 := sok_of (by decide +kernel)
theorem ml_X2_86 : Cond.methodLink RX2 86 yX2_levelOf ∈ WL := wl (by decide +kernel) rfl
theorem vk_X2_write : VOK yX2_write cX2_write 2 none 1 := vok_of (by decide +kernel)
theorem ml_X2_89 : Cond.methodLink RX2 89 yX2_write ∈ WL := wl (by decide +kernel) rfl
theorem vk_X2_prefixed : VOK yX2_prefixed cX2_prefixed 4 (some .boolean) 3 := vok_of (by decide +kernel)
theorem ml_X2_79 : Cond.methodLink RX2 79 yX2_prefixed ∈ WL := wl (by decide +kernel) rfl
theorem vk_X2_expression : VOK yX2_expression cX2_expression 6 (some .boolean) 2 := vok_of (by decide +kernel)
theorem ml_X2_48 : Cond.methodLink RX2 48 yX2_expression ∈ WL := wl (by decide +kernel) rfl
theorem vk_X2_one : VOK yX2_one cX2_one 3 (some .boolean) 1 := vok_of (by decide +kernel)
theorem ml_X2_93 : Cond.methodLink RX2 93 yX2_one ∈ WL := wl (by decide +kernel) rfl
theorem kB_13 : (Int8.ofInt (13)).toInt32 = (13 : Int32) := by decide +kernel
theorem vk_X2_pass : VOK yX2_pass cX2_pass 2 (some .boolean) 1 := vok_of (by decide +kernel)
theorem ml_X2_44 : Cond.methodLink RX2 44 yX2_pass ∈ WL := wl (by decide +kernel) rfl
theorem vk_X2_split : VOK yX2_split cX2_split 5 none 0 := vok_of (by decide +kernel)
theorem ml_X2_35 : Cond.methodLink RX2 35 yX2_split ∈ WL := wl (by decide +kernel) rfl
theorem fl_X2_24 : Cond.fieldLink RX2 24 "HalfASize$Reader" "starts" "[I" ∈ WL := wl (by decide +kernel) rfl
theorem kB_14 : (Int8.ofInt (14)).toInt32 = (14 : Int32) := by decide +kernel
abbrev rm_X2_isFull : Room := { frames := 1, cells := 0, slots := 0, locals := 60 }
set_option maxRecDepth 100000 in
theorem t_X2_isFull (l : Launch) (v : Ev) (N : Nat) (g : Sg) (res : Int32 × Sg) (hf : x_X2_isFull N g = some res) : Ci l yX2_isFull cX2_isFull 1 .boolean rm_X2_isFull pX v [.ref (zA v 3)] g res := by
  refine ze_i (by decide +kernel) (Nat.le_of_ble_eq_true rfl) ?_
  intro p e s m args below meth c Q ls hcx hret hP hl
  obtain ⟨hx, hb, hml, hown, hts, hk⟩ := hcx
  have hown : s.vm.findClass RX2 = some m.cls := hown
  have hS : va_S (An nX v) s.heap s.heap [] := va_S.rf
  have hl : lv_has ls 1 [(0, .ref (zA v 3))] := hl
  unfold x_X2_isFull at hf
  refine lv_aload_n hx hb dX2_isFull_0 rfl (lv_at hl 0 rfl) ?_
  refine va_get (D := zD v) (ci := 1) (v := .int (g 3 1)) (C := RX2) (T := TX2) (N := 8) hx hb hts iX2 hown hk.1 hP 3 rfl rfl 1 (by decide) (hts _ fl_X2_27) (fun _ h9 => h9) rfl dX2_isFull_1 ?_
  refine lv_sipush (v := 160) hx hb dX2_isFull_4 kS_160 ?_
  refine lv_icmp_lt (tgt := 14) hx hb dX2_isFull_7 (by decide) (fun c1 => ?_) (fun c1 => ?_)
  · have hf := ite_t c1 hf
    refine lv_iconst (v := 0) hx hb dX2_isFull_14 kI_0 ?_
    exact hret _ _ _ _ _ _ (Or.inr rfl) (Option.some.inj hf) hP hS dX2_isFull_15
  · have hf := ite_f c1 hf
    refine lv_iconst (v := 1) hx hb dX2_isFull_10 kI_1 ?_
    refine lv_goto (tgt := 15) hx hb dX2_isFull_11 (by decide) ?_
    exact hret _ _ _ _ _ _ (Or.inr rfl) (Option.some.inj hf) hP hS dX2_isFull_15
abbrev rm_X2_append : Room := { frames := 2, cells := 0, slots := 0, locals := 80 }
set_option maxRecDepth 100000 in
theorem t_X2_append (l : Launch) (v : Ev) (N : Nat) (a1 : Int32) (g : Sg) (res : Int32 × Sg) (hf : x_X2_append N a1 g = some res) : Ci l yX2_append cX2_append 2 .int rm_X2_append pX v [.ref (zA v 3), .int a1] g res := by
  refine ze_i (by decide +kernel) (Nat.le_of_ble_eq_true rfl) ?_
  intro p e s m args below meth c Q ls hcx hret hP hl
  obtain ⟨hx, hb, hml, hown, hts, hk⟩ := hcx
  have hown : s.vm.findClass RX2 = some m.cls := hown
  have hS : va_S (An nX v) s.heap s.heap [] := va_S.rf
  have hl : lv_has ls 2 [(0, .ref (zA v 3)), (1, .int a1)] := hl
  have wb27 : ∀ (g : Sg) (hf : x_X2_append_b27 N g = some res) (H : Heap) (locs : List Loc) (ls : Array Slot) (hP : va_P (zD v) vwCl (pX.1 v g) H) (hS : va_S (An nX v) s.heap H locs) (hl : lv_has ls 2 [(0, .ref (zA v 3))]), W p l e rm_X2_append s m args below meth c H locs 0 0 Q (F0 m 27 ls []) := by
    intro g hf H locs ls hP hS hl
    unfold x_X2_append_b27 at hf
    refine lv_aload_n hx hb dX2_append_27 rfl (lv_at hl 0 rfl) ?_
    refine va_get (D := zD v) (ci := 1) (v := .int (g 3 1)) (C := RX2) (T := TX2) (N := 8) hx hb hts iX2 hown hk.1 hP 3 rfl rfl 1 (by decide) (hts _ fl_X2_27) (fun _ h9 => h9) rfl dX2_append_28 ?_
    exact hret _ _ _ _ _ _ (Or.inl rfl) (Option.some.inj hf) hP hS dX2_append_31
  unfold x_X2_append at hf
  refine lv_aload_n hx hb dX2_append_0 rfl (lv_at hl 0 rfl) ?_
  obtain ⟨q1, eq1, hf⟩ := bd_e hf
  refine zki hS (zrV (As := []) (rest := []) okX hx hb hml hown hts hk hP hS (t_X2_isFull l v N g _ eq1) vk_X2_isFull ml_X2_31 rfl rfl ⟨(Nat.le_of_ble_eq_true rfl), (Nat.le_of_ble_eq_true rfl)⟩ (va_recv (q := (RX2, TX2, 8)) hk.1 hP (q0 := 3) (ci := 1) rfl rfl) rfl hl.1 rfl (Nat.le_of_ble_eq_true rfl) dX2_append_1) (fun H locs hP hS => ?_)
  refine lv_if_ne (tgt := 27) hx hb dX2_append_4 (by decide) (fun c2 => ?_) (fun c2 => ?_)
  · have hf := ite_f c2 hf
    exact wb27 q1.2 hf _ _ _ hP hS (lv_sub hl [0] rfl)
  · have hf := ite_t c2 hf
    refine lv_aload_n hx hb dX2_append_7 rfl (lv_at hl 0 rfl) ?_
    refine va_get (D := zD v) (ci := 1) (v := .ref (zA v 21)) (C := RX2) (T := TX2) (N := 8) hx hb hts iX2 hown hk.1 hP 3 rfl rfl 0 (by decide) (hts _ fl_X2_9) (fun _ h9 => h9) rfl dX2_append_8 ?_
    refine lv_aload_n hx hb dX2_append_11 rfl (lv_at hl 0 rfl) ?_
    refine va_get (D := zD v) (ci := 1) (v := .int (q1.2 3 1)) (C := RX2) (T := TX2) (N := 8) hx hb hts iX2 hown hk.1 hP 3 rfl rfl 1 (by decide) (hts _ fl_X2_27) (fun _ h9 => h9) rfl dX2_append_12 ?_
    refine lv_iload_n hx hb dX2_append_15 rfl (lv_at hl 1 rfl) ?_
    obtain ⟨c3, hf⟩ := gd_e hf
    refine va_iast hx hb hk.1 hP (zw_D okX hk _) hS 21 0 rfl rfl (inb_in c3) dX2_append_16 (fun H locs hP1 _ hS => ?_)
    have hP : va_P (zD v) vwCl (pX.1 v (up q1.2 21 (upd (q1.2 21) ((q1.2 3 1)).toNatClampNeg a1))) H := hP1
    obtain ⟨g4, eg4, hf⟩ := lt_e hf
    rw [← eg4] at hP
    refine lv_aload_n hx hb dX2_append_17 rfl (lv_at hl 0 rfl) ?_
    refine lv_dup hx hb dX2_append_18 rfl ?_
    refine va_get (D := zD v) (ci := 1) (v := .int (g4 3 1)) (C := RX2) (T := TX2) (N := 8) hx hb hts iX2 hown hk.1 hP 3 rfl rfl 1 (by decide) (hts _ fl_X2_27) (fun _ h9 => h9) rfl dX2_append_19 ?_
    refine lv_iconst (v := 1) hx hb dX2_append_22 kI_1 ?_
    refine lv_iadd hx hb dX2_append_23 ?_
    refine va_put (D := zD v) (ci := 1) (v := .int ((g4 3 1) + (1 : Int32))) (ty := .int) (C := RX2) (T := TX2) (N := 8) hx hb hts iX2 tyX2 tyX2_ok nmX2 hown hk.1 hP (zw_D okX hk _) hS 3 rfl rfl 1 (by decide) (hts _ fl_X2_27) (fun _ h9 => h9) rfl pd_I rfl rfl (Nat.le_of_ble_eq_true rfl) dX2_append_24 (fun H locs hP1 _ hS => ?_)
    have hP : va_P (zD v) vwCl (pX.1 v (up g4 3 (upd (g4 3) 1 ((g4 3 1) + (1 : Int32))))) H := hP1
    obtain ⟨g5, eg5, hf⟩ := lt_e hf
    rw [← eg5] at hP
    exact wb27 g5 hf _ _ _ hP hS (lv_sub hl [0] rfl)
abbrev rm_X2_sortOf : Room := { frames := 1, cells := 0, slots := 0, locals := 60 }
set_option maxRecDepth 100000 in
theorem t_X2_sortOf (l : Launch) (v : Ev) (N : Nat) (a0 : Int32) (g : Sg) (res : Int32 × Sg) (hf : x_X2_sortOf N a0 g = some res) : Ci l yX2_sortOf cX2_sortOf 1 .int rm_X2_sortOf pX v [.int a0] g res := by
  refine ze_i (by decide +kernel) (Nat.le_of_ble_eq_true rfl) ?_
  intro p e s m args below meth c Q ls hcx hret hP hl
  obtain ⟨hx, hb, hml, hown, hts, hk⟩ := hcx
  have hown : s.vm.findClass RX2 = some m.cls := hown
  have hS : va_S (An nX v) s.heap s.heap [] := va_S.rf
  have hl : lv_has ls 1 [(0, .int a0)] := hl
  have wb28 : ∀ (y0 : Int32) (g : Sg) (hf : x_X2_sortOf_b28 N y0 g = some res) (H : Heap) (locs : List Loc) (ls : Array Slot) (hP : va_P (zD v) vwCl (pX.1 v g) H) (hS : va_S (An nX v) s.heap H locs) (hl : lv_has ls 1 [(0, .int y0)]), W p l e rm_X2_sortOf s m args below meth c H locs 0 0 Q (F0 m 28 ls []) := by
    intro y0 g hf H locs ls hP hS hl
    unfold x_X2_sortOf_b28 at hf
    refine lv_iload_n hx hb dX2_sortOf_28 rfl (lv_at hl 0 rfl) ?_
    refine lv_bipush (v := 32) hx hb dX2_sortOf_29 kB_32 ?_
    refine lv_icmp_eq (tgt := 40) hx hb dX2_sortOf_31 (by decide) (fun c3 => ?_) (fun c3 => ?_)
    · have hf := ite_t c3 hf
      refine lv_iconst (v := 2) hx hb dX2_sortOf_40 kI_2 ?_
      refine lv_goto (tgt := 45) hx hb dX2_sortOf_41 (by decide) ?_
      exact hret _ _ _ _ _ _ (Or.inl rfl) (Option.some.inj hf) hP hS dX2_sortOf_45
    · have hf := ite_f c3 hf
      refine lv_iload_n hx hb dX2_sortOf_34 rfl (lv_at hl 0 rfl) ?_
      refine lv_bipush (v := 10) hx hb dX2_sortOf_35 kB_10 ?_
      refine lv_icmp_ne (tgt := 44) hx hb dX2_sortOf_37 (by decide) (fun c4 => ?_) (fun c4 => ?_)
      · have hf := ite_f c4 hf
        refine lv_iconst (v := 3) hx hb dX2_sortOf_44 kI_3 ?_
        exact hret _ _ _ _ _ _ (Or.inl rfl) (Option.some.inj hf) hP hS dX2_sortOf_45
      · have hf := ite_t c4 hf
        refine lv_iconst (v := 2) hx hb dX2_sortOf_40 kI_2 ?_
        refine lv_goto (tgt := 45) hx hb dX2_sortOf_41 (by decide) ?_
        exact hret _ _ _ _ _ _ (Or.inl rfl) (Option.some.inj hf) hP hS dX2_sortOf_45
  have wb14 : ∀ (y0 : Int32) (g : Sg) (hf : x_X2_sortOf_b14 N y0 g = some res) (H : Heap) (locs : List Loc) (ls : Array Slot) (hP : va_P (zD v) vwCl (pX.1 v g) H) (hS : va_S (An nX v) s.heap H locs) (hl : lv_has ls 1 [(0, .int y0)]), W p l e rm_X2_sortOf s m args below meth c H locs 0 0 Q (F0 m 14 ls []) := by
    intro y0 g hf H locs ls hP hS hl
    unfold x_X2_sortOf_b14 at hf
    refine lv_iload_n hx hb dX2_sortOf_14 rfl (lv_at hl 0 rfl) ?_
    refine lv_bipush (v := 48) hx hb dX2_sortOf_15 kB_48 ?_
    refine lv_icmp_lt (tgt := 28) hx hb dX2_sortOf_17 (by decide) (fun c2 => ?_) (fun c2 => ?_)
    · have hf := ite_t c2 hf
      exact wb28 y0 g hf _ _ _ hP hS (lv_sub hl [0] rfl)
    · have hf := ite_f c2 hf
      refine lv_iload_n hx hb dX2_sortOf_20 rfl (lv_at hl 0 rfl) ?_
      refine lv_bipush (v := 57) hx hb dX2_sortOf_21 kB_57 ?_
      refine lv_icmp_gt (tgt := 28) hx hb dX2_sortOf_23 (by decide) (fun c5 => ?_) (fun c5 => ?_)
      · have hf := ite_t c5 hf
        exact wb28 y0 g hf _ _ _ hP hS (lv_sub hl [0] rfl)
      · have hf := ite_f c5 hf
        refine lv_iconst (v := 1) hx hb dX2_sortOf_26 kI_1 ?_
        exact hret _ _ _ _ _ _ (Or.inl rfl) (Option.some.inj hf) hP hS dX2_sortOf_27
  unfold x_X2_sortOf at hf
  refine lv_iload_n hx hb dX2_sortOf_0 rfl (lv_at hl 0 rfl) ?_
  refine lv_bipush (v := 97) hx hb dX2_sortOf_1 kB_97 ?_
  refine lv_icmp_lt (tgt := 14) hx hb dX2_sortOf_3 (by decide) (fun c1 => ?_) (fun c1 => ?_)
  · have hf := ite_t c1 hf
    exact wb14 a0 g hf _ _ _ hP hS (lv_sub hl [0] rfl)
  · have hf := ite_f c1 hf
    refine lv_iload_n hx hb dX2_sortOf_6 rfl (lv_at hl 0 rfl) ?_
    refine lv_bipush (v := 122) hx hb dX2_sortOf_7 kB_122 ?_
    refine lv_icmp_gt (tgt := 14) hx hb dX2_sortOf_9 (by decide) (fun c6 => ?_) (fun c6 => ?_)
    · have hf := ite_t c6 hf
      exact wb14 a0 g hf _ _ _ hP hS (lv_sub hl [0] rfl)
    · have hf := ite_f c6 hf
      refine lv_iconst (v := 0) hx hb dX2_sortOf_12 kI_0 ?_
      exact hret _ _ _ _ _ _ (Or.inl rfl) (Option.some.inj hf) hP hS dX2_sortOf_13
abbrev rm_X2_numberOf : Room := { frames := 1, cells := 0, slots := 0, locals := 60 }
set_option maxRecDepth 100000 in
theorem t_X2_numberOf (l : Launch) (v : Ev) (N : Nat) (a1 : Int32) (a2 : Int32) (g : Sg) (res : Int32 × Sg) (hf : x_X2_numberOf N a1 a2 g = some res) : Ci l yX2_numberOf cX2_numberOf 5 .int rm_X2_numberOf pX v [.ref (zA v 3), .int a1, .int a2] g res := by
  refine ze_i (by decide +kernel) (Nat.le_of_ble_eq_true rfl) ?_
  intro p e s m args below meth c Q ls hcx hret hP hl
  obtain ⟨hx, hb, hml, hown, hts, hk⟩ := hcx
  have hown : s.vm.findClass RX2 = some m.cls := hown
  have hS : va_S (An nX v) s.heap s.heap [] := va_S.rf
  have hl : lv_has ls 5 [(0, .ref (zA v 3)), (1, .int a1), (2, .int a2)] := hl
  have wL15 : ∀ (n : Nat) (x : Int32 × Int32 × Int32 × Sg), lp (x_X2_numberOf_B15 N) n x = some res → ∀ (H : Heap) (locs : List Loc) (ls : Array Slot), va_P (zD v) vwCl (pX.1 v x.2.2.2) H → va_S (An nX v) s.heap H locs → lv_has ls 5 [(0, .ref (zA v 3)), (2, .int x.1), (3, .int x.2.1), (4, .int x.2.2.1)] → W p l e rm_X2_numberOf s m args below meth c H locs 0 0 Q (F0 m 15 ls []) := by
    refine lp_w (P := fun x : Int32 × Int32 × Int32 × Sg => ∀ (H : Heap) (locs : List Loc) (ls : Array Slot), va_P (zD v) vwCl (pX.1 v x.2.2.2) H → va_S (An nX v) s.heap H locs → lv_has ls 5 [(0, .ref (zA v 3)), (2, .int x.1), (3, .int x.2.1), (4, .int x.2.2.1)] → W p l e rm_X2_numberOf s m args below meth c H locs 0 0 Q (F0 m 15 ls [])) ?_
    intro h15 hh15 x hf H locs ls hP hS hl
    unfold x_X2_numberOf_B15 at hf
    refine lv_iload hx hb dX2_numberOf_15 (lv_at hl 3 rfl) ?_
    refine lv_iload_n hx hb dX2_numberOf_17 rfl (lv_at hl 1 rfl) ?_
    refine lv_icmp_ge (tgt := 43) hx hb dX2_numberOf_18 (by decide) (fun c2 => ?_) (fun c2 => ?_)
    · have hf := ite_t c2 hf
      refine lv_bipush (v := 100) hx hb dX2_numberOf_43 kB_100 ?_
      refine lv_iload_n hx hb dX2_numberOf_45 rfl (lv_at hl 2 rfl) ?_
      refine lv_iadd hx hb dX2_numberOf_46 ?_
      exact hret _ _ _ _ _ _ (Or.inl rfl) (Option.some.inj hf) hP hS dX2_numberOf_47
    · have hf := ite_f c2 hf
      refine lv_bipush (v := 10) hx hb dX2_numberOf_21 kB_10 ?_
      refine lv_iload_n hx hb dX2_numberOf_23 rfl (lv_at hl 2 rfl) ?_
      refine lv_imul hx hb dX2_numberOf_24 ?_
      refine lv_aload_n hx hb dX2_numberOf_25 rfl (lv_at hl 0 rfl) ?_
      refine va_get (D := zD v) (ci := 1) (v := .ref (zA v 21)) (C := RX2) (T := TX2) (N := 8) hx hb hts iX2 hown hk.1 hP 3 rfl rfl 0 (by decide) (hts _ fl_X2_9) (fun _ h9 => h9) rfl dX2_numberOf_26 ?_
      refine lv_iload hx hb dX2_numberOf_29 (lv_at hl 3 rfl) ?_
      obtain ⟨c3, hf⟩ := gd_e hf
      refine va_iald hx hb hk.1 hP 21 0 rfl rfl (inb_in c3) dX2_numberOf_31 ?_
      refine lv_iadd hx hb dX2_numberOf_32 ?_
      refine lv_bipush (v := 48) hx hb dX2_numberOf_33 kB_48 ?_
      refine lv_isub hx hb dX2_numberOf_35 ?_
      obtain ⟨x4, ex4, hf⟩ := lt_e hf
      refine lv_nm ex4 ?_
      refine lv_istore_n (lv' := [(3, .int x4), (0, .ref (zA v 3)), (2, .int x.1), (4, .int x.2.2.1)]) hx hb dX2_numberOf_36 rfl hl (by decide) rfl (fun ls hl => ?_)
      obtain ⟨x5, ex5, hf⟩ := lt_e hf
      refine lv_iinc (v := x5) (lv' := [(4, .int x5), (3, .int x4), (0, .ref (zA v 3)), (2, .int x.1)]) hx hb dX2_numberOf_37 hl (k := 3) rfl ((congrArg (fun z => x.2.2.1 + z) kI_1).trans ex5.symm) (by decide) rfl (fun ls hl => ?_)
      refine lv_goto (tgt := 15) hx hb dX2_numberOf_40 (by decide) ?_
      exact hh15 (x.1, x4, x5, x.2.2.2) hf _ _ _ hP hS (lv_sub hl [2, 3, 1, 0] rfl)
  unfold x_X2_numberOf at hf
  refine lv_iload_n hx hb dX2_numberOf_0 rfl (lv_at hl 2 rfl) ?_
  refine lv_iload_n hx hb dX2_numberOf_1 rfl (lv_at hl 1 rfl) ?_
  refine lv_isub hx hb dX2_numberOf_2 ?_
  refine lv_iconst (v := 4) hx hb dX2_numberOf_3 kI_4 ?_
  refine lv_icmp_le (tgt := 10) hx hb dX2_numberOf_4 (by decide) (fun c1 => ?_) (fun c1 => ?_)
  · have hf := ite_t c1 hf
    refine lv_iconst (v := 0) hx hb dX2_numberOf_10 kI_0 ?_
    refine lv_istore_n (lv' := [(3, .int (0 : Int32)), (0, .ref (zA v 3)), (1, .int a1), (2, .int a2)]) hx hb dX2_numberOf_11 rfl hl (by decide) rfl (fun ls hl => ?_)
    refine lv_iload_n hx hb dX2_numberOf_12 rfl (lv_at hl 2 rfl) ?_
    refine lv_istore (lv' := [(4, .int a1), (3, .int (0 : Int32)), (0, .ref (zA v 3)), (1, .int a1), (2, .int a2)]) hx hb dX2_numberOf_13 hl (by decide) rfl (fun ls hl => ?_)
    exact wL15 N (a2, (0 : Int32), a1, g) hf _ _ _ hP hS (lv_sub hl [2, 4, 1, 0] rfl)
  · have hf := ite_f c1 hf
    refine lv_bipush (v := 20) hx hb dX2_numberOf_7 kB_20 ?_
    exact hret _ _ _ _ _ _ (Or.inl rfl) (Option.some.inj hf) hP hS dX2_numberOf_9
abbrev rm_X2_wordOf : Room := { frames := 5, cells := 0, slots := 0, locals := 145 }
set_option maxRecDepth 100000 in
theorem t_X2_wordOf (l : Launch) (v : Ev) (N : Nat) (a1 : Int32) (a2 : Int32) (g : Sg) (res : Int32 × Sg) (hf : x_X2_wordOf N a1 a2 g = some res) : Ci l yX2_wordOf cX2_wordOf 7 .int rm_X2_wordOf pX v [.ref (zA v 3), .int a1, .int a2] g res := by
  refine ze_i (by decide +kernel) (Nat.le_of_ble_eq_true rfl) ?_
  intro p e s m args below meth c Q ls hcx hret hP hl
  obtain ⟨hx, hb, hml, hown, hts, hk⟩ := hcx
  have hown : s.vm.findClass RX2 = some m.cls := hown
  have hS : va_S (An nX v) s.heap s.heap [] := va_S.rf
  have hl : lv_has ls 7 [(0, .ref (zA v 3)), (1, .int a1), (2, .int a2)] := hl
  have wb80 : ∀ (h2 : Int32 × Int32 × Int32 × Sg → Option (Int32 × Sg)) (hh2 : ∀ x : Int32 × Int32 × Int32 × Sg, h2 x = some res → ∀ (H : Heap) (locs : List Loc) (ls : Array Slot), va_P (zD v) vwCl (pX.1 v x.2.2.2) H → va_S (An nX v) s.heap H locs → lv_has ls 7 [(0, .ref (zA v 3)), (1, .int x.1), (2, .int x.2.1), (3, .int x.2.2.1)] → W p l e rm_X2_wordOf s m args below meth c H locs 0 0 Q (F0 m 2 ls [])) (h22 : Int32 × Int32 × Int32 × Int32 × Int32 × Sg → Option (Int32 × Sg)) (hh22 : ∀ x : Int32 × Int32 × Int32 × Int32 × Int32 × Sg, h22 x = some res → ∀ (H : Heap) (locs : List Loc) (ls : Array Slot), va_P (zD v) vwCl (pX.1 v x.2.2.2.2.2) H → va_S (An nX v) s.heap H locs → lv_has ls 7 [(0, .ref (zA v 3)), (1, .int x.1), (2, .int x.2.1), (3, .int x.2.2.1), (4, .int x.2.2.2.1), (5, .int x.2.2.2.2.1)] → W p l e rm_X2_wordOf s m args below meth c H locs 0 0 Q (F0 m 22 ls [])) (y1 : Int32) (y2 : Int32) (y3 : Int32) (y5 : Int32) (t0 : Int32) (g : Sg) (hf : x_X2_wordOf_b80 N h2 h22 y1 y2 y3 y5 t0 g = some res) (H : Heap) (locs : List Loc) (ls : Array Slot) (hP : va_P (zD v) vwCl (pX.1 v g) H) (hS : va_S (An nX v) s.heap H locs) (hl : lv_has ls 7 [(0, .ref (zA v 3)), (1, .int y1), (2, .int y2), (3, .int y3), (5, .int y5)]), W p l e rm_X2_wordOf s m args below meth c H locs 0 0 Q (F0 m 80 ls [.int t0]) := by
    intro h2 hh2 h22 hh22 y1 y2 y3 y5 t0 g hf H locs ls hP hS hl
    unfold x_X2_wordOf_b80 at hf
    refine lv_istore (lv' := [(4, .int t0), (0, .ref (zA v 3)), (1, .int y1), (2, .int y2), (3, .int y3), (5, .int y5)]) hx hb dX2_wordOf_80 hl (by decide) rfl (fun ls hl => ?_)
    obtain ⟨x8, ex8, hf⟩ := lt_e hf
    refine lv_iinc (v := x8) (lv' := [(5, .int x8), (4, .int t0), (0, .ref (zA v 3)), (1, .int y1), (2, .int y2), (3, .int y3)]) hx hb dX2_wordOf_82 hl (k := 5) rfl ((congrArg (fun z => y5 + z) kI_1).trans ex8.symm) (by decide) rfl (fun ls hl => ?_)
    refine lv_goto (tgt := 22) hx hb dX2_wordOf_85 (by decide) ?_
    exact hh22 (y1, y2, y3, t0, x8, g) hf _ _ _ hP hS (lv_sub hl [2, 3, 4, 5, 1, 0] rfl)
  have wb79 : ∀ (h2 : Int32 × Int32 × Int32 × Sg → Option (Int32 × Sg)) (hh2 : ∀ x : Int32 × Int32 × Int32 × Sg, h2 x = some res → ∀ (H : Heap) (locs : List Loc) (ls : Array Slot), va_P (zD v) vwCl (pX.1 v x.2.2.2) H → va_S (An nX v) s.heap H locs → lv_has ls 7 [(0, .ref (zA v 3)), (1, .int x.1), (2, .int x.2.1), (3, .int x.2.2.1)] → W p l e rm_X2_wordOf s m args below meth c H locs 0 0 Q (F0 m 2 ls [])) (h22 : Int32 × Int32 × Int32 × Int32 × Int32 × Sg → Option (Int32 × Sg)) (hh22 : ∀ x : Int32 × Int32 × Int32 × Int32 × Int32 × Sg, h22 x = some res → ∀ (H : Heap) (locs : List Loc) (ls : Array Slot), va_P (zD v) vwCl (pX.1 v x.2.2.2.2.2) H → va_S (An nX v) s.heap H locs → lv_has ls 7 [(0, .ref (zA v 3)), (1, .int x.1), (2, .int x.2.1), (3, .int x.2.2.1), (4, .int x.2.2.2.1), (5, .int x.2.2.2.2.1)] → W p l e rm_X2_wordOf s m args below meth c H locs 0 0 Q (F0 m 22 ls [])) (y1 : Int32) (y2 : Int32) (y3 : Int32) (y5 : Int32) (g : Sg) (hf : x_X2_wordOf_b79 N h2 h22 y1 y2 y3 y5 g = some res) (H : Heap) (locs : List Loc) (ls : Array Slot) (hP : va_P (zD v) vwCl (pX.1 v g) H) (hS : va_S (An nX v) s.heap H locs) (hl : lv_has ls 7 [(0, .ref (zA v 3)), (1, .int y1), (2, .int y2), (3, .int y3), (5, .int y5)]), W p l e rm_X2_wordOf s m args below meth c H locs 0 0 Q (F0 m 79 ls []) := by
    intro h2 hh2 h22 hh22 y1 y2 y3 y5 g hf H locs ls hP hS hl
    unfold x_X2_wordOf_b79 at hf
    refine lv_iconst (v := 0) hx hb dX2_wordOf_79 kI_0 ?_
    exact wb80 h2 hh2 h22 hh22 y1 y2 y3 y5 (0 : Int32) g hf _ _ _ hP hS (lv_sub hl [0, 1, 2, 3, 4] rfl)
  have wb51 : ∀ (h2 : Int32 × Int32 × Int32 × Sg → Option (Int32 × Sg)) (hh2 : ∀ x : Int32 × Int32 × Int32 × Sg, h2 x = some res → ∀ (H : Heap) (locs : List Loc) (ls : Array Slot), va_P (zD v) vwCl (pX.1 v x.2.2.2) H → va_S (An nX v) s.heap H locs → lv_has ls 7 [(0, .ref (zA v 3)), (1, .int x.1), (2, .int x.2.1), (3, .int x.2.2.1)] → W p l e rm_X2_wordOf s m args below meth c H locs 0 0 Q (F0 m 2 ls [])) (h22 : Int32 × Int32 × Int32 × Int32 × Int32 × Sg → Option (Int32 × Sg)) (hh22 : ∀ x : Int32 × Int32 × Int32 × Int32 × Int32 × Sg, h22 x = some res → ∀ (H : Heap) (locs : List Loc) (ls : Array Slot), va_P (zD v) vwCl (pX.1 v x.2.2.2.2.2) H → va_S (An nX v) s.heap H locs → lv_has ls 7 [(0, .ref (zA v 3)), (1, .int x.1), (2, .int x.2.1), (3, .int x.2.2.1), (4, .int x.2.2.2.1), (5, .int x.2.2.2.2.1)] → W p l e rm_X2_wordOf s m args below meth c H locs 0 0 Q (F0 m 22 ls [])) (y1 : Int32) (y2 : Int32) (y3 : Int32) (y4 : Int32) (y5 : Int32) (t0 : Int32) (g : Sg) (hf : x_X2_wordOf_b51 N h2 h22 y1 y2 y3 y4 y5 t0 g = some res) (H : Heap) (locs : List Loc) (ls : Array Slot) (hP : va_P (zD v) vwCl (pX.1 v g) H) (hS : va_S (An nX v) s.heap H locs) (hl : lv_has ls 7 [(0, .ref (zA v 3)), (1, .int y1), (2, .int y2), (3, .int y3), (4, .int y4), (5, .int y5)]), W p l e rm_X2_wordOf s m args below meth c H locs 0 0 Q (F0 m 51 ls [.int t0]) := by
    intro h2 hh2 h22 hh22 y1 y2 y3 y4 y5 t0 g hf H locs ls hP hS hl
    unfold x_X2_wordOf_b51 at hf
    refine lv_istore (lv' := [(6, .int t0), (0, .ref (zA v 3)), (1, .int y1), (2, .int y2), (3, .int y3), (4, .int y4), (5, .int y5)]) hx hb dX2_wordOf_51 hl (by decide) rfl (fun ls hl => ?_)
    refine lv_iload hx hb dX2_wordOf_53 (lv_at hl 5 rfl) ?_
    refine lv_if_eq (tgt := 79) hx hb dX2_wordOf_55 (by decide) (fun c7 => ?_) (fun c7 => ?_)
    · have hf := ite_t c7 hf
      exact wb79 h2 hh2 h22 hh22 y1 y2 y3 y5 g hf _ _ _ hP hS (lv_sub hl [1, 2, 3, 4, 6] rfl)
    · have hf := ite_f c7 hf
      refine lv_iload hx hb dX2_wordOf_58 (lv_at hl 0 rfl) ?_
      refine va_ldcS hx hb hown (xs_s2 hk) dX2_wordOf_60 ?_
      refine lv_iload_n hx hb dX2_wordOf_62 rfl (lv_at hl 4 rfl) ?_
      refine lv_bipush (v := 6) hx hb dX2_wordOf_63 kB_6 ?_
      refine lv_imul hx hb dX2_wordOf_65 ?_
      refine lv_iload hx hb dX2_wordOf_66 (lv_at hl 6 rfl) ?_
      refine lv_iadd hx hb dX2_wordOf_68 ?_
      obtain ⟨q9, eq9, hf⟩ := bd_e hf
      refine zki hS (zrV (As := [.int ((y3 * (6 : Int32)) + y5)]) (rest := [.int t0]) okX hx hb hml hown hts hk hP hS (t_J0_charAt_5068e_2 l v N ((y3 * (6 : Int32)) + y5) g _ eq9) vk_J0_charAt_5068e ml_X2_75 rfl rfl ⟨(Nat.le_of_ble_eq_true rfl), (Nat.le_of_ble_eq_true rfl)⟩ (vk_recv (i := 2) (xs_str hk) (by decide) hS) rfl hl.1 rfl (Nat.le_of_ble_eq_true rfl) dX2_wordOf_69) (fun H locs hP hS => ?_)
      refine lv_icmp_ne (tgt := 79) hx hb dX2_wordOf_72 (by decide) (fun c10 => ?_) (fun c10 => ?_)
      · have hf := ite_f c10 hf
        exact wb79 h2 hh2 h22 hh22 y1 y2 y3 y5 q9.2 hf _ _ _ hP hS (lv_sub hl [1, 2, 3, 4, 6] rfl)
      · have hf := ite_t c10 hf
        refine lv_iconst (v := 1) hx hb dX2_wordOf_75 kI_1 ?_
        refine lv_goto (tgt := 80) hx hb dX2_wordOf_76 (by decide) ?_
        exact wb80 h2 hh2 h22 hh22 y1 y2 y3 y5 (1 : Int32) q9.2 hf _ _ _ hP hS (lv_sub hl [1, 2, 3, 4, 6] rfl)
  have wL22 : ∀ (h2 : Int32 × Int32 × Int32 × Sg → Option (Int32 × Sg)) (hh2 : ∀ x : Int32 × Int32 × Int32 × Sg, h2 x = some res → ∀ (H : Heap) (locs : List Loc) (ls : Array Slot), va_P (zD v) vwCl (pX.1 v x.2.2.2) H → va_S (An nX v) s.heap H locs → lv_has ls 7 [(0, .ref (zA v 3)), (1, .int x.1), (2, .int x.2.1), (3, .int x.2.2.1)] → W p l e rm_X2_wordOf s m args below meth c H locs 0 0 Q (F0 m 2 ls [])) (n : Nat) (x : Int32 × Int32 × Int32 × Int32 × Int32 × Sg), lp (x_X2_wordOf_B22 N h2) n x = some res → ∀ (H : Heap) (locs : List Loc) (ls : Array Slot), va_P (zD v) vwCl (pX.1 v x.2.2.2.2.2) H → va_S (An nX v) s.heap H locs → lv_has ls 7 [(0, .ref (zA v 3)), (1, .int x.1), (2, .int x.2.1), (3, .int x.2.2.1), (4, .int x.2.2.2.1), (5, .int x.2.2.2.2.1)] → W p l e rm_X2_wordOf s m args below meth c H locs 0 0 Q (F0 m 22 ls []) := by
    intro h2 hh2
    refine lp_w (P := fun x : Int32 × Int32 × Int32 × Int32 × Int32 × Sg => ∀ (H : Heap) (locs : List Loc) (ls : Array Slot), va_P (zD v) vwCl (pX.1 v x.2.2.2.2.2) H → va_S (An nX v) s.heap H locs → lv_has ls 7 [(0, .ref (zA v 3)), (1, .int x.1), (2, .int x.2.1), (3, .int x.2.2.1), (4, .int x.2.2.2.1), (5, .int x.2.2.2.2.1)] → W p l e rm_X2_wordOf s m args below meth c H locs 0 0 Q (F0 m 22 ls [])) ?_
    intro h22 hh22 x hf H locs ls hP hS hl
    unfold x_X2_wordOf_B22 at hf
    refine lv_iload hx hb dX2_wordOf_22 (lv_at hl 5 rfl) ?_
    refine lv_bipush (v := 6) hx hb dX2_wordOf_24 kB_6 ?_
    refine lv_icmp_ge (tgt := 88) hx hb dX2_wordOf_26 (by decide) (fun c3 => ?_) (fun c3 => ?_)
    · have hf := ite_t c3 hf
      refine lv_iload hx hb dX2_wordOf_88 (lv_at hl 4 rfl) ?_
      refine lv_if_eq (tgt := 95) hx hb dX2_wordOf_90 (by decide) (fun c4 => ?_) (fun c4 => ?_)
      · have hf := ite_t c4 hf
        obtain ⟨x5, ex5, hf⟩ := lt_e hf
        refine lv_iinc (v := x5) (lv' := [(3, .int x5), (0, .ref (zA v 3)), (1, .int x.1), (2, .int x.2.1), (4, .int x.2.2.2.1), (5, .int x.2.2.2.2.1)]) hx hb dX2_wordOf_95 hl (k := 3) rfl ((congrArg (fun z => x.2.2.1 + z) kI_1).trans ex5.symm) (by decide) rfl (fun ls hl => ?_)
        refine lv_goto (tgt := 2) hx hb dX2_wordOf_98 (by decide) ?_
        exact hh2 (x.1, x.2.1, x5, x.2.2.2.2.2) hf _ _ _ hP hS (lv_sub hl [1, 2, 3, 0] rfl)
      · have hf := ite_f c4 hf
        refine lv_iload_n hx hb dX2_wordOf_93 rfl (lv_at hl 3 rfl) ?_
        exact hret _ _ _ _ _ _ (Or.inl rfl) (Option.some.inj hf) hP hS dX2_wordOf_94
    · have hf := ite_f c3 hf
      refine lv_iload_n hx hb dX2_wordOf_29 rfl (lv_at hl 1 rfl) ?_
      refine lv_iload hx hb dX2_wordOf_30 (lv_at hl 5 rfl) ?_
      refine lv_iadd hx hb dX2_wordOf_32 ?_
      refine lv_iload_n hx hb dX2_wordOf_33 rfl (lv_at hl 2 rfl) ?_
      refine lv_icmp_ge (tgt := 49) hx hb dX2_wordOf_34 (by decide) (fun c6 => ?_) (fun c6 => ?_)
      · have hf := ite_t c6 hf
        refine lv_bipush (v := 32) hx hb dX2_wordOf_49 kB_32 ?_
        exact wb51 h2 hh2 h22 hh22 x.1 x.2.1 x.2.2.1 x.2.2.2.1 x.2.2.2.2.1 (32 : Int32) x.2.2.2.2.2 hf _ _ _ hP hS (lv_sub hl [0, 1, 2, 3, 4, 5] rfl)
      · have hf := ite_f c6 hf
        refine lv_aload_n hx hb dX2_wordOf_37 rfl (lv_at hl 0 rfl) ?_
        refine va_get (D := zD v) (ci := 1) (v := .ref (zA v 21)) (C := RX2) (T := TX2) (N := 8) hx hb hts iX2 hown hk.1 hP 3 rfl rfl 0 (by decide) (hts _ fl_X2_9) (fun _ h9 => h9) rfl dX2_wordOf_38 ?_
        refine lv_iload_n hx hb dX2_wordOf_41 rfl (lv_at hl 1 rfl) ?_
        refine lv_iload hx hb dX2_wordOf_42 (lv_at hl 5 rfl) ?_
        refine lv_iadd hx hb dX2_wordOf_44 ?_
        obtain ⟨c11, hf⟩ := gd_e hf
        refine va_iald hx hb hk.1 hP 21 0 rfl rfl (inb_in c11) dX2_wordOf_45 ?_
        refine lv_goto (tgt := 51) hx hb dX2_wordOf_46 (by decide) ?_
        exact wb51 h2 hh2 h22 hh22 x.1 x.2.1 x.2.2.1 x.2.2.2.1 x.2.2.2.2.1 (x.2.2.2.2.2 21 ((x.1 + x.2.2.2.2.1)).toNatClampNeg) x.2.2.2.2.2 hf _ _ _ hP hS (lv_sub hl [0, 1, 2, 3, 4, 5] rfl)
  have wL2 : ∀ (n : Nat) (x : Int32 × Int32 × Int32 × Sg), lp (x_X2_wordOf_B2 N) n x = some res → ∀ (H : Heap) (locs : List Loc) (ls : Array Slot), va_P (zD v) vwCl (pX.1 v x.2.2.2) H → va_S (An nX v) s.heap H locs → lv_has ls 7 [(0, .ref (zA v 3)), (1, .int x.1), (2, .int x.2.1), (3, .int x.2.2.1)] → W p l e rm_X2_wordOf s m args below meth c H locs 0 0 Q (F0 m 2 ls []) := by
    refine lp_w (P := fun x : Int32 × Int32 × Int32 × Sg => ∀ (H : Heap) (locs : List Loc) (ls : Array Slot), va_P (zD v) vwCl (pX.1 v x.2.2.2) H → va_S (An nX v) s.heap H locs → lv_has ls 7 [(0, .ref (zA v 3)), (1, .int x.1), (2, .int x.2.1), (3, .int x.2.2.1)] → W p l e rm_X2_wordOf s m args below meth c H locs 0 0 Q (F0 m 2 ls [])) ?_
    intro h2 hh2 x hf H locs ls hP hS hl
    unfold x_X2_wordOf_B2 at hf
    refine lv_iload_n hx hb dX2_wordOf_2 rfl (lv_at hl 3 rfl) ?_
    refine lv_bipush (v := 12) hx hb dX2_wordOf_3 kB_12 ?_
    refine lv_icmp_ge (tgt := 101) hx hb dX2_wordOf_5 (by decide) (fun c1 => ?_) (fun c1 => ?_)
    · have hf := ite_t c1 hf
      refine lv_bipush (v := 20) hx hb dX2_wordOf_101 kB_20 ?_
      exact hret _ _ _ _ _ _ (Or.inl rfl) (Option.some.inj hf) hP hS dX2_wordOf_103
    · have hf := ite_f c1 hf
      refine lv_iload_n hx hb dX2_wordOf_8 rfl (lv_at hl 2 rfl) ?_
      refine lv_iload_n hx hb dX2_wordOf_9 rfl (lv_at hl 1 rfl) ?_
      refine lv_isub hx hb dX2_wordOf_10 ?_
      refine lv_bipush (v := 6) hx hb dX2_wordOf_11 kB_6 ?_
      refine lv_icmp_gt (tgt := 101) hx hb dX2_wordOf_13 (by decide) (fun c2 => ?_) (fun c2 => ?_)
      · have hf := ite_t c2 hf
        refine lv_bipush (v := 20) hx hb dX2_wordOf_101 kB_20 ?_
        exact hret _ _ _ _ _ _ (Or.inl rfl) (Option.some.inj hf) hP hS dX2_wordOf_103
      · have hf := ite_f c2 hf
        refine lv_iconst (v := 1) hx hb dX2_wordOf_16 kI_1 ?_
        refine lv_istore (lv' := [(4, .int (1 : Int32)), (0, .ref (zA v 3)), (1, .int x.1), (2, .int x.2.1), (3, .int x.2.2.1)]) hx hb dX2_wordOf_17 hl (by decide) rfl (fun ls hl => ?_)
        refine lv_iconst (v := 0) hx hb dX2_wordOf_19 kI_0 ?_
        refine lv_istore (lv' := [(5, .int (0 : Int32)), (4, .int (1 : Int32)), (0, .ref (zA v 3)), (1, .int x.1), (2, .int x.2.1), (3, .int x.2.2.1)]) hx hb dX2_wordOf_20 hl (by decide) rfl (fun ls hl => ?_)
        exact wL22 h2 hh2 N (x.1, x.2.1, x.2.2.1, (1 : Int32), (0 : Int32), x.2.2.2) hf _ _ _ hP hS (lv_sub hl [2, 3, 4, 5, 1, 0] rfl)
  unfold x_X2_wordOf at hf
  refine lv_iconst (v := 0) hx hb dX2_wordOf_0 kI_0 ?_
  refine lv_istore_n (lv' := [(3, .int (0 : Int32)), (0, .ref (zA v 3)), (1, .int a1), (2, .int a2)]) hx hb dX2_wordOf_1 rfl hl (by decide) rfl (fun ls hl => ?_)
  exact wL2 N (a1, a2, (0 : Int32), g) hf _ _ _ hP hS (lv_sub hl [1, 2, 3, 0] rfl)
abbrev rm_X2_tokenAt : Room := { frames := 6, cells := 0, slots := 0, locals := 171 }
set_option maxRecDepth 100000 in
theorem t_X2_tokenAt (l : Launch) (v : Ev) (N : Nat) (a1 : Int32) (a2 : Int32) (g : Sg) (res : Int32 × Sg) (hf : x_X2_tokenAt N a1 a2 g = some res) : Ci l yX2_tokenAt cX2_tokenAt 4 .int rm_X2_tokenAt pX v [.ref (zA v 3), .int a1, .int a2] g res := by
  refine ze_i (by decide +kernel) (Nat.le_of_ble_eq_true rfl) ?_
  intro p e s m args below meth c Q ls hcx hret hP hl
  obtain ⟨hx, hb, hml, hown, hts, hk⟩ := hcx
  have hown : s.vm.findClass RX2 = some m.cls := hown
  have hS : va_S (An nX v) s.heap s.heap [] := va_S.rf
  have hl : lv_has ls 4 [(0, .ref (zA v 3)), (1, .int a1), (2, .int a2)] := hl
  have wb61 : ∀ (y1 : Int32) (y2 : Int32) (y3 : Int32) (g : Sg) (hf : x_X2_tokenAt_b61 N y1 y2 y3 g = some res) (H : Heap) (locs : List Loc) (ls : Array Slot) (hP : va_P (zD v) vwCl (pX.1 v g) H) (hS : va_S (An nX v) s.heap H locs) (hl : lv_has ls 4 [(0, .ref (zA v 3)), (1, .int y1), (2, .int y2), (3, .int y3)]), W p l e rm_X2_tokenAt s m args below meth c H locs 0 0 Q (F0 m 61 ls []) := by
    intro y1 y2 y3 g hf H locs ls hP hS hl
    unfold x_X2_tokenAt_b61 at hf
    refine lv_iload_n hx hb dX2_tokenAt_61 rfl (lv_at hl 2 rfl) ?_
    refine lv_iconst (v := 1) hx hb dX2_tokenAt_62 kI_1 ?_
    refine lv_icmp_ne (tgt := 75) hx hb dX2_tokenAt_63 (by decide) (fun c3 => ?_) (fun c3 => ?_)
    · have hf := ite_f c3 hf
      refine lv_aload_n hx hb dX2_tokenAt_75 rfl (lv_at hl 0 rfl) ?_
      refine lv_iload_n hx hb dX2_tokenAt_76 rfl (lv_at hl 1 rfl) ?_
      refine lv_iload_n hx hb dX2_tokenAt_77 rfl (lv_at hl 3 rfl) ?_
      obtain ⟨q4, eq4, hf⟩ := bd_e hf
      refine zki hS (zrV (As := [.int y1, .int y3]) (rest := []) okX hx hb hml hown hts hk hP hS (t_X2_wordOf l v N y1 y3 g _ eq4) vk_X2_wordOf ml_X2_70 rfl rfl ⟨(Nat.le_of_ble_eq_true rfl), (Nat.le_of_ble_eq_true rfl)⟩ (va_recv (q := (RX2, TX2, 8)) hk.1 hP (q0 := 3) (ci := 1) rfl rfl) rfl hl.1 rfl (Nat.le_of_ble_eq_true rfl) dX2_tokenAt_78) (fun H locs hP hS => ?_)
      exact hret _ _ _ _ _ _ (Or.inl rfl) (Option.some.inj hf) hP hS dX2_tokenAt_81
    · have hf := ite_t c3 hf
      refine lv_aload_n hx hb dX2_tokenAt_66 rfl (lv_at hl 0 rfl) ?_
      refine lv_iload_n hx hb dX2_tokenAt_67 rfl (lv_at hl 1 rfl) ?_
      refine lv_iload_n hx hb dX2_tokenAt_68 rfl (lv_at hl 3 rfl) ?_
      obtain ⟨q5, eq5, hf⟩ := bd_e hf
      refine zki hS (zrV (As := [.int y1, .int y3]) (rest := []) okX hx hb hml hown hts hk hP hS (t_X2_numberOf l v N y1 y3 g _ eq5) vk_X2_numberOf ml_X2_67 rfl rfl ⟨(Nat.le_of_ble_eq_true rfl), (Nat.le_of_ble_eq_true rfl)⟩ (va_recv (q := (RX2, TX2, 8)) hk.1 hP (q0 := 3) (ci := 1) rfl rfl) rfl hl.1 rfl (Nat.le_of_ble_eq_true rfl) dX2_tokenAt_69) (fun H locs hP hS => ?_)
      refine lv_goto (tgt := 81) hx hb dX2_tokenAt_72 (by decide) ?_
      exact hret _ _ _ _ _ _ (Or.inl rfl) (Option.some.inj hf) hP hS dX2_tokenAt_81
  have wL34 : ∀ (n : Nat) (x : Int32 × Int32 × Int32 × Sg), lp (x_X2_tokenAt_B34 N) n x = some res → ∀ (H : Heap) (locs : List Loc) (ls : Array Slot), va_P (zD v) vwCl (pX.1 v x.2.2.2) H → va_S (An nX v) s.heap H locs → lv_has ls 4 [(0, .ref (zA v 3)), (1, .int x.1), (2, .int x.2.1), (3, .int x.2.2.1)] → W p l e rm_X2_tokenAt s m args below meth c H locs 0 0 Q (F0 m 34 ls []) := by
    refine lp_w (P := fun x : Int32 × Int32 × Int32 × Sg => ∀ (H : Heap) (locs : List Loc) (ls : Array Slot), va_P (zD v) vwCl (pX.1 v x.2.2.2) H → va_S (An nX v) s.heap H locs → lv_has ls 4 [(0, .ref (zA v 3)), (1, .int x.1), (2, .int x.2.1), (3, .int x.2.2.1)] → W p l e rm_X2_tokenAt s m args below meth c H locs 0 0 Q (F0 m 34 ls [])) ?_
    intro h34 hh34 x hf H locs ls hP hS hl
    unfold x_X2_tokenAt_B34 at hf
    refine lv_iload_n hx hb dX2_tokenAt_34 rfl (lv_at hl 3 rfl) ?_
    refine lv_aload_n hx hb dX2_tokenAt_35 rfl (lv_at hl 0 rfl) ?_
    refine va_get (D := zD v) (ci := 1) (v := .int (x.2.2.2 3 1)) (C := RX2) (T := TX2) (N := 8) hx hb hts iX2 hown hk.1 hP 3 rfl rfl 1 (by decide) (hts _ fl_X2_27) (fun _ h9 => h9) rfl dX2_tokenAt_36 ?_
    refine lv_icmp_ge (tgt := 61) hx hb dX2_tokenAt_39 (by decide) (fun c2 => ?_) (fun c2 => ?_)
    · have hf := ite_t c2 hf
      exact wb61 x.1 x.2.1 x.2.2.1 x.2.2.2 hf _ _ _ hP hS (lv_sub hl [0, 1, 2, 3] rfl)
    · have hf := ite_f c2 hf
      refine lv_aload_n hx hb dX2_tokenAt_42 rfl (lv_at hl 0 rfl) ?_
      refine va_get (D := zD v) (ci := 1) (v := .ref (zA v 21)) (C := RX2) (T := TX2) (N := 8) hx hb hts iX2 hown hk.1 hP 3 rfl rfl 0 (by decide) (hts _ fl_X2_9) (fun _ h9 => h9) rfl dX2_tokenAt_43 ?_
      refine lv_iload_n hx hb dX2_tokenAt_46 rfl (lv_at hl 3 rfl) ?_
      obtain ⟨c6, hf⟩ := gd_e hf
      refine va_iald hx hb hk.1 hP 21 0 rfl rfl (inb_in c6) dX2_tokenAt_47 ?_
      obtain ⟨q7, eq7, hf⟩ := bd_e hf
      refine zki hS (zrS (As := [.int (x.2.2.2 21 (x.2.2.1).toNatClampNeg)]) (rest := []) okX hx hb hml hown hts hk hP hS (t_X2_sortOf l v N (x.2.2.2 21 (x.2.2.1).toNatClampNeg) x.2.2.2 _ eq7) sk_X2_sortOf ml_X2_52 rfl rfl ⟨(Nat.le_of_ble_eq_true rfl), (Nat.le_of_ble_eq_true rfl)⟩ rfl hl.1 rfl (Nat.le_of_ble_eq_true rfl) dX2_tokenAt_48) (fun H locs hP hS => ?_)
      refine lv_iload_n hx hb dX2_tokenAt_51 rfl (lv_at hl 2 rfl) ?_
      refine lv_icmp_ne (tgt := 61) hx hb dX2_tokenAt_52 (by decide) (fun c8 => ?_) (fun c8 => ?_)
      · have hf := ite_f c8 hf
        exact wb61 x.1 x.2.1 x.2.2.1 q7.2 hf _ _ _ hP hS (lv_sub hl [0, 1, 2, 3] rfl)
      · have hf := ite_t c8 hf
        obtain ⟨x9, ex9, hf⟩ := lt_e hf
        refine lv_iinc (v := x9) (lv' := [(3, .int x9), (0, .ref (zA v 3)), (1, .int x.1), (2, .int x.2.1)]) hx hb dX2_tokenAt_55 hl (k := 3) rfl ((congrArg (fun z => x.2.2.1 + z) kI_1).trans ex9.symm) (by decide) rfl (fun ls hl => ?_)
        refine lv_goto (tgt := 34) hx hb dX2_tokenAt_58 (by decide) ?_
        exact hh34 (x.1, x.2.1, x9, q7.2) hf _ _ _ hP hS (lv_sub hl [1, 2, 3, 0] rfl)
  unfold x_X2_tokenAt at hf
  refine lv_iload_n hx hb dX2_tokenAt_0 rfl (lv_at hl 2 rfl) ?_
  refine lv_iconst (v := 3) hx hb dX2_tokenAt_1 kI_3 ?_
  refine lv_icmp_ne (tgt := 32) hx hb dX2_tokenAt_2 (by decide) (fun c1 => ?_) (fun c1 => ?_)
  · have hf := ite_f c1 hf
    refine lv_iload_n hx hb dX2_tokenAt_32 rfl (lv_at hl 1 rfl) ?_
    refine lv_istore_n (lv' := [(3, .int a1), (0, .ref (zA v 3)), (1, .int a1), (2, .int a2)]) hx hb dX2_tokenAt_33 rfl hl (by decide) rfl (fun ls hl => ?_)
    exact wL34 N (a1, a2, a1, g) hf _ _ _ hP hS (lv_sub hl [1, 2, 3, 0] rfl)
  · have hf := ite_t c1 hf
    refine va_ldcS hx hb hown (xs_s1 hk) dX2_tokenAt_5 ?_
    refine lv_aload_n hx hb dX2_tokenAt_7 rfl (lv_at hl 0 rfl) ?_
    refine va_get (D := zD v) (ci := 1) (v := .ref (zA v 21)) (C := RX2) (T := TX2) (N := 8) hx hb hts iX2 hown hk.1 hP 3 rfl rfl 0 (by decide) (hts _ fl_X2_9) (fun _ h9 => h9) rfl dX2_tokenAt_8 ?_
    refine lv_iload_n hx hb dX2_tokenAt_11 rfl (lv_at hl 1 rfl) ?_
    obtain ⟨c10, hf⟩ := gd_e hf
    refine va_iald hx hb hk.1 hP 21 0 rfl rfl (inb_in c10) dX2_tokenAt_12 ?_
    refine lv_i2c hx hb dX2_tokenAt_13 rfl ?_
    obtain ⟨q11, eq11, hf⟩ := bd_e hf
    refine zki hS (zrV (As := [.int ((((g 21 (a1).toNatClampNeg)).toUInt32 % 65536).toInt32)]) (rest := []) okX hx hb hml hown hts hk hP hS (t_J0_indexOf_0f7a4_1 l v N ((((g 21 (a1).toNatClampNeg)).toUInt32 % 65536).toInt32) g _ eq11) vk_J0_indexOf_0f7a4 ml_X2_62 rfl rfl ⟨(Nat.le_of_ble_eq_true rfl), (Nat.le_of_ble_eq_true rfl)⟩ (vk_recv (i := 1) (xs_str hk) (by decide) hS) rfl hl.1 rfl (Nat.le_of_ble_eq_true rfl) dX2_tokenAt_14) (fun H locs hP hS => ?_)
    refine lv_istore_n (lv' := [(3, .int q11.1), (0, .ref (zA v 3)), (1, .int a1), (2, .int a2)]) hx hb dX2_tokenAt_17 rfl hl (by decide) rfl (fun ls hl => ?_)
    refine lv_iload_n hx hb dX2_tokenAt_18 rfl (lv_at hl 0 rfl) ?_
    refine lv_if_ge (tgt := 27) hx hb dX2_tokenAt_19 (by decide) (fun c12 => ?_) (fun c12 => ?_)
    · have hf := ite_t c12 hf
      refine lv_bipush (v := 12) hx hb dX2_tokenAt_27 kB_12 ?_
      refine lv_iload_n hx hb dX2_tokenAt_29 rfl (lv_at hl 0 rfl) ?_
      refine lv_iadd hx hb dX2_tokenAt_30 ?_
      exact hret _ _ _ _ _ _ (Or.inl rfl) (Option.some.inj hf) hP hS dX2_tokenAt_31
    · have hf := ite_f c12 hf
      refine lv_bipush (v := 20) hx hb dX2_tokenAt_22 kB_20 ?_
      refine lv_goto (tgt := 31) hx hb dX2_tokenAt_24 (by decide) ?_
      exact hret _ _ _ _ _ _ (Or.inl rfl) (Option.some.inj hf) hP hS dX2_tokenAt_31
abbrev rm_X2_split : Room := { frames := 7, cells := 0, slots := 0, locals := 194 }
set_option maxRecDepth 100000 in
theorem t_X2_split (l : Launch) (v : Ev) (N : Nat) (g : Sg) (res : Sg) (hf : x_X2_split N g = some res) : Cv l yX2_split cX2_split 5 rm_X2_split pX v [.ref (zA v 3)] g res := by
  refine ze_v (by decide +kernel) (Nat.le_of_ble_eq_true rfl) ?_
  intro p e s m args below meth c Q ls hcx hret hP hl
  obtain ⟨hx, hb, hml, hown, hts, hk⟩ := hcx
  have hown : s.vm.findClass RX2 = some m.cls := hown
  have hS : va_S (An nX v) s.heap s.heap [] := va_S.rf
  have hl : lv_has ls 5 [(0, .ref (zA v 3))] := hl
  have wb85 : ∀ (h4 : Int32 × Int32 × Sg → Option (Sg)) (hh4 : ∀ x : Int32 × Int32 × Sg, h4 x = some res → ∀ (H : Heap) (locs : List Loc) (ls : Array Slot), va_P (zD v) vwCl (pX.1 v x.2.2) H → va_S (An nX v) s.heap H locs → lv_has ls 5 [(0, .ref (zA v 3)), (1, .int x.1), (2, .int x.2.1)] → W p l e rm_X2_split s m args below meth c H locs 0 0 Q (F0 m 4 ls [])) (y1 : Int32) (y2 : Int32) (g : Sg) (hf : x_X2_split_b85 N h4 y1 y2 g = some res) (H : Heap) (locs : List Loc) (ls : Array Slot) (hP : va_P (zD v) vwCl (pX.1 v g) H) (hS : va_S (An nX v) s.heap H locs) (hl : lv_has ls 5 [(0, .ref (zA v 3)), (1, .int y1), (2, .int y2)]), W p l e rm_X2_split s m args below meth c H locs 0 0 Q (F0 m 85 ls []) := by
    intro h4 hh4 y1 y2 g hf H locs ls hP hS hl
    unfold x_X2_split_b85 at hf
    obtain ⟨x10, ex10, hf⟩ := lt_e hf
    refine lv_iinc (v := x10) (lv' := [(2, .int x10), (0, .ref (zA v 3)), (1, .int y1)]) hx hb dX2_split_85 hl (k := 2) rfl ((congrArg (fun z => y2 + z) kI_1).trans ex10.symm) (by decide) rfl (fun ls hl => ?_)
    refine lv_goto (tgt := 4) hx hb dX2_split_88 (by decide) ?_
    exact hh4 (y1, x10, g) hf _ _ _ hP hS (lv_sub hl [1, 2, 0] rfl)
  have wb51 : ∀ (h4 : Int32 × Int32 × Sg → Option (Sg)) (hh4 : ∀ x : Int32 × Int32 × Sg, h4 x = some res → ∀ (H : Heap) (locs : List Loc) (ls : Array Slot), va_P (zD v) vwCl (pX.1 v x.2.2) H → va_S (An nX v) s.heap H locs → lv_has ls 5 [(0, .ref (zA v 3)), (1, .int x.1), (2, .int x.2.1)] → W p l e rm_X2_split s m args below meth c H locs 0 0 Q (F0 m 4 ls [])) (y1 : Int32) (y2 : Int32) (y3 : Int32) (t0 : Int32) (g : Sg) (hf : x_X2_split_b51 N h4 y1 y2 y3 t0 g = some res) (H : Heap) (locs : List Loc) (ls : Array Slot) (hP : va_P (zD v) vwCl (pX.1 v g) H) (hS : va_S (An nX v) s.heap H locs) (hl : lv_has ls 5 [(0, .ref (zA v 3)), (1, .int y1), (2, .int y2), (3, .int y3)]), W p l e rm_X2_split s m args below meth c H locs 0 0 Q (F0 m 51 ls [.int t0]) := by
    intro h4 hh4 y1 y2 y3 t0 g hf H locs ls hP hS hl
    unfold x_X2_split_b51 at hf
    refine lv_istore (lv' := [(4, .int t0), (0, .ref (zA v 3)), (1, .int y1), (2, .int y2), (3, .int y3)]) hx hb dX2_split_51 hl (by decide) rfl (fun ls hl => ?_)
    refine lv_iload_n hx hb dX2_split_53 rfl (lv_at hl 4 rfl) ?_
    refine lv_iconst (v := 2) hx hb dX2_split_54 kI_2 ?_
    refine lv_icmp_eq (tgt := 85) hx hb dX2_split_55 (by decide) (fun c9 => ?_) (fun c9 => ?_)
    · have hf := ite_t c9 hf
      exact wb85 h4 hh4 y1 y2 g hf _ _ _ hP hS (lv_sub hl [1, 2, 3] rfl)
    · have hf := ite_f c9 hf
      refine lv_iload hx hb dX2_split_58 (lv_at hl 0 rfl) ?_
      refine lv_if_ne (tgt := 85) hx hb dX2_split_60 (by decide) (fun c11 => ?_) (fun c11 => ?_)
      · have hf := ite_f c11 hf
        exact wb85 h4 hh4 y1 y2 g hf _ _ _ hP hS (lv_sub hl [1, 2, 3] rfl)
      · have hf := ite_t c11 hf
        refine lv_aload_n hx hb dX2_split_63 rfl (lv_at hl 1 rfl) ?_
        refine va_get (D := zD v) (ci := 1) (v := .ref (zA v 22)) (C := RX2) (T := TX2) (N := 8) hx hb hts iX2 hown hk.1 hP 3 rfl rfl 2 (by decide) (hts _ fl_X2_15) (fun _ h9 => h9) rfl dX2_split_64 ?_
        refine lv_iload_n hx hb dX2_split_67 rfl (lv_at hl 2 rfl) ?_
        refine lv_aload_n hx hb dX2_split_68 rfl (lv_at hl 1 rfl) ?_
        refine lv_iload_n hx hb dX2_split_69 rfl (lv_at hl 3 rfl) ?_
        refine lv_iload_n hx hb dX2_split_70 rfl (lv_at hl 4 rfl) ?_
        obtain ⟨q12, eq12, hf⟩ := bd_e hf
        refine zki hS (zrV (As := [.int y2, .int y3]) (rest := [.int y1, .ref (zA v 22)]) okX hx hb hml hown hts hk hP hS (t_X2_tokenAt l v N y2 y3 g _ eq12) vk_X2_tokenAt ml_X2_56 rfl rfl ⟨(Nat.le_of_ble_eq_true rfl), (Nat.le_of_ble_eq_true rfl)⟩ (va_recv (q := (RX2, TX2, 8)) hk.1 hP (q0 := 3) (ci := 1) rfl rfl) rfl hl.1 rfl (Nat.le_of_ble_eq_true rfl) dX2_split_71) (fun H locs hP hS => ?_)
        obtain ⟨c13, hf⟩ := gd_e hf
        refine va_iast hx hb hk.1 hP (zw_D okX hk _) hS 22 0 rfl rfl (inb_in c13) dX2_split_74 (fun H locs hP1 _ hS => ?_)
        have hP : va_P (zD v) vwCl (pX.1 v (up q12.2 22 (upd (q12.2 22) (y1).toNatClampNeg q12.1))) H := hP1
        obtain ⟨g14, eg14, hf⟩ := lt_e hf
        rw [← eg14] at hP
        refine lv_aload_n hx hb dX2_split_75 rfl (lv_at hl 1 rfl) ?_
        refine va_get (D := zD v) (ci := 1) (v := .ref (zA v 23)) (C := RX2) (T := TX2) (N := 8) hx hb hts iX2 hown hk.1 hP 3 rfl rfl 3 (by decide) (hts _ fl_X2_18) (fun _ h9 => h9) rfl dX2_split_76 ?_
        refine lv_iload_n hx hb dX2_split_79 rfl (lv_at hl 2 rfl) ?_
        refine lv_iload_n hx hb dX2_split_80 rfl (lv_at hl 3 rfl) ?_
        obtain ⟨c15, hf⟩ := gd_e hf
        refine va_iast hx hb hk.1 hP (zw_D okX hk _) hS 23 0 rfl rfl (inb_in c15) dX2_split_81 (fun H locs hP1 _ hS => ?_)
        have hP : va_P (zD v) vwCl (pX.1 v (up g14 23 (upd (g14 23) (y1).toNatClampNeg y2))) H := hP1
        obtain ⟨g16, eg16, hf⟩ := lt_e hf
        rw [← eg16] at hP
        obtain ⟨x17, ex17, hf⟩ := lt_e hf
        refine lv_iinc (v := x17) (lv' := [(1, .int x17), (4, .int t0), (0, .ref (zA v 3)), (2, .int y2), (3, .int y3)]) hx hb dX2_split_82 hl (k := 2) rfl ((congrArg (fun z => y1 + z) kI_1).trans ex17.symm) (by decide) rfl (fun ls hl => ?_)
        exact wb85 h4 hh4 x17 y2 g16 hf _ _ _ hP hS (lv_sub hl [2, 0, 3] rfl)
  have wb50 : ∀ (h4 : Int32 × Int32 × Sg → Option (Sg)) (hh4 : ∀ x : Int32 × Int32 × Sg, h4 x = some res → ∀ (H : Heap) (locs : List Loc) (ls : Array Slot), va_P (zD v) vwCl (pX.1 v x.2.2) H → va_S (An nX v) s.heap H locs → lv_has ls 5 [(0, .ref (zA v 3)), (1, .int x.1), (2, .int x.2.1)] → W p l e rm_X2_split s m args below meth c H locs 0 0 Q (F0 m 4 ls [])) (y1 : Int32) (y2 : Int32) (y3 : Int32) (g : Sg) (hf : x_X2_split_b50 N h4 y1 y2 y3 g = some res) (H : Heap) (locs : List Loc) (ls : Array Slot) (hP : va_P (zD v) vwCl (pX.1 v g) H) (hS : va_S (An nX v) s.heap H locs) (hl : lv_has ls 5 [(0, .ref (zA v 3)), (1, .int y1), (2, .int y2), (3, .int y3)]), W p l e rm_X2_split s m args below meth c H locs 0 0 Q (F0 m 50 ls []) := by
    intro h4 hh4 y1 y2 y3 g hf H locs ls hP hS hl
    unfold x_X2_split_b50 at hf
    refine lv_iconst (v := 0) hx hb dX2_split_50 kI_0 ?_
    exact wb51 h4 hh4 y1 y2 y3 (0 : Int32) g hf _ _ _ hP hS (lv_sub hl [0, 1, 2, 3] rfl)
  have wL4 : ∀ (n : Nat) (x : Int32 × Int32 × Sg), lp (x_X2_split_B4 N) n x = some res → ∀ (H : Heap) (locs : List Loc) (ls : Array Slot), va_P (zD v) vwCl (pX.1 v x.2.2) H → va_S (An nX v) s.heap H locs → lv_has ls 5 [(0, .ref (zA v 3)), (1, .int x.1), (2, .int x.2.1)] → W p l e rm_X2_split s m args below meth c H locs 0 0 Q (F0 m 4 ls []) := by
    refine lp_w (P := fun x : Int32 × Int32 × Sg => ∀ (H : Heap) (locs : List Loc) (ls : Array Slot), va_P (zD v) vwCl (pX.1 v x.2.2) H → va_S (An nX v) s.heap H locs → lv_has ls 5 [(0, .ref (zA v 3)), (1, .int x.1), (2, .int x.2.1)] → W p l e rm_X2_split s m args below meth c H locs 0 0 Q (F0 m 4 ls [])) ?_
    intro h4 hh4 x hf H locs ls hP hS hl
    unfold x_X2_split_B4 at hf
    refine lv_iload_n hx hb dX2_split_4 rfl (lv_at hl 2 rfl) ?_
    refine lv_aload_n hx hb dX2_split_5 rfl (lv_at hl 0 rfl) ?_
    refine va_get (D := zD v) (ci := 1) (v := .int (x.2.2 3 1)) (C := RX2) (T := TX2) (N := 8) hx hb hts iX2 hown hk.1 hP 3 rfl rfl 1 (by decide) (hts _ fl_X2_27) (fun _ h9 => h9) rfl dX2_split_6 ?_
    refine lv_icmp_ge (tgt := 91) hx hb dX2_split_9 (by decide) (fun c1 => ?_) (fun c1 => ?_)
    · have hf := ite_t c1 hf
      refine lv_aload_n hx hb dX2_split_91 rfl (lv_at hl 0 rfl) ?_
      refine va_get (D := zD v) (ci := 1) (v := .ref (zA v 22)) (C := RX2) (T := TX2) (N := 8) hx hb hts iX2 hown hk.1 hP 3 rfl rfl 2 (by decide) (hts _ fl_X2_15) (fun _ h9 => h9) rfl dX2_split_92 ?_
      refine lv_iload_n hx hb dX2_split_95 rfl (lv_at hl 1 rfl) ?_
      refine lv_bipush (v := 21) hx hb dX2_split_96 kB_21 ?_
      obtain ⟨c2, hf⟩ := gd_e hf
      refine va_iast hx hb hk.1 hP (zw_D okX hk _) hS 22 0 rfl rfl (inb_in c2) dX2_split_98 (fun H locs hP1 _ hS => ?_)
      have hP : va_P (zD v) vwCl (pX.1 v (up x.2.2 22 (upd (x.2.2 22) (x.1).toNatClampNeg (21 : Int32)))) H := hP1
      obtain ⟨g3, eg3, hf⟩ := lt_e hf
      rw [← eg3] at hP
      refine lv_aload_n hx hb dX2_split_99 rfl (lv_at hl 0 rfl) ?_
      refine va_get (D := zD v) (ci := 1) (v := .ref (zA v 23)) (C := RX2) (T := TX2) (N := 8) hx hb hts iX2 hown hk.1 hP 3 rfl rfl 3 (by decide) (hts _ fl_X2_18) (fun _ h9 => h9) rfl dX2_split_100 ?_
      refine lv_iload_n hx hb dX2_split_103 rfl (lv_at hl 1 rfl) ?_
      refine lv_aload_n hx hb dX2_split_104 rfl (lv_at hl 0 rfl) ?_
      refine va_get (D := zD v) (ci := 1) (v := .int (g3 3 1)) (C := RX2) (T := TX2) (N := 8) hx hb hts iX2 hown hk.1 hP 3 rfl rfl 1 (by decide) (hts _ fl_X2_27) (fun _ h9 => h9) rfl dX2_split_105 ?_
      obtain ⟨c4, hf⟩ := gd_e hf
      refine va_iast hx hb hk.1 hP (zw_D okX hk _) hS 23 0 rfl rfl (inb_in c4) dX2_split_108 (fun H locs hP1 _ hS => ?_)
      have hP : va_P (zD v) vwCl (pX.1 v (up g3 23 (upd (g3 23) (x.1).toNatClampNeg (g3 3 1)))) H := hP1
      obtain ⟨g5, eg5, hf⟩ := lt_e hf
      rw [← eg5] at hP
      exact hret _ _ _ _ _ (Option.some.inj hf) hP hS dX2_split_109
    · have hf := ite_f c1 hf
      refine lv_aload_n hx hb dX2_split_12 rfl (lv_at hl 0 rfl) ?_
      refine va_get (D := zD v) (ci := 1) (v := .ref (zA v 21)) (C := RX2) (T := TX2) (N := 8) hx hb hts iX2 hown hk.1 hP 3 rfl rfl 0 (by decide) (hts _ fl_X2_9) (fun _ h9 => h9) rfl dX2_split_13 ?_
      refine lv_iload_n hx hb dX2_split_16 rfl (lv_at hl 2 rfl) ?_
      obtain ⟨c6, hf⟩ := gd_e hf
      refine va_iald hx hb hk.1 hP 21 0 rfl rfl (inb_in c6) dX2_split_17 ?_
      obtain ⟨q7, eq7, hf⟩ := bd_e hf
      refine zki hS (zrS (As := [.int (x.2.2 21 (x.2.1).toNatClampNeg)]) (rest := []) okX hx hb hml hown hts hk hP hS (t_X2_sortOf l v N (x.2.2 21 (x.2.1).toNatClampNeg) x.2.2 _ eq7) sk_X2_sortOf ml_X2_52 rfl rfl ⟨(Nat.le_of_ble_eq_true rfl), (Nat.le_of_ble_eq_true rfl)⟩ rfl hl.1 rfl (Nat.le_of_ble_eq_true rfl) dX2_split_18) (fun H locs hP hS => ?_)
      refine lv_istore_n (lv' := [(3, .int q7.1), (0, .ref (zA v 3)), (1, .int x.1), (2, .int x.2.1)]) hx hb dX2_split_21 rfl hl (by decide) rfl (fun ls hl => ?_)
      refine lv_iload_n hx hb dX2_split_22 rfl (lv_at hl 3 rfl) ?_
      refine lv_if_le (tgt := 50) hx hb dX2_split_23 (by decide) (fun c8 => ?_) (fun c8 => ?_)
      · have hf := ite_t c8 hf
        exact wb50 h4 hh4 x.1 x.2.1 q7.1 q7.2 hf _ _ _ hP hS (lv_sub hl [1, 2, 3, 0] rfl)
      · have hf := ite_f c8 hf
        refine lv_iload_n hx hb dX2_split_26 rfl (lv_at hl 0 rfl) ?_
        refine lv_iconst (v := 3) hx hb dX2_split_27 kI_3 ?_
        refine lv_icmp_eq (tgt := 50) hx hb dX2_split_28 (by decide) (fun c18 => ?_) (fun c18 => ?_)
        · have hf := ite_t c18 hf
          exact wb50 h4 hh4 x.1 x.2.1 q7.1 q7.2 hf _ _ _ hP hS (lv_sub hl [1, 2, 3, 0] rfl)
        · have hf := ite_f c18 hf
          refine lv_iload_n hx hb dX2_split_31 rfl (lv_at hl 0 rfl) ?_
          refine lv_aload_n hx hb dX2_split_32 rfl (lv_at hl 1 rfl) ?_
          refine va_get (D := zD v) (ci := 1) (v := .ref (zA v 21)) (C := RX2) (T := TX2) (N := 8) hx hb hts iX2 hown hk.1 hP 3 rfl rfl 0 (by decide) (hts _ fl_X2_9) (fun _ h9 => h9) rfl dX2_split_33 ?_
          refine lv_iload_n hx hb dX2_split_36 rfl (lv_at hl 3 rfl) ?_
          refine lv_iconst (v := 1) hx hb dX2_split_37 kI_1 ?_
          refine lv_isub hx hb dX2_split_38 ?_
          obtain ⟨c19, hf⟩ := gd_e hf
          refine va_iald hx hb hk.1 hP 21 0 rfl rfl (inb_in c19) dX2_split_39 ?_
          obtain ⟨q20, eq20, hf⟩ := bd_e hf
          refine zki hS (zrS (As := [.int (q7.2 21 ((x.2.1 - (1 : Int32))).toNatClampNeg)]) (rest := [.int q7.1]) okX hx hb hml hown hts hk hP hS (t_X2_sortOf l v N (q7.2 21 ((x.2.1 - (1 : Int32))).toNatClampNeg) q7.2 _ eq20) sk_X2_sortOf ml_X2_52 rfl rfl ⟨(Nat.le_of_ble_eq_true rfl), (Nat.le_of_ble_eq_true rfl)⟩ rfl hl.1 rfl (Nat.le_of_ble_eq_true rfl) dX2_split_40) (fun H locs hP hS => ?_)
          refine lv_icmp_ne (tgt := 50) hx hb dX2_split_43 (by decide) (fun c21 => ?_) (fun c21 => ?_)
          · have hf := ite_f c21 hf
            exact wb50 h4 hh4 x.1 x.2.1 q7.1 q20.2 hf _ _ _ hP hS (lv_sub hl [1, 2, 3, 0] rfl)
          · have hf := ite_t c21 hf
            refine lv_iconst (v := 1) hx hb dX2_split_46 kI_1 ?_
            refine lv_goto (tgt := 51) hx hb dX2_split_47 (by decide) ?_
            exact wb51 h4 hh4 x.1 x.2.1 q7.1 (1 : Int32) q20.2 hf _ _ _ hP hS (lv_sub hl [1, 2, 3, 0] rfl)
  unfold x_X2_split at hf
  refine lv_iconst (v := 0) hx hb dX2_split_0 kI_0 ?_
  refine lv_istore_n (lv' := [(1, .int (0 : Int32)), (0, .ref (zA v 3))]) hx hb dX2_split_1 rfl hl (by decide) rfl (fun ls hl => ?_)
  refine lv_iconst (v := 0) hx hb dX2_split_2 kI_0 ?_
  refine lv_istore_n (lv' := [(2, .int (0 : Int32)), (1, .int (0 : Int32)), (0, .ref (zA v 3))]) hx hb dX2_split_3 rfl hl (by decide) rfl (fun ls hl => ?_)
  exact wL4 N ((0 : Int32), (0 : Int32), g) hf _ _ _ hP hS (lv_sub hl [2, 1, 0] rfl)
abbrev rm_X2_pass : Room := { frames := 1, cells := 0, slots := 0, locals := 60 }
set_option maxRecDepth 100000 in
theorem t_X2_pass (l : Launch) (v : Ev) (N : Nat) (a1 : Int32) (g : Sg) (res : Int32 × Sg) (hf : x_X2_pass N a1 g = some res) : Ci l yX2_pass cX2_pass 2 .boolean rm_X2_pass pX v [.ref (zA v 3), .int a1] g res := by
  refine ze_i (by decide +kernel) (Nat.le_of_ble_eq_true rfl) ?_
  intro p e s m args below meth c Q ls hcx hret hP hl
  obtain ⟨hx, hb, hml, hown, hts, hk⟩ := hcx
  have hown : s.vm.findClass RX2 = some m.cls := hown
  have hS : va_S (An nX v) s.heap s.heap [] := va_S.rf
  have hl : lv_has ls 2 [(0, .ref (zA v 3)), (1, .int a1)] := hl
  unfold x_X2_pass at hf
  refine lv_aload_n hx hb dX2_pass_0 rfl (lv_at hl 0 rfl) ?_
  refine va_get (D := zD v) (ci := 1) (v := .ref (zA v 22)) (C := RX2) (T := TX2) (N := 8) hx hb hts iX2 hown hk.1 hP 3 rfl rfl 2 (by decide) (hts _ fl_X2_15) (fun _ h9 => h9) rfl dX2_pass_1 ?_
  refine lv_aload_n hx hb dX2_pass_4 rfl (lv_at hl 0 rfl) ?_
  refine va_get (D := zD v) (ci := 1) (v := .int (g 3 4)) (C := RX2) (T := TX2) (N := 8) hx hb hts iX2 hown hk.1 hP 3 rfl rfl 4 (by decide) (hts _ fl_X2_38) (fun _ h9 => h9) rfl dX2_pass_5 ?_
  obtain ⟨c1, hf⟩ := gd_e hf
  refine va_iald hx hb hk.1 hP 22 0 rfl rfl (inb_in c1) dX2_pass_8 ?_
  refine lv_iload_n hx hb dX2_pass_9 rfl (lv_at hl 1 rfl) ?_
  refine lv_icmp_eq (tgt := 15) hx hb dX2_pass_10 (by decide) (fun c2 => ?_) (fun c2 => ?_)
  · have hf := ite_t c2 hf
    refine lv_aload_n hx hb dX2_pass_15 rfl (lv_at hl 0 rfl) ?_
    refine lv_dup hx hb dX2_pass_16 rfl ?_
    refine va_get (D := zD v) (ci := 1) (v := .int (g 3 4)) (C := RX2) (T := TX2) (N := 8) hx hb hts iX2 hown hk.1 hP 3 rfl rfl 4 (by decide) (hts _ fl_X2_38) (fun _ h9 => h9) rfl dX2_pass_17 ?_
    refine lv_iconst (v := 1) hx hb dX2_pass_20 kI_1 ?_
    refine lv_iadd hx hb dX2_pass_21 ?_
    refine va_put (D := zD v) (ci := 1) (v := .int ((g 3 4) + (1 : Int32))) (ty := .int) (C := RX2) (T := TX2) (N := 8) hx hb hts iX2 tyX2 tyX2_ok nmX2 hown hk.1 hP (zw_D okX hk _) hS 3 rfl rfl 4 (by decide) (hts _ fl_X2_38) (fun _ h9 => h9) rfl pd_I rfl rfl (Nat.le_of_ble_eq_true rfl) dX2_pass_22 (fun H locs hP1 _ hS => ?_)
    have hP : va_P (zD v) vwCl (pX.1 v (up g 3 (upd (g 3) 4 ((g 3 4) + (1 : Int32))))) H := hP1
    obtain ⟨g3, eg3, hf⟩ := lt_e hf
    rw [← eg3] at hP
    refine lv_iconst (v := 1) hx hb dX2_pass_25 kI_1 ?_
    exact hret _ _ _ _ _ _ (Or.inr rfl) (Option.some.inj hf) hP hS dX2_pass_26
  · have hf := ite_f c2 hf
    refine lv_iconst (v := 0) hx hb dX2_pass_13 kI_0 ?_
    exact hret _ _ _ _ _ _ (Or.inr rfl) (Option.some.inj hf) hP hS dX2_pass_14
abbrev rm_X2_levelOf : Room := { frames := 1, cells := 0, slots := 0, locals := 60 }
set_option maxRecDepth 100000 in
theorem t_X2_levelOf (l : Launch) (v : Ev) (N : Nat) (a0 : Int32) (g : Sg) (res : Int32 × Sg) (hf : x_X2_levelOf N a0 g = some res) : Ci l yX2_levelOf cX2_levelOf 1 .int rm_X2_levelOf pX v [.int a0] g res := by
  refine ze_i (by decide +kernel) (Nat.le_of_ble_eq_true rfl) ?_
  intro p e s m args below meth c Q ls hcx hret hP hl
  obtain ⟨hx, hb, hml, hown, hts, hk⟩ := hcx
  have hown : s.vm.findClass RX2 = some m.cls := hown
  have hS : va_S (An nX v) s.heap s.heap [] := va_S.rf
  have hl : lv_has ls 1 [(0, .int a0)] := hl
  unfold x_X2_levelOf at hf
  refine lv_iload_n hx hb dX2_levelOf_0 rfl (lv_at hl 0 rfl) ?_
  by_cases c1 : (a0).toInt < 3 ∨ 19 < (a0).toInt
  · have hf := ite_t c1 hf
    refine lv_tableOut (tgt := 94) hx hb dX2_levelOf_1 c1 (by decide) ?_
    refine lv_iconst (v := -1) hx hb dX2_levelOf_94 kI_m1 ?_
    exact hret _ _ _ _ _ _ (Or.inl rfl) (Option.some.inj hf) hP hS dX2_levelOf_95
  · have hf := ite_f c1 hf
    by_cases c2 : ((a0).toInt - (3)).toNat = 0
    · have hf := ite_t c2 hf
      refine lv_tableIn (tgt := 84) hx hb dX2_levelOf_1 (fun h => c1 (Or.inl h)) (fun h => c1 (Or.inr h)) (by rw [c2]; rfl) (by decide) ?_
      refine lv_iconst (v := 0) hx hb dX2_levelOf_84 kI_0 ?_
      exact hret _ _ _ _ _ _ (Or.inl rfl) (Option.some.inj hf) hP hS dX2_levelOf_85
    · have hf := ite_f c2 hf
      by_cases c3 : ((a0).toInt - (3)).toNat = 1
      · have hf := ite_t c3 hf
        refine lv_tableIn (tgt := 86) hx hb dX2_levelOf_1 (fun h => c1 (Or.inl h)) (fun h => c1 (Or.inr h)) (by rw [c3]; rfl) (by decide) ?_
        refine lv_iconst (v := 1) hx hb dX2_levelOf_86 kI_1 ?_
        exact hret _ _ _ _ _ _ (Or.inl rfl) (Option.some.inj hf) hP hS dX2_levelOf_87
      · have hf := ite_f c3 hf
        by_cases c4 : ((a0).toInt - (3)).toNat = 2
        · have hf := ite_t c4 hf
          refine lv_tableIn (tgt := 94) hx hb dX2_levelOf_1 (fun h => c1 (Or.inl h)) (fun h => c1 (Or.inr h)) (by rw [c4]; rfl) (by decide) ?_
          refine lv_iconst (v := -1) hx hb dX2_levelOf_94 kI_m1 ?_
          exact hret _ _ _ _ _ _ (Or.inl rfl) (Option.some.inj hf) hP hS dX2_levelOf_95
        · have hf := ite_f c4 hf
          by_cases c5 : ((a0).toInt - (3)).toNat = 3
          · have hf := ite_t c5 hf
            refine lv_tableIn (tgt := 94) hx hb dX2_levelOf_1 (fun h => c1 (Or.inl h)) (fun h => c1 (Or.inr h)) (by rw [c5]; rfl) (by decide) ?_
            refine lv_iconst (v := -1) hx hb dX2_levelOf_94 kI_m1 ?_
            exact hret _ _ _ _ _ _ (Or.inl rfl) (Option.some.inj hf) hP hS dX2_levelOf_95
          · have hf := ite_f c5 hf
            by_cases c6 : ((a0).toInt - (3)).toNat = 4
            · have hf := ite_t c6 hf
              refine lv_tableIn (tgt := 94) hx hb dX2_levelOf_1 (fun h => c1 (Or.inl h)) (fun h => c1 (Or.inr h)) (by rw [c6]; rfl) (by decide) ?_
              refine lv_iconst (v := -1) hx hb dX2_levelOf_94 kI_m1 ?_
              exact hret _ _ _ _ _ _ (Or.inl rfl) (Option.some.inj hf) hP hS dX2_levelOf_95
            · have hf := ite_f c6 hf
              by_cases c7 : ((a0).toInt - (3)).toNat = 5
              · have hf := ite_t c7 hf
                refine lv_tableIn (tgt := 94) hx hb dX2_levelOf_1 (fun h => c1 (Or.inl h)) (fun h => c1 (Or.inr h)) (by rw [c7]; rfl) (by decide) ?_
                refine lv_iconst (v := -1) hx hb dX2_levelOf_94 kI_m1 ?_
                exact hret _ _ _ _ _ _ (Or.inl rfl) (Option.some.inj hf) hP hS dX2_levelOf_95
              · have hf := ite_f c7 hf
                by_cases c8 : ((a0).toInt - (3)).toNat = 6
                · have hf := ite_t c8 hf
                  refine lv_tableIn (tgt := 94) hx hb dX2_levelOf_1 (fun h => c1 (Or.inl h)) (fun h => c1 (Or.inr h)) (by rw [c8]; rfl) (by decide) ?_
                  refine lv_iconst (v := -1) hx hb dX2_levelOf_94 kI_m1 ?_
                  exact hret _ _ _ _ _ _ (Or.inl rfl) (Option.some.inj hf) hP hS dX2_levelOf_95
                · have hf := ite_f c8 hf
                  by_cases c9 : ((a0).toInt - (3)).toNat = 7
                  · have hf := ite_t c9 hf
                    refine lv_tableIn (tgt := 94) hx hb dX2_levelOf_1 (fun h => c1 (Or.inl h)) (fun h => c1 (Or.inr h)) (by rw [c9]; rfl) (by decide) ?_
                    refine lv_iconst (v := -1) hx hb dX2_levelOf_94 kI_m1 ?_
                    exact hret _ _ _ _ _ _ (Or.inl rfl) (Option.some.inj hf) hP hS dX2_levelOf_95
                  · have hf := ite_f c9 hf
                    by_cases c10 : ((a0).toInt - (3)).toNat = 8
                    · have hf := ite_t c10 hf
                      refine lv_tableIn (tgt := 94) hx hb dX2_levelOf_1 (fun h => c1 (Or.inl h)) (fun h => c1 (Or.inr h)) (by rw [c10]; rfl) (by decide) ?_
                      refine lv_iconst (v := -1) hx hb dX2_levelOf_94 kI_m1 ?_
                      exact hret _ _ _ _ _ _ (Or.inl rfl) (Option.some.inj hf) hP hS dX2_levelOf_95
                    · have hf := ite_f c10 hf
                      by_cases c11 : ((a0).toInt - (3)).toNat = 9
                      · have hf := ite_t c11 hf
                        refine lv_tableIn (tgt := 94) hx hb dX2_levelOf_1 (fun h => c1 (Or.inl h)) (fun h => c1 (Or.inr h)) (by rw [c11]; rfl) (by decide) ?_
                        refine lv_iconst (v := -1) hx hb dX2_levelOf_94 kI_m1 ?_
                        exact hret _ _ _ _ _ _ (Or.inl rfl) (Option.some.inj hf) hP hS dX2_levelOf_95
                      · have hf := ite_f c11 hf
                        by_cases c12 : ((a0).toInt - (3)).toNat = 10
                        · have hf := ite_t c12 hf
                          refine lv_tableIn (tgt := 94) hx hb dX2_levelOf_1 (fun h => c1 (Or.inl h)) (fun h => c1 (Or.inr h)) (by rw [c12]; rfl) (by decide) ?_
                          refine lv_iconst (v := -1) hx hb dX2_levelOf_94 kI_m1 ?_
                          exact hret _ _ _ _ _ _ (Or.inl rfl) (Option.some.inj hf) hP hS dX2_levelOf_95
                        · have hf := ite_f c12 hf
                          by_cases c13 : ((a0).toInt - (3)).toNat = 11
                          · have hf := ite_t c13 hf
                            refine lv_tableIn (tgt := 94) hx hb dX2_levelOf_1 (fun h => c1 (Or.inl h)) (fun h => c1 (Or.inr h)) (by rw [c13]; rfl) (by decide) ?_
                            refine lv_iconst (v := -1) hx hb dX2_levelOf_94 kI_m1 ?_
                            exact hret _ _ _ _ _ _ (Or.inl rfl) (Option.some.inj hf) hP hS dX2_levelOf_95
                          · have hf := ite_f c13 hf
                            by_cases c14 : ((a0).toInt - (3)).toNat = 12
                            · have hf := ite_t c14 hf
                              refine lv_tableIn (tgt := 90) hx hb dX2_levelOf_1 (fun h => c1 (Or.inl h)) (fun h => c1 (Or.inr h)) (by rw [c14]; rfl) (by decide) ?_
                              refine lv_iconst (v := 3) hx hb dX2_levelOf_90 kI_3 ?_
                              exact hret _ _ _ _ _ _ (Or.inl rfl) (Option.some.inj hf) hP hS dX2_levelOf_91
                            · have hf := ite_f c14 hf
                              by_cases c15 : ((a0).toInt - (3)).toNat = 13
                              · have hf := ite_t c15 hf
                                refine lv_tableIn (tgt := 90) hx hb dX2_levelOf_1 (fun h => c1 (Or.inl h)) (fun h => c1 (Or.inr h)) (by rw [c15]; rfl) (by decide) ?_
                                refine lv_iconst (v := 3) hx hb dX2_levelOf_90 kI_3 ?_
                                exact hret _ _ _ _ _ _ (Or.inl rfl) (Option.some.inj hf) hP hS dX2_levelOf_91
                              · have hf := ite_f c15 hf
                                by_cases c16 : ((a0).toInt - (3)).toNat = 14
                                · have hf := ite_t c16 hf
                                  refine lv_tableIn (tgt := 92) hx hb dX2_levelOf_1 (fun h => c1 (Or.inl h)) (fun h => c1 (Or.inr h)) (by rw [c16]; rfl) (by decide) ?_
                                  refine lv_iconst (v := 4) hx hb dX2_levelOf_92 kI_4 ?_
                                  exact hret _ _ _ _ _ _ (Or.inl rfl) (Option.some.inj hf) hP hS dX2_levelOf_93
                                · have hf := ite_f c16 hf
                                  by_cases c17 : ((a0).toInt - (3)).toNat = 15
                                  · have hf := ite_t c17 hf
                                    refine lv_tableIn (tgt := 88) hx hb dX2_levelOf_1 (fun h => c1 (Or.inl h)) (fun h => c1 (Or.inr h)) (by rw [c17]; rfl) (by decide) ?_
                                    refine lv_iconst (v := 2) hx hb dX2_levelOf_88 kI_2 ?_
                                    exact hret _ _ _ _ _ _ (Or.inl rfl) (Option.some.inj hf) hP hS dX2_levelOf_89
                                  · have hf := ite_f c17 hf
                                    by_cases c18 : ((a0).toInt - (3)).toNat = 16
                                    · have hf := ite_t c18 hf
                                      refine lv_tableIn (tgt := 88) hx hb dX2_levelOf_1 (fun h => c1 (Or.inl h)) (fun h => c1 (Or.inr h)) (by rw [c18]; rfl) (by decide) ?_
                                      refine lv_iconst (v := 2) hx hb dX2_levelOf_88 kI_2 ?_
                                      exact hret _ _ _ _ _ _ (Or.inl rfl) (Option.some.inj hf) hP hS dX2_levelOf_89
                                    · have hf := ite_f c18 hf
                                      exact nn_e hf
abbrev rm_X2_write : Room := { frames := 1, cells := 0, slots := 0, locals := 60 }
set_option maxRecDepth 100000 in
theorem t_X2_write (l : Launch) (v : Ev) (N : Nat) (a1 : Int32) (g : Sg) (res : Sg) (hf : x_X2_write N a1 g = some res) : Cv l yX2_write cX2_write 2 rm_X2_write pX v [.ref (zA v 3), .int a1] g res := by
  refine ze_v (by decide +kernel) (Nat.le_of_ble_eq_true rfl) ?_
  intro p e s m args below meth c Q ls hcx hret hP hl
  obtain ⟨hx, hb, hml, hown, hts, hk⟩ := hcx
  have hown : s.vm.findClass RX2 = some m.cls := hown
  have hS : va_S (An nX v) s.heap s.heap [] := va_S.rf
  have hl : lv_has ls 2 [(0, .ref (zA v 3)), (1, .int a1)] := hl
  unfold x_X2_write at hf
  refine lv_aload_n hx hb dX2_write_0 rfl (lv_at hl 0 rfl) ?_
  refine va_get (D := zD v) (ci := 1) (v := .int (g 3 7)) (C := RX2) (T := TX2) (N := 8) hx hb hts iX2 hown hk.1 hP 3 rfl rfl 7 (by decide) (hts _ fl_X2_41) (fun _ h9 => h9) rfl dX2_write_1 ?_
  refine lv_sipush (v := 160) hx hb dX2_write_4 kS_160 ?_
  refine lv_icmp_ge (tgt := 30) hx hb dX2_write_7 (by decide) (fun c1 => ?_) (fun c1 => ?_)
  · have hf := ite_t c1 hf
    exact hret _ _ _ _ _ (Option.some.inj hf) hP hS dX2_write_30
  · have hf := ite_f c1 hf
    refine lv_aload_n hx hb dX2_write_10 rfl (lv_at hl 0 rfl) ?_
    refine va_get (D := zD v) (ci := 1) (v := .ref (zA v 24)) (C := RX2) (T := TX2) (N := 8) hx hb hts iX2 hown hk.1 hP 3 rfl rfl 5 (by decide) (hts _ fl_X2_21) (fun _ h9 => h9) rfl dX2_write_11 ?_
    refine lv_aload_n hx hb dX2_write_14 rfl (lv_at hl 0 rfl) ?_
    refine va_get (D := zD v) (ci := 1) (v := .int (g 3 7)) (C := RX2) (T := TX2) (N := 8) hx hb hts iX2 hown hk.1 hP 3 rfl rfl 7 (by decide) (hts _ fl_X2_41) (fun _ h9 => h9) rfl dX2_write_15 ?_
    refine lv_iload_n hx hb dX2_write_18 rfl (lv_at hl 1 rfl) ?_
    obtain ⟨c2, hf⟩ := gd_e hf
    refine va_iast hx hb hk.1 hP (zw_D okX hk _) hS 24 0 rfl rfl (inb_in c2) dX2_write_19 (fun H locs hP1 _ hS => ?_)
    have hP : va_P (zD v) vwCl (pX.1 v (up g 24 (upd (g 24) ((g 3 7)).toNatClampNeg a1))) H := hP1
    obtain ⟨g3, eg3, hf⟩ := lt_e hf
    rw [← eg3] at hP
    refine lv_aload_n hx hb dX2_write_20 rfl (lv_at hl 0 rfl) ?_
    refine lv_dup hx hb dX2_write_21 rfl ?_
    refine va_get (D := zD v) (ci := 1) (v := .int (g3 3 7)) (C := RX2) (T := TX2) (N := 8) hx hb hts iX2 hown hk.1 hP 3 rfl rfl 7 (by decide) (hts _ fl_X2_41) (fun _ h9 => h9) rfl dX2_write_22 ?_
    refine lv_iconst (v := 1) hx hb dX2_write_25 kI_1 ?_
    refine lv_iadd hx hb dX2_write_26 ?_
    refine va_put (D := zD v) (ci := 1) (v := .int ((g3 3 7) + (1 : Int32))) (ty := .int) (C := RX2) (T := TX2) (N := 8) hx hb hts iX2 tyX2 tyX2_ok nmX2 hown hk.1 hP (zw_D okX hk _) hS 3 rfl rfl 7 (by decide) (hts _ fl_X2_41) (fun _ h9 => h9) rfl pd_I rfl rfl (Nat.le_of_ble_eq_true rfl) dX2_write_27 (fun H locs hP1 _ hS => ?_)
    have hP : va_P (zD v) vwCl (pX.1 v (up g3 3 (upd (g3 3) 7 ((g3 3 7) + (1 : Int32))))) H := hP1
    obtain ⟨g4, eg4, hf⟩ := lt_e hf
    rw [← eg4] at hP
    exact hret _ _ _ _ _ (Option.some.inj hf) hP hS dX2_write_30
set_option maxRecDepth 100000 in
theorem t_X2_expression (l : Launch) (v : Ev) (N : Nat) (rec : Nat → Int32 → Int32 → Int32 → Sg → Option (Int32 × Sg)) (d : Nat) (hr0 : ∀ (b0 b1 : Int32) (g : Sg) (res : Int32 × Sg), rec 0 b0 b1 0 g = some res → Ci l yX2_expression cX2_expression 6 .boolean (rmG 8 800 60 d) pX v [.ref (zA v 3), .int b0, .int b1] g res) (hr1 : ∀ (b0 b1 : Int32) (g : Sg) (res : Int32 × Sg), rec 1 b0 b1 0 g = some res → Ci l yX2_operand cX2_operand 3 .boolean (rmG 8 800 60 d) pX v [.ref (zA v 3), .int b0, .int b1] g res) (hr2 : ∀ (b0 : Int32) (g : Sg) (res : Int32 × Sg), rec 2 b0 0 0 g = some res → Ci l yX2_one cX2_one 3 .boolean (rmG 8 800 60 d) pX v [.ref (zA v 3), .int b0] g res) (hr3 : ∀ (b0 b1 b2 : Int32) (g : Sg) (res : Int32 × Sg), rec 3 b0 b1 b2 g = some res → Ci l yX2_prefixed cX2_prefixed 4 .boolean (rmG 8 800 60 d) pX v [.ref (zA v 3), .int b0, .int b1, .int b2] g res) (a1 : Int32) (a2 : Int32) (g : Sg) (res : Int32 × Sg) (hf : x_X2_expression N rec a1 a2 g = some res) : Ci l yX2_expression cX2_expression 6 .boolean (rmG 8 800 60 (d + 1)) pX v [.ref (zA v 3), .int a1, .int a2] g res := by
  refine ze_i (by decide +kernel) (Nat.le_of_ble_eq_true rfl) ?_
  intro p e s m args below meth c Q ls hcx hret hP hl
  obtain ⟨hx, hb, hml, hown, hts, hk⟩ := hcx
  have hown : s.vm.findClass RX2 = some m.cls := hown
  have hS : va_S (An nX v) s.heap s.heap [] := va_S.rf
  have hl : lv_has ls 6 [(0, .ref (zA v 3)), (1, .int a1), (2, .int a2)] := hl
  have wL53 : ∀ (n : Nat) (x : Int32 × Int32 × Int32 × Int32 × Sg), lp (x_X2_expression_B53 N rec) n x = some res → ∀ (H : Heap) (locs : List Loc) (ls : Array Slot), va_P (zD v) vwCl (pX.1 v x.2.2.2.2) H → va_S (An nX v) s.heap H locs → lv_has ls 6 [(0, .ref (zA v 3)), (1, .int x.1), (2, .int x.2.1), (3, .int x.2.2.1), (4, .int x.2.2.2.1)] → W p l e (rmG 8 800 60 (d + 1)) s m args below meth c H locs 0 0 Q (F0 m 53 ls []) := by
    refine lp_w (P := fun x : Int32 × Int32 × Int32 × Int32 × Sg => ∀ (H : Heap) (locs : List Loc) (ls : Array Slot), va_P (zD v) vwCl (pX.1 v x.2.2.2.2) H → va_S (An nX v) s.heap H locs → lv_has ls 6 [(0, .ref (zA v 3)), (1, .int x.1), (2, .int x.2.1), (3, .int x.2.2.1), (4, .int x.2.2.2.1)] → W p l e (rmG 8 800 60 (d + 1)) s m args below meth c H locs 0 0 Q (F0 m 53 ls [])) ?_
    intro h53 hh53 x hf H locs ls hP hS hl
    unfold x_X2_expression_B53 at hf
    refine lv_iload hx hb dX2_expression_53 (lv_at hl 4 rfl) ?_
    refine lv_iload_n hx hb dX2_expression_55 rfl (lv_at hl 3 rfl) ?_
    refine lv_icmp_ge (tgt := 119) hx hb dX2_expression_56 (by decide) (fun c5 => ?_) (fun c5 => ?_)
    · have hf := ite_t c5 hf
      refine lv_iconst (v := 1) hx hb dX2_expression_119 kI_1 ?_
      exact hret _ _ _ _ _ _ (Or.inr rfl) (Option.some.inj hf) hP hS dX2_expression_120
    · have hf := ite_f c5 hf
      refine lv_aload_n hx hb dX2_expression_59 rfl (lv_at hl 0 rfl) ?_
      refine va_get (D := zD v) (ci := 1) (v := .ref (zA v 22)) (C := RX2) (T := TX2) (N := 8) hx hb hts iX2 hown hk.1 hP 3 rfl rfl 2 (by decide) (hts _ fl_X2_15) (fun _ h9 => h9) rfl dX2_expression_60 ?_
      refine lv_aload_n hx hb dX2_expression_63 rfl (lv_at hl 0 rfl) ?_
      refine va_get (D := zD v) (ci := 1) (v := .int (x.2.2.2.2 3 4)) (C := RX2) (T := TX2) (N := 8) hx hb hts iX2 hown hk.1 hP 3 rfl rfl 4 (by decide) (hts _ fl_X2_38) (fun _ h9 => h9) rfl dX2_expression_64 ?_
      obtain ⟨c6, hf⟩ := gd_e hf
      refine va_iald hx hb hk.1 hP 22 0 rfl rfl (inb_in c6) dX2_expression_67 ?_
      obtain ⟨q7, eq7, hf⟩ := bd_e hf
      refine zki hS (zrS (As := [.int (x.2.2.2.2 22 ((x.2.2.2.2 3 4)).toNatClampNeg)]) (rest := []) okX hx hb hml hown hts hk hP hS (t_X2_levelOf l v N (x.2.2.2.2 22 ((x.2.2.2.2 3 4)).toNatClampNeg) x.2.2.2.2 _ eq7) sk_X2_levelOf ml_X2_86 rfl rfl (rmG_lo (Nat.le_of_ble_eq_true rfl) (Nat.le_of_ble_eq_true rfl)) rfl hl.1 rfl (Nat.le_of_ble_eq_true rfl) dX2_expression_68) (fun H locs hP hS => ?_)
      refine lv_iload_n hx hb dX2_expression_71 rfl (lv_at hl 1 rfl) ?_
      refine lv_icmp_ne (tgt := 119) hx hb dX2_expression_72 (by decide) (fun c8 => ?_) (fun c8 => ?_)
      · have hf := ite_f c8 hf
        refine lv_iconst (v := 1) hx hb dX2_expression_119 kI_1 ?_
        exact hret _ _ _ _ _ _ (Or.inr rfl) (Option.some.inj hf) hP hS dX2_expression_120
      · have hf := ite_t c8 hf
        refine lv_aload_n hx hb dX2_expression_75 rfl (lv_at hl 0 rfl) ?_
        refine va_get (D := zD v) (ci := 1) (v := .ref (zA v 22)) (C := RX2) (T := TX2) (N := 8) hx hb hts iX2 hown hk.1 hP 3 rfl rfl 2 (by decide) (hts _ fl_X2_15) (fun _ h9 => h9) rfl dX2_expression_76 ?_
        refine lv_aload_n hx hb dX2_expression_79 rfl (lv_at hl 0 rfl) ?_
        refine va_get (D := zD v) (ci := 1) (v := .int (q7.2 3 4)) (C := RX2) (T := TX2) (N := 8) hx hb hts iX2 hown hk.1 hP 3 rfl rfl 4 (by decide) (hts _ fl_X2_38) (fun _ h9 => h9) rfl dX2_expression_80 ?_
        obtain ⟨c9, hf⟩ := gd_e hf
        refine va_iald hx hb hk.1 hP 22 0 rfl rfl (inb_in c9) dX2_expression_83 ?_
        obtain ⟨x10, ex10, hf⟩ := lt_e hf
        refine lv_nm ex10 ?_
        refine lv_istore (lv' := [(5, .int x10), (0, .ref (zA v 3)), (1, .int x.1), (2, .int x.2.1), (3, .int x.2.2.1), (4, .int x.2.2.2.1)]) hx hb dX2_expression_84 hl (by decide) rfl (fun ls hl => ?_)
        refine lv_aload_n hx hb dX2_expression_86 rfl (lv_at hl 1 rfl) ?_
        refine lv_dup hx hb dX2_expression_87 rfl ?_
        refine va_get (D := zD v) (ci := 1) (v := .int (q7.2 3 4)) (C := RX2) (T := TX2) (N := 8) hx hb hts iX2 hown hk.1 hP 3 rfl rfl 4 (by decide) (hts _ fl_X2_38) (fun _ h9 => h9) rfl dX2_expression_88 ?_
        refine lv_iconst (v := 1) hx hb dX2_expression_91 kI_1 ?_
        refine lv_iadd hx hb dX2_expression_92 ?_
        refine va_put (D := zD v) (ci := 1) (v := .int ((q7.2 3 4) + (1 : Int32))) (ty := .int) (C := RX2) (T := TX2) (N := 8) hx hb hts iX2 tyX2 tyX2_ok nmX2 hown hk.1 hP (zw_D okX hk _) hS 3 rfl rfl 4 (by decide) (hts _ fl_X2_38) (fun _ h9 => h9) rfl pd_I rfl rfl (Nat.le_of_ble_eq_true rfl) dX2_expression_93 (fun H locs hP1 _ hS => ?_)
        have hP : va_P (zD v) vwCl (pX.1 v (up q7.2 3 (upd (q7.2 3) 4 ((q7.2 3 4) + (1 : Int32))))) H := hP1
        obtain ⟨g11, eg11, hf⟩ := lt_e hf
        rw [← eg11] at hP
        refine lv_aload_n hx hb dX2_expression_96 rfl (lv_at hl 1 rfl) ?_
        refine lv_iload_n hx hb dX2_expression_97 rfl (lv_at hl 2 rfl) ?_
        refine lv_iload_n hx hb dX2_expression_98 rfl (lv_at hl 3 rfl) ?_
        obtain ⟨q12, eq12, hf⟩ := bd_e hf
        refine zki hS (zrV (As := [.int x.1, .int x.2.1]) (rest := []) okX hx hb hml hown hts hk hP hS (hr1 x.1 x.2.1 g11 _ eq12) vk_X2_operand ml_X2_83 rfl rfl (rmG_go (by decide)) (va_recv (q := (RX2, TX2, 8)) hk.1 hP (q0 := 3) (ci := 1) rfl rfl) rfl hl.1 rfl (Nat.le_of_ble_eq_true rfl) dX2_expression_99) (fun H locs hP hS => ?_)
        refine lv_if_ne (tgt := 107) hx hb dX2_expression_102 (by decide) (fun c13 => ?_) (fun c13 => ?_)
        · have hf := ite_f c13 hf
          refine lv_aload_n hx hb dX2_expression_107 rfl (lv_at hl 1 rfl) ?_
          refine lv_iload hx hb dX2_expression_108 (lv_at hl 0 rfl) ?_
          obtain ⟨q14, eq14, hf⟩ := bd_e hf
          refine zkv hS (zrV (As := [.int x10]) (rest := []) okX hx hb hml hown hts hk hP hS (t_X2_write l v N x10 q12.2 _ eq14) vk_X2_write ml_X2_89 rfl rfl (rmG_lo (Nat.le_of_ble_eq_true rfl) (Nat.le_of_ble_eq_true rfl)) (va_recv (q := (RX2, TX2, 8)) hk.1 hP (q0 := 3) (ci := 1) rfl rfl) rfl hl.1 rfl (Nat.le_of_ble_eq_true rfl) dX2_expression_110) (fun H locs hP hS => ?_)
          obtain ⟨x15, ex15, hf⟩ := lt_e hf
          refine lv_iinc (v := x15) (lv' := [(4, .int x15), (5, .int x10), (0, .ref (zA v 3)), (1, .int x.1), (2, .int x.2.1), (3, .int x.2.2.1)]) hx hb dX2_expression_113 hl (k := 5) rfl ((congrArg (fun z => x.2.2.2.1 + z) kI_1).trans ex15.symm) (by decide) rfl (fun ls hl => ?_)
          refine lv_goto (tgt := 53) hx hb dX2_expression_116 (by decide) ?_
          exact hh53 (x.1, x.2.1, x.2.2.1, x15, q14) hf _ _ _ hP hS (lv_sub hl [2, 3, 4, 5, 0] rfl)
        · have hf := ite_t c13 hf
          refine lv_iconst (v := 0) hx hb dX2_expression_105 kI_0 ?_
          exact hret _ _ _ _ _ _ (Or.inr rfl) (Option.some.inj hf) hP hS dX2_expression_106
  have wb49 : ∀ (y1 : Int32) (y2 : Int32) (t0 : Int32) (g : Sg) (hf : x_X2_expression_b49 N rec y1 y2 t0 g = some res) (H : Heap) (locs : List Loc) (ls : Array Slot) (hP : va_P (zD v) vwCl (pX.1 v g) H) (hS : va_S (An nX v) s.heap H locs) (hl : lv_has ls 6 [(0, .ref (zA v 3)), (1, .int y1), (2, .int y2)]), W p l e (rmG 8 800 60 (d + 1)) s m args below meth c H locs 0 0 Q (F0 m 49 ls [.int t0]) := by
    intro y1 y2 t0 g hf H locs ls hP hS hl
    unfold x_X2_expression_b49 at hf
    refine lv_istore_n (lv' := [(3, .int t0), (0, .ref (zA v 3)), (1, .int y1), (2, .int y2)]) hx hb dX2_expression_49 rfl hl (by decide) rfl (fun ls hl => ?_)
    refine lv_iconst (v := 0) hx hb dX2_expression_50 kI_0 ?_
    refine lv_istore (lv' := [(4, .int (0 : Int32)), (3, .int t0), (0, .ref (zA v 3)), (1, .int y1), (2, .int y2)]) hx hb dX2_expression_51 hl (by decide) rfl (fun ls hl => ?_)
    exact wL53 N (y1, y2, t0, (0 : Int32), g) hf _ _ _ hP hS (lv_sub hl [2, 3, 4, 1, 0] rfl)
  have wb26 : ∀ (y1 : Int32) (y2 : Int32) (g : Sg) (hf : x_X2_expression_b26 N rec y1 y2 g = some res) (H : Heap) (locs : List Loc) (ls : Array Slot) (hP : va_P (zD v) vwCl (pX.1 v g) H) (hS : va_S (An nX v) s.heap H locs) (hl : lv_has ls 6 [(0, .ref (zA v 3)), (1, .int y1), (2, .int y2)]), W p l e (rmG 8 800 60 (d + 1)) s m args below meth c H locs 0 0 Q (F0 m 26 ls []) := by
    intro y1 y2 g hf H locs ls hP hS hl
    unfold x_X2_expression_b26 at hf
    refine lv_aload_n hx hb dX2_expression_26 rfl (lv_at hl 0 rfl) ?_
    refine lv_iload_n hx hb dX2_expression_27 rfl (lv_at hl 1 rfl) ?_
    refine lv_iload_n hx hb dX2_expression_28 rfl (lv_at hl 2 rfl) ?_
    obtain ⟨q2, eq2, hf⟩ := bd_e hf
    refine zki hS (zrV (As := [.int y1, .int y2]) (rest := []) okX hx hb hml hown hts hk hP hS (hr1 y1 y2 g _ eq2) vk_X2_operand ml_X2_83 rfl rfl (rmG_go (by decide)) (va_recv (q := (RX2, TX2, 8)) hk.1 hP (q0 := 3) (ci := 1) rfl rfl) rfl hl.1 rfl (Nat.le_of_ble_eq_true rfl) dX2_expression_29) (fun H locs hP hS => ?_)
    refine lv_if_ne (tgt := 37) hx hb dX2_expression_32 (by decide) (fun c3 => ?_) (fun c3 => ?_)
    · have hf := ite_f c3 hf
      refine lv_iload_n hx hb dX2_expression_37 rfl (lv_at hl 1 rfl) ?_
      refine lv_iconst (v := 2) hx hb dX2_expression_38 kI_2 ?_
      refine lv_icmp_ne (tgt := 46) hx hb dX2_expression_39 (by decide) (fun c4 => ?_) (fun c4 => ?_)
      · have hf := ite_f c4 hf
        refine lv_sipush (v := 160) hx hb dX2_expression_46 kS_160 ?_
        exact wb49 y1 y2 (160 : Int32) q2.2 hf _ _ _ hP hS (lv_sub hl [0, 1, 2] rfl)
      · have hf := ite_t c4 hf
        refine lv_iconst (v := 1) hx hb dX2_expression_42 kI_1 ?_
        refine lv_goto (tgt := 49) hx hb dX2_expression_43 (by decide) ?_
        exact wb49 y1 y2 (1 : Int32) q2.2 hf _ _ _ hP hS (lv_sub hl [0, 1, 2] rfl)
    · have hf := ite_t c3 hf
      refine lv_iconst (v := 0) hx hb dX2_expression_35 kI_0 ?_
      exact hret _ _ _ _ _ _ (Or.inr rfl) (Option.some.inj hf) hP hS dX2_expression_36
  unfold x_X2_expression at hf
  refine lv_iload_n hx hb dX2_expression_0 rfl (lv_at hl 1 rfl) ?_
  refine lv_iconst (v := 2) hx hb dX2_expression_1 kI_2 ?_
  refine lv_icmp_ne (tgt := 26) hx hb dX2_expression_2 (by decide) (fun c1 => ?_) (fun c1 => ?_)
  · have hf := ite_f c1 hf
    exact wb26 a1 a2 g hf _ _ _ hP hS (lv_sub hl [0, 1, 2] rfl)
  · have hf := ite_t c1 hf
    refine lv_aload_n hx hb dX2_expression_5 rfl (lv_at hl 0 rfl) ?_
    refine va_get (D := zD v) (ci := 1) (v := .ref (zA v 22)) (C := RX2) (T := TX2) (N := 8) hx hb hts iX2 hown hk.1 hP 3 rfl rfl 2 (by decide) (hts _ fl_X2_15) (fun _ h9 => h9) rfl dX2_expression_6 ?_
    refine lv_aload_n hx hb dX2_expression_9 rfl (lv_at hl 0 rfl) ?_
    refine va_get (D := zD v) (ci := 1) (v := .int (g 3 4)) (C := RX2) (T := TX2) (N := 8) hx hb hts iX2 hown hk.1 hP 3 rfl rfl 4 (by decide) (hts _ fl_X2_38) (fun _ h9 => h9) rfl dX2_expression_10 ?_
    obtain ⟨c16, hf⟩ := gd_e hf
    refine va_iald hx hb hk.1 hP 22 0 rfl rfl (inb_in c16) dX2_expression_13 ?_
    refine lv_iconst (v := 5) hx hb dX2_expression_14 kI_5 ?_
    refine lv_icmp_ne (tgt := 26) hx hb dX2_expression_15 (by decide) (fun c17 => ?_) (fun c17 => ?_)
    · have hf := ite_f c17 hf
      exact wb26 a1 a2 g hf _ _ _ hP hS (lv_sub hl [0, 1, 2] rfl)
    · have hf := ite_t c17 hf
      refine lv_aload_n hx hb dX2_expression_18 rfl (lv_at hl 0 rfl) ?_
      refine lv_iconst (v := 5) hx hb dX2_expression_19 kI_5 ?_
      refine lv_iconst (v := 1) hx hb dX2_expression_20 kI_1 ?_
      refine lv_iload_n hx hb dX2_expression_21 rfl (lv_at hl 2 rfl) ?_
      obtain ⟨q18, eq18, hf⟩ := bd_e hf
      refine zki hS (zrV (As := [.int (5 : Int32), .int (1 : Int32), .int a2]) (rest := []) okX hx hb hml hown hts hk hP hS (hr3 (5 : Int32) (1 : Int32) a2 g _ eq18) vk_X2_prefixed ml_X2_79 rfl rfl (rmG_go (by decide)) (va_recv (q := (RX2, TX2, 8)) hk.1 hP (q0 := 3) (ci := 1) rfl rfl) rfl hl.1 rfl (Nat.le_of_ble_eq_true rfl) dX2_expression_22) (fun H locs hP hS => ?_)
      obtain ⟨c19, hf⟩ := gd_e hf
      exact hret _ _ _ _ _ _ (Or.inr (nb01 c19)) (Option.some.inj hf) hP hS dX2_expression_25
set_option maxRecDepth 100000 in
theorem t_X2_operand (l : Launch) (v : Ev) (N : Nat) (rec : Nat → Int32 → Int32 → Int32 → Sg → Option (Int32 × Sg)) (d : Nat) (hr0 : ∀ (b0 b1 : Int32) (g : Sg) (res : Int32 × Sg), rec 0 b0 b1 0 g = some res → Ci l yX2_expression cX2_expression 6 .boolean (rmG 8 800 60 d) pX v [.ref (zA v 3), .int b0, .int b1] g res) (hr1 : ∀ (b0 b1 : Int32) (g : Sg) (res : Int32 × Sg), rec 1 b0 b1 0 g = some res → Ci l yX2_operand cX2_operand 3 .boolean (rmG 8 800 60 d) pX v [.ref (zA v 3), .int b0, .int b1] g res) (hr2 : ∀ (b0 : Int32) (g : Sg) (res : Int32 × Sg), rec 2 b0 0 0 g = some res → Ci l yX2_one cX2_one 3 .boolean (rmG 8 800 60 d) pX v [.ref (zA v 3), .int b0] g res) (hr3 : ∀ (b0 b1 b2 : Int32) (g : Sg) (res : Int32 × Sg), rec 3 b0 b1 b2 g = some res → Ci l yX2_prefixed cX2_prefixed 4 .boolean (rmG 8 800 60 d) pX v [.ref (zA v 3), .int b0, .int b1, .int b2] g res) (a1 : Int32) (a2 : Int32) (g : Sg) (res : Int32 × Sg) (hf : x_X2_operand N rec a1 a2 g = some res) : Ci l yX2_operand cX2_operand 3 .boolean (rmG 8 800 60 (d + 1)) pX v [.ref (zA v 3), .int a1, .int a2] g res := by
  refine ze_i (by decide +kernel) (Nat.le_of_ble_eq_true rfl) ?_
  intro p e s m args below meth c Q ls hcx hret hP hl
  obtain ⟨hx, hb, hml, hown, hts, hk⟩ := hcx
  have hown : s.vm.findClass RX2 = some m.cls := hown
  have hS : va_S (An nX v) s.heap s.heap [] := va_S.rf
  have hl : lv_has ls 3 [(0, .ref (zA v 3)), (1, .int a1), (2, .int a2)] := hl
  unfold x_X2_operand at hf
  refine lv_iload_n hx hb dX2_operand_0 rfl (lv_at hl 1 rfl) ?_
  refine lv_iconst (v := 4) hx hb dX2_operand_1 kI_4 ?_
  refine lv_icmp_lt (tgt := 13) hx hb dX2_operand_2 (by decide) (fun c1 => ?_) (fun c1 => ?_)
  · have hf := ite_t c1 hf
    refine lv_aload_n hx hb dX2_operand_13 rfl (lv_at hl 0 rfl) ?_
    refine lv_iload_n hx hb dX2_operand_14 rfl (lv_at hl 1 rfl) ?_
    refine lv_iconst (v := 1) hx hb dX2_operand_15 kI_1 ?_
    refine lv_iadd hx hb dX2_operand_16 ?_
    refine lv_iload_n hx hb dX2_operand_17 rfl (lv_at hl 2 rfl) ?_
    obtain ⟨q2, eq2, hf⟩ := bd_e hf
    refine zki hS (zrV (As := [.int (a1 + (1 : Int32)), .int a2]) (rest := []) okX hx hb hml hown hts hk hP hS (hr0 (a1 + (1 : Int32)) a2 g _ eq2) vk_X2_expression ml_X2_48 rfl rfl (rmG_go (by decide)) (va_recv (q := (RX2, TX2, 8)) hk.1 hP (q0 := 3) (ci := 1) rfl rfl) rfl hl.1 rfl (Nat.le_of_ble_eq_true rfl) dX2_operand_18) (fun H locs hP hS => ?_)
    obtain ⟨c3, hf⟩ := gd_e hf
    exact hret _ _ _ _ _ _ (Or.inr (nb01 c3)) (Option.some.inj hf) hP hS dX2_operand_21
  · have hf := ite_f c1 hf
    refine lv_aload_n hx hb dX2_operand_5 rfl (lv_at hl 0 rfl) ?_
    refine lv_iload_n hx hb dX2_operand_6 rfl (lv_at hl 2 rfl) ?_
    obtain ⟨q4, eq4, hf⟩ := bd_e hf
    refine zki hS (zrV (As := [.int a2]) (rest := []) okX hx hb hml hown hts hk hP hS (hr2 a2 g _ eq4) vk_X2_one ml_X2_93 rfl rfl (rmG_go (by decide)) (va_recv (q := (RX2, TX2, 8)) hk.1 hP (q0 := 3) (ci := 1) rfl rfl) rfl hl.1 rfl (Nat.le_of_ble_eq_true rfl) dX2_operand_7) (fun H locs hP hS => ?_)
    refine lv_goto (tgt := 21) hx hb dX2_operand_10 (by decide) ?_
    obtain ⟨c5, hf⟩ := gd_e hf
    exact hret _ _ _ _ _ _ (Or.inr (nb01 c5)) (Option.some.inj hf) hP hS dX2_operand_21
set_option maxRecDepth 100000 in
theorem t_X2_one (l : Launch) (v : Ev) (N : Nat) (rec : Nat → Int32 → Int32 → Int32 → Sg → Option (Int32 × Sg)) (d : Nat) (hr0 : ∀ (b0 b1 : Int32) (g : Sg) (res : Int32 × Sg), rec 0 b0 b1 0 g = some res → Ci l yX2_expression cX2_expression 6 .boolean (rmG 8 800 60 d) pX v [.ref (zA v 3), .int b0, .int b1] g res) (hr1 : ∀ (b0 b1 : Int32) (g : Sg) (res : Int32 × Sg), rec 1 b0 b1 0 g = some res → Ci l yX2_operand cX2_operand 3 .boolean (rmG 8 800 60 d) pX v [.ref (zA v 3), .int b0, .int b1] g res) (hr2 : ∀ (b0 : Int32) (g : Sg) (res : Int32 × Sg), rec 2 b0 0 0 g = some res → Ci l yX2_one cX2_one 3 .boolean (rmG 8 800 60 d) pX v [.ref (zA v 3), .int b0] g res) (hr3 : ∀ (b0 b1 b2 : Int32) (g : Sg) (res : Int32 × Sg), rec 3 b0 b1 b2 g = some res → Ci l yX2_prefixed cX2_prefixed 4 .boolean (rmG 8 800 60 d) pX v [.ref (zA v 3), .int b0, .int b1, .int b2] g res) (a1 : Int32) (g : Sg) (res : Int32 × Sg) (hf : x_X2_one N rec a1 g = some res) : Ci l yX2_one cX2_one 3 .boolean (rmG 8 800 60 (d + 1)) pX v [.ref (zA v 3), .int a1] g res := by
  refine ze_i (by decide +kernel) (Nat.le_of_ble_eq_true rfl) ?_
  intro p e s m args below meth c Q ls hcx hret hP hl
  obtain ⟨hx, hb, hml, hown, hts, hk⟩ := hcx
  have hown : s.vm.findClass RX2 = some m.cls := hown
  have hS : va_S (An nX v) s.heap s.heap [] := va_S.rf
  have hl : lv_has ls 3 [(0, .ref (zA v 3)), (1, .int a1)] := hl
  have wb28 : ∀ (y2 : Int32) (g : Sg) (hf : x_X2_one_b28 N rec y2 g = some res) (H : Heap) (locs : List Loc) (ls : Array Slot) (hP : va_P (zD v) vwCl (pX.1 v g) H) (hS : va_S (An nX v) s.heap H locs) (hl : lv_has ls 3 [(0, .ref (zA v 3)), (2, .int y2)]), W p l e (rmG 8 800 60 (d + 1)) s m args below meth c H locs 0 0 Q (F0 m 28 ls []) := by
    intro y2 g hf H locs ls hP hS hl
    unfold x_X2_one_b28 at hf
    refine lv_aload_n hx hb dX2_one_28 rfl (lv_at hl 0 rfl) ?_
    refine lv_dup hx hb dX2_one_29 rfl ?_
    refine va_get (D := zD v) (ci := 1) (v := .int (g 3 4)) (C := RX2) (T := TX2) (N := 8) hx hb hts iX2 hown hk.1 hP 3 rfl rfl 4 (by decide) (hts _ fl_X2_38) (fun _ h9 => h9) rfl dX2_one_30 ?_
    refine lv_iconst (v := 1) hx hb dX2_one_33 kI_1 ?_
    refine lv_iadd hx hb dX2_one_34 ?_
    refine va_put (D := zD v) (ci := 1) (v := .int ((g 3 4) + (1 : Int32))) (ty := .int) (C := RX2) (T := TX2) (N := 8) hx hb hts iX2 tyX2 tyX2_ok nmX2 hown hk.1 hP (zw_D okX hk _) hS 3 rfl rfl 4 (by decide) (hts _ fl_X2_38) (fun _ h9 => h9) rfl pd_I rfl rfl (Nat.le_of_ble_eq_true rfl) dX2_one_35 (fun H locs hP1 _ hS => ?_)
    have hP : va_P (zD v) vwCl (pX.1 v (up g 3 (upd (g 3) 4 ((g 3 4) + (1 : Int32))))) H := hP1
    obtain ⟨g4, eg4, hf⟩ := lt_e hf
    rw [← eg4] at hP
    refine lv_aload_n hx hb dX2_one_38 rfl (lv_at hl 0 rfl) ?_
    refine lv_iload_n hx hb dX2_one_39 rfl (lv_at hl 1 rfl) ?_
    obtain ⟨q5, eq5, hf⟩ := bd_e hf
    refine zkv hS (zrV (As := [.int y2]) (rest := []) okX hx hb hml hown hts hk hP hS (t_X2_write l v N y2 g4 _ eq5) vk_X2_write ml_X2_89 rfl rfl (rmG_lo (Nat.le_of_ble_eq_true rfl) (Nat.le_of_ble_eq_true rfl)) (va_recv (q := (RX2, TX2, 8)) hk.1 hP (q0 := 3) (ci := 1) rfl rfl) rfl hl.1 rfl (Nat.le_of_ble_eq_true rfl) dX2_one_40) (fun H locs hP hS => ?_)
    refine lv_iconst (v := 1) hx hb dX2_one_43 kI_1 ?_
    exact hret _ _ _ _ _ _ (Or.inr rfl) (Option.some.inj hf) hP hS dX2_one_44
  have wb45 : ∀ (y1 : Int32) (y2 : Int32) (g : Sg) (hf : x_X2_one_b45 N rec y1 y2 g = some res) (H : Heap) (locs : List Loc) (ls : Array Slot) (hP : va_P (zD v) vwCl (pX.1 v g) H) (hS : va_S (An nX v) s.heap H locs) (hl : lv_has ls 3 [(0, .ref (zA v 3)), (1, .int y1), (2, .int y2)]), W p l e (rmG 8 800 60 (d + 1)) s m args below meth c H locs 0 0 Q (F0 m 45 ls []) := by
    intro y1 y2 g hf H locs ls hP hS hl
    unfold x_X2_one_b45 at hf
    refine lv_iload_n hx hb dX2_one_45 rfl (lv_at hl 2 rfl) ?_
    refine lv_bipush (v := 16) hx hb dX2_one_46 kB_16 ?_
    refine lv_icmp_ne (tgt := 60) hx hb dX2_one_48 (by decide) (fun c7 => ?_) (fun c7 => ?_)
    · have hf := ite_f c7 hf
      refine lv_iload_n hx hb dX2_one_60 rfl (lv_at hl 2 rfl) ?_
      refine lv_bipush (v := 12) hx hb dX2_one_61 kB_12 ?_
      refine lv_icmp_ne (tgt := 71) hx hb dX2_one_63 (by decide) (fun c8 => ?_) (fun c8 => ?_)
      · have hf := ite_f c8 hf
        refine lv_iconst (v := 0) hx hb dX2_one_71 kI_0 ?_
        exact hret _ _ _ _ _ _ (Or.inr rfl) (Option.some.inj hf) hP hS dX2_one_72
      · have hf := ite_t c8 hf
        refine lv_iload_n hx hb dX2_one_66 rfl (lv_at hl 1 rfl) ?_
        refine lv_iconst (v := 5) hx hb dX2_one_67 kI_5 ?_
        refine lv_icmp_lt (tgt := 73) hx hb dX2_one_68 (by decide) (fun c9 => ?_) (fun c9 => ?_)
        · have hf := ite_t c9 hf
          refine lv_aload_n hx hb dX2_one_73 rfl (lv_at hl 0 rfl) ?_
          refine lv_dup hx hb dX2_one_74 rfl ?_
          refine va_get (D := zD v) (ci := 1) (v := .int (g 3 4)) (C := RX2) (T := TX2) (N := 8) hx hb hts iX2 hown hk.1 hP 3 rfl rfl 4 (by decide) (hts _ fl_X2_38) (fun _ h9 => h9) rfl dX2_one_75 ?_
          refine lv_iconst (v := 1) hx hb dX2_one_78 kI_1 ?_
          refine lv_iadd hx hb dX2_one_79 ?_
          refine va_put (D := zD v) (ci := 1) (v := .int ((g 3 4) + (1 : Int32))) (ty := .int) (C := RX2) (T := TX2) (N := 8) hx hb hts iX2 tyX2 tyX2_ok nmX2 hown hk.1 hP (zw_D okX hk _) hS 3 rfl rfl 4 (by decide) (hts _ fl_X2_38) (fun _ h9 => h9) rfl pd_I rfl rfl (Nat.le_of_ble_eq_true rfl) dX2_one_80 (fun H locs hP1 _ hS => ?_)
          have hP : va_P (zD v) vwCl (pX.1 v (up g 3 (upd (g 3) 4 ((g 3 4) + (1 : Int32))))) H := hP1
          obtain ⟨g10, eg10, hf⟩ := lt_e hf
          rw [← eg10] at hP
          refine lv_aload_n hx hb dX2_one_83 rfl (lv_at hl 0 rfl) ?_
          refine lv_iconst (v := 0) hx hb dX2_one_84 kI_0 ?_
          refine lv_iload_n hx hb dX2_one_85 rfl (lv_at hl 1 rfl) ?_
          refine lv_iconst (v := 1) hx hb dX2_one_86 kI_1 ?_
          refine lv_iadd hx hb dX2_one_87 ?_
          obtain ⟨q11, eq11, hf⟩ := bd_e hf
          refine zki hS (zrV (As := [.int (0 : Int32), .int (y1 + (1 : Int32))]) (rest := []) okX hx hb hml hown hts hk hP hS (hr0 (0 : Int32) (y1 + (1 : Int32)) g10 _ eq11) vk_X2_expression ml_X2_48 rfl rfl (rmG_go (by decide)) (va_recv (q := (RX2, TX2, 8)) hk.1 hP (q0 := 3) (ci := 1) rfl rfl) rfl hl.1 rfl (Nat.le_of_ble_eq_true rfl) dX2_one_88) (fun H locs hP hS => ?_)
          refine lv_if_eq (tgt := 107) hx hb dX2_one_91 (by decide) (fun c12 => ?_) (fun c12 => ?_)
          · have hf := ite_t c12 hf
            refine lv_iconst (v := 0) hx hb dX2_one_107 kI_0 ?_
            exact hret _ _ _ _ _ _ (Or.inr rfl) (Option.some.inj hf) hP hS dX2_one_108
          · have hf := ite_f c12 hf
            refine lv_aload_n hx hb dX2_one_94 rfl (lv_at hl 0 rfl) ?_
            refine lv_bipush (v := 13) hx hb dX2_one_95 kB_13 ?_
            obtain ⟨q13, eq13, hf⟩ := bd_e hf
            refine zki hS (zrV (As := [.int (13 : Int32)]) (rest := []) okX hx hb hml hown hts hk hP hS (t_X2_pass l v N (13 : Int32) q11.2 _ eq13) vk_X2_pass ml_X2_44 rfl rfl (rmG_lo (Nat.le_of_ble_eq_true rfl) (Nat.le_of_ble_eq_true rfl)) (va_recv (q := (RX2, TX2, 8)) hk.1 hP (q0 := 3) (ci := 1) rfl rfl) rfl hl.1 rfl (Nat.le_of_ble_eq_true rfl) dX2_one_97) (fun H locs hP hS => ?_)
            refine lv_if_eq (tgt := 107) hx hb dX2_one_100 (by decide) (fun c14 => ?_) (fun c14 => ?_)
            · have hf := ite_t c14 hf
              refine lv_iconst (v := 0) hx hb dX2_one_107 kI_0 ?_
              exact hret _ _ _ _ _ _ (Or.inr rfl) (Option.some.inj hf) hP hS dX2_one_108
            · have hf := ite_f c14 hf
              refine lv_iconst (v := 1) hx hb dX2_one_103 kI_1 ?_
              refine lv_goto (tgt := 108) hx hb dX2_one_104 (by decide) ?_
              exact hret _ _ _ _ _ _ (Or.inr rfl) (Option.some.inj hf) hP hS dX2_one_108
        · have hf := ite_f c9 hf
          refine lv_iconst (v := 0) hx hb dX2_one_71 kI_0 ?_
          exact hret _ _ _ _ _ _ (Or.inr rfl) (Option.some.inj hf) hP hS dX2_one_72
    · have hf := ite_t c7 hf
      refine lv_aload_n hx hb dX2_one_51 rfl (lv_at hl 0 rfl) ?_
      refine lv_bipush (v := 22) hx hb dX2_one_52 kB_22 ?_
      refine lv_iconst (v := 4) hx hb dX2_one_54 kI_4 ?_
      refine lv_iload_n hx hb dX2_one_55 rfl (lv_at hl 1 rfl) ?_
      obtain ⟨q15, eq15, hf⟩ := bd_e hf
      refine zki hS (zrV (As := [.int (22 : Int32), .int (4 : Int32), .int y1]) (rest := []) okX hx hb hml hown hts hk hP hS (hr3 (22 : Int32) (4 : Int32) y1 g _ eq15) vk_X2_prefixed ml_X2_79 rfl rfl (rmG_go (by decide)) (va_recv (q := (RX2, TX2, 8)) hk.1 hP (q0 := 3) (ci := 1) rfl rfl) rfl hl.1 rfl (Nat.le_of_ble_eq_true rfl) dX2_one_56) (fun H locs hP hS => ?_)
      obtain ⟨c16, hf⟩ := gd_e hf
      exact hret _ _ _ _ _ _ (Or.inr (nb01 c16)) (Option.some.inj hf) hP hS dX2_one_59
  unfold x_X2_one at hf
  refine lv_aload_n hx hb dX2_one_0 rfl (lv_at hl 0 rfl) ?_
  refine va_get (D := zD v) (ci := 1) (v := .ref (zA v 22)) (C := RX2) (T := TX2) (N := 8) hx hb hts iX2 hown hk.1 hP 3 rfl rfl 2 (by decide) (hts _ fl_X2_15) (fun _ h9 => h9) rfl dX2_one_1 ?_
  refine lv_aload_n hx hb dX2_one_4 rfl (lv_at hl 0 rfl) ?_
  refine va_get (D := zD v) (ci := 1) (v := .int (g 3 4)) (C := RX2) (T := TX2) (N := 8) hx hb hts iX2 hown hk.1 hP 3 rfl rfl 4 (by decide) (hts _ fl_X2_38) (fun _ h9 => h9) rfl dX2_one_5 ?_
  obtain ⟨c1, hf⟩ := gd_e hf
  refine va_iald hx hb hk.1 hP 22 0 rfl rfl (inb_in c1) dX2_one_8 ?_
  obtain ⟨x2, ex2, hf⟩ := lt_e hf
  refine lv_nm ex2 ?_
  refine lv_istore_n (lv' := [(2, .int x2), (0, .ref (zA v 3)), (1, .int a1)]) hx hb dX2_one_9 rfl hl (by decide) rfl (fun ls hl => ?_)
  refine lv_iload_n hx hb dX2_one_10 rfl (lv_at hl 0 rfl) ?_
  refine lv_bipush (v := 100) hx hb dX2_one_11 kB_100 ?_
  refine lv_icmp_ge (tgt := 28) hx hb dX2_one_13 (by decide) (fun c3 => ?_) (fun c3 => ?_)
  · have hf := ite_t c3 hf
    exact wb28 x2 g hf _ _ _ hP hS (lv_sub hl [1, 0] rfl)
  · have hf := ite_f c3 hf
    refine lv_iload_n hx hb dX2_one_16 rfl (lv_at hl 0 rfl) ?_
    refine lv_bipush (v := 6) hx hb dX2_one_17 kB_6 ?_
    refine lv_icmp_lt (tgt := 45) hx hb dX2_one_19 (by decide) (fun c6 => ?_) (fun c6 => ?_)
    · have hf := ite_t c6 hf
      exact wb45 a1 x2 g hf _ _ _ hP hS (lv_sub hl [1, 2, 0] rfl)
    · have hf := ite_f c6 hf
      refine lv_iload_n hx hb dX2_one_22 rfl (lv_at hl 0 rfl) ?_
      refine lv_bipush (v := 12) hx hb dX2_one_23 kB_12 ?_
      refine lv_icmp_ge (tgt := 45) hx hb dX2_one_25 (by decide) (fun c17 => ?_) (fun c17 => ?_)
      · have hf := ite_t c17 hf
        exact wb45 a1 x2 g hf _ _ _ hP hS (lv_sub hl [1, 2, 0] rfl)
      · have hf := ite_f c17 hf
        exact wb28 x2 g hf _ _ _ hP hS (lv_sub hl [1, 0] rfl)
set_option maxRecDepth 100000 in
theorem t_X2_prefixed (l : Launch) (v : Ev) (N : Nat) (rec : Nat → Int32 → Int32 → Int32 → Sg → Option (Int32 × Sg)) (d : Nat) (hr0 : ∀ (b0 b1 : Int32) (g : Sg) (res : Int32 × Sg), rec 0 b0 b1 0 g = some res → Ci l yX2_expression cX2_expression 6 .boolean (rmG 8 800 60 d) pX v [.ref (zA v 3), .int b0, .int b1] g res) (hr1 : ∀ (b0 b1 : Int32) (g : Sg) (res : Int32 × Sg), rec 1 b0 b1 0 g = some res → Ci l yX2_operand cX2_operand 3 .boolean (rmG 8 800 60 d) pX v [.ref (zA v 3), .int b0, .int b1] g res) (hr2 : ∀ (b0 : Int32) (g : Sg) (res : Int32 × Sg), rec 2 b0 0 0 g = some res → Ci l yX2_one cX2_one 3 .boolean (rmG 8 800 60 d) pX v [.ref (zA v 3), .int b0] g res) (hr3 : ∀ (b0 b1 b2 : Int32) (g : Sg) (res : Int32 × Sg), rec 3 b0 b1 b2 g = some res → Ci l yX2_prefixed cX2_prefixed 4 .boolean (rmG 8 800 60 d) pX v [.ref (zA v 3), .int b0, .int b1, .int b2] g res) (a1 : Int32) (a2 : Int32) (a3 : Int32) (g : Sg) (res : Int32 × Sg) (hf : x_X2_prefixed N rec a1 a2 a3 g = some res) : Ci l yX2_prefixed cX2_prefixed 4 .boolean (rmG 8 800 60 (d + 1)) pX v [.ref (zA v 3), .int a1, .int a2, .int a3] g res := by
  refine ze_i (by decide +kernel) (Nat.le_of_ble_eq_true rfl) ?_
  intro p e s m args below meth c Q ls hcx hret hP hl
  obtain ⟨hx, hb, hml, hown, hts, hk⟩ := hcx
  have hown : s.vm.findClass RX2 = some m.cls := hown
  have hS : va_S (An nX v) s.heap s.heap [] := va_S.rf
  have hl : lv_has ls 4 [(0, .ref (zA v 3)), (1, .int a1), (2, .int a2), (3, .int a3)] := hl
  unfold x_X2_prefixed at hf
  refine lv_iload_n hx hb dX2_prefixed_0 rfl (lv_at hl 3 rfl) ?_
  refine lv_iconst (v := 5) hx hb dX2_prefixed_1 kI_5 ?_
  refine lv_icmp_lt (tgt := 7) hx hb dX2_prefixed_2 (by decide) (fun c1 => ?_) (fun c1 => ?_)
  · have hf := ite_t c1 hf
    refine lv_aload_n hx hb dX2_prefixed_7 rfl (lv_at hl 0 rfl) ?_
    refine lv_dup hx hb dX2_prefixed_8 rfl ?_
    refine va_get (D := zD v) (ci := 1) (v := .int (g 3 4)) (C := RX2) (T := TX2) (N := 8) hx hb hts iX2 hown hk.1 hP 3 rfl rfl 4 (by decide) (hts _ fl_X2_38) (fun _ h9 => h9) rfl dX2_prefixed_9 ?_
    refine lv_iconst (v := 1) hx hb dX2_prefixed_12 kI_1 ?_
    refine lv_iadd hx hb dX2_prefixed_13 ?_
    refine va_put (D := zD v) (ci := 1) (v := .int ((g 3 4) + (1 : Int32))) (ty := .int) (C := RX2) (T := TX2) (N := 8) hx hb hts iX2 tyX2 tyX2_ok nmX2 hown hk.1 hP (zw_D okX hk _) hS 3 rfl rfl 4 (by decide) (hts _ fl_X2_38) (fun _ h9 => h9) rfl pd_I rfl rfl (Nat.le_of_ble_eq_true rfl) dX2_prefixed_14 (fun H locs hP1 _ hS => ?_)
    have hP : va_P (zD v) vwCl (pX.1 v (up g 3 (upd (g 3) 4 ((g 3 4) + (1 : Int32))))) H := hP1
    obtain ⟨g2, eg2, hf⟩ := lt_e hf
    rw [← eg2] at hP
    refine lv_aload_n hx hb dX2_prefixed_17 rfl (lv_at hl 0 rfl) ?_
    refine lv_iload_n hx hb dX2_prefixed_18 rfl (lv_at hl 2 rfl) ?_
    refine lv_iload_n hx hb dX2_prefixed_19 rfl (lv_at hl 3 rfl) ?_
    refine lv_iconst (v := 1) hx hb dX2_prefixed_20 kI_1 ?_
    refine lv_iadd hx hb dX2_prefixed_21 ?_
    obtain ⟨q3, eq3, hf⟩ := bd_e hf
    refine zki hS (zrV (As := [.int a2, .int (a3 + (1 : Int32))]) (rest := []) okX hx hb hml hown hts hk hP hS (hr1 a2 (a3 + (1 : Int32)) g2 _ eq3) vk_X2_operand ml_X2_83 rfl rfl (rmG_go (by decide)) (va_recv (q := (RX2, TX2, 8)) hk.1 hP (q0 := 3) (ci := 1) rfl rfl) rfl hl.1 rfl (Nat.le_of_ble_eq_true rfl) dX2_prefixed_22) (fun H locs hP hS => ?_)
    refine lv_if_ne (tgt := 30) hx hb dX2_prefixed_25 (by decide) (fun c4 => ?_) (fun c4 => ?_)
    · have hf := ite_f c4 hf
      refine lv_aload_n hx hb dX2_prefixed_30 rfl (lv_at hl 0 rfl) ?_
      refine lv_iload_n hx hb dX2_prefixed_31 rfl (lv_at hl 1 rfl) ?_
      obtain ⟨q5, eq5, hf⟩ := bd_e hf
      refine zkv hS (zrV (As := [.int a1]) (rest := []) okX hx hb hml hown hts hk hP hS (t_X2_write l v N a1 q3.2 _ eq5) vk_X2_write ml_X2_89 rfl rfl (rmG_lo (Nat.le_of_ble_eq_true rfl) (Nat.le_of_ble_eq_true rfl)) (va_recv (q := (RX2, TX2, 8)) hk.1 hP (q0 := 3) (ci := 1) rfl rfl) rfl hl.1 rfl (Nat.le_of_ble_eq_true rfl) dX2_prefixed_32) (fun H locs hP hS => ?_)
      refine lv_iconst (v := 1) hx hb dX2_prefixed_35 kI_1 ?_
      exact hret _ _ _ _ _ _ (Or.inr rfl) (Option.some.inj hf) hP hS dX2_prefixed_36
    · have hf := ite_t c4 hf
      refine lv_iconst (v := 0) hx hb dX2_prefixed_28 kI_0 ?_
      exact hret _ _ _ _ _ _ (Or.inr rfl) (Option.some.inj hf) hP hS dX2_prefixed_29
  · have hf := ite_f c1 hf
    refine lv_iconst (v := 0) hx hb dX2_prefixed_5 kI_0 ?_
    exact hret _ _ _ _ _ _ (Or.inr rfl) (Option.some.inj hf) hP hS dX2_prefixed_6
theorem tg_R_all (l : Launch) (v : Ev) (N : Nat) : ∀ d : Nat, (∀ (b0 b1 : Int32) (g : Sg) (res : Int32 × Sg), gr_R N d 0 b0 b1 0 g = some res → Ci l yX2_expression cX2_expression 6 .boolean (rmG 8 800 60 d) pX v [.ref (zA v 3), .int b0, .int b1] g res) ∧ (∀ (b0 b1 : Int32) (g : Sg) (res : Int32 × Sg), gr_R N d 1 b0 b1 0 g = some res → Ci l yX2_operand cX2_operand 3 .boolean (rmG 8 800 60 d) pX v [.ref (zA v 3), .int b0, .int b1] g res) ∧ (∀ (b0 : Int32) (g : Sg) (res : Int32 × Sg), gr_R N d 2 b0 0 0 g = some res → Ci l yX2_one cX2_one 3 .boolean (rmG 8 800 60 d) pX v [.ref (zA v 3), .int b0] g res) ∧ (∀ (b0 b1 b2 : Int32) (g : Sg) (res : Int32 × Sg), gr_R N d 3 b0 b1 b2 g = some res → Ci l yX2_prefixed cX2_prefixed 4 .boolean (rmG 8 800 60 d) pX v [.ref (zA v 3), .int b0, .int b1, .int b2] g res) := by
  intro d
  induction d with
  | zero => exact ⟨fun _ _ _ _ h => nn_e h, fun _ _ _ _ h => nn_e h, fun _ _ _ h => nn_e h, fun _ _ _ _ _ h => nn_e h⟩
  | succ d ih => exact ⟨fun b0 b1 g res hf => t_X2_expression l v N (gr_R N d) d ih.1 ih.2.1 ih.2.2.1 ih.2.2.2 b0 b1 g res hf, fun b0 b1 g res hf => t_X2_operand l v N (gr_R N d) d ih.1 ih.2.1 ih.2.2.1 ih.2.2.2 b0 b1 g res hf, fun b0 g res hf => t_X2_one l v N (gr_R N d) d ih.1 ih.2.1 ih.2.2.1 ih.2.2.2 b0 g res hf, fun b0 b1 b2 g res hf => t_X2_prefixed l v N (gr_R N d) d ih.1 ih.2.1 ih.2.2.1 ih.2.2.2 b0 b1 b2 g res hf⟩
theorem tg_X2_expression (l : Launch) (v : Ev) (N d : Nat) : ∀ (b0 b1 : Int32) (g : Sg) (res : Int32 × Sg), gr_R N d 0 b0 b1 0 g = some res → Ci l yX2_expression cX2_expression 6 .boolean (rmG 8 800 60 d) pX v [.ref (zA v 3), .int b0, .int b1] g res := (tg_R_all l v N d).1
theorem tg_X2_operand (l : Launch) (v : Ev) (N d : Nat) : ∀ (b0 b1 : Int32) (g : Sg) (res : Int32 × Sg), gr_R N d 1 b0 b1 0 g = some res → Ci l yX2_operand cX2_operand 3 .boolean (rmG 8 800 60 d) pX v [.ref (zA v 3), .int b0, .int b1] g res := (tg_R_all l v N d).2.1
theorem tg_X2_one (l : Launch) (v : Ev) (N d : Nat) : ∀ (b0 : Int32) (g : Sg) (res : Int32 × Sg), gr_R N d 2 b0 0 0 g = some res → Ci l yX2_one cX2_one 3 .boolean (rmG 8 800 60 d) pX v [.ref (zA v 3), .int b0] g res := (tg_R_all l v N d).2.2.1
theorem tg_X2_prefixed (l : Launch) (v : Ev) (N d : Nat) : ∀ (b0 b1 b2 : Int32) (g : Sg) (res : Int32 × Sg), gr_R N d 3 b0 b1 b2 g = some res → Ci l yX2_prefixed cX2_prefixed 4 .boolean (rmG 8 800 60 d) pX v [.ref (zA v 3), .int b0, .int b1, .int b2] g res := (tg_R_all l v N d).2.2.2
abbrev rm_X2_read : Room := { frames := 109, cells := 0, slots := 0, locals := 6825 }
set_option maxRecDepth 100000 in
theorem t_X2_read (l : Launch) (v : Ev) (N : Nat) (g : Sg) (res : Int32 × Sg) (hf : x_X2_read N g = some res) : Ci l yX2_read cX2_read 3 .int rm_X2_read pX v [.ref (zA v 3)] g res := by
  refine ze_i (by decide +kernel) (Nat.le_of_ble_eq_true rfl) ?_
  intro p e s m args below meth c Q ls hcx hret hP hl
  obtain ⟨hx, hb, hml, hown, hts, hk⟩ := hcx
  have hown : s.vm.findClass RX2 = some m.cls := hown
  have hS : va_S (An nX v) s.heap s.heap [] := va_S.rf
  have hl : lv_has ls 3 [(0, .ref (zA v 3))] := hl
  have wb112 : ∀ (g : Sg) (hf : x_X2_read_b112 N g = some res) (H : Heap) (locs : List Loc) (ls : Array Slot) (hP : va_P (zD v) vwCl (pX.1 v g) H) (hS : va_S (An nX v) s.heap H locs) (hl : lv_has ls 3 [(0, .ref (zA v 3))]), W p l e rm_X2_read s m args below meth c H locs 0 0 Q (F0 m 112 ls []) := by
    intro g hf H locs ls hP hS hl
    unfold x_X2_read_b112 at hf
    refine lv_aload_n hx hb dX2_read_112 rfl (lv_at hl 0 rfl) ?_
    refine va_get (D := zD v) (ci := 1) (v := .ref (zA v 23)) (C := RX2) (T := TX2) (N := 8) hx hb hts iX2 hown hk.1 hP 3 rfl rfl 3 (by decide) (hts _ fl_X2_18) (fun _ h9 => h9) rfl dX2_read_113 ?_
    refine lv_aload_n hx hb dX2_read_116 rfl (lv_at hl 0 rfl) ?_
    refine va_get (D := zD v) (ci := 1) (v := .int (g 3 4)) (C := RX2) (T := TX2) (N := 8) hx hb hts iX2 hown hk.1 hP 3 rfl rfl 4 (by decide) (hts _ fl_X2_38) (fun _ h9 => h9) rfl dX2_read_117 ?_
    obtain ⟨c9, hf⟩ := gd_e hf
    refine va_iald hx hb hk.1 hP 23 0 rfl rfl (inb_in c9) dX2_read_120 ?_
    exact hret _ _ _ _ _ _ (Or.inl rfl) (Option.some.inj hf) hP hS dX2_read_121
  have wb75 : ∀ (y1 : Int32) (g : Sg) (hf : x_X2_read_b75 N y1 g = some res) (H : Heap) (locs : List Loc) (ls : Array Slot) (hP : va_P (zD v) vwCl (pX.1 v g) H) (hS : va_S (An nX v) s.heap H locs) (hl : lv_has ls 3 [(0, .ref (zA v 3)), (1, .int y1)]), W p l e rm_X2_read s m args below meth c H locs 0 0 Q (F0 m 75 ls []) := by
    intro y1 g hf H locs ls hP hS hl
    unfold x_X2_read_b75 at hf
    refine lv_aload_n hx hb dX2_read_75 rfl (lv_at hl 0 rfl) ?_
    refine va_get (D := zD v) (ci := 1) (v := .ref (zA v 25)) (C := RX2) (T := TX2) (N := 8) hx hb hts iX2 hown hk.1 hP 3 rfl rfl 6 (by decide) (hts _ fl_X2_24) (fun _ h9 => h9) rfl dX2_read_76 ?_
    refine lv_iconst (v := 3) hx hb dX2_read_79 kI_3 ?_
    refine lv_aload_n hx hb dX2_read_80 rfl (lv_at hl 0 rfl) ?_
    refine va_get (D := zD v) (ci := 1) (v := .int (g 3 7)) (C := RX2) (T := TX2) (N := 8) hx hb hts iX2 hown hk.1 hP 3 rfl rfl 7 (by decide) (hts _ fl_X2_41) (fun _ h9 => h9) rfl dX2_read_81 ?_
    obtain ⟨c5, hf⟩ := gd_e hf
    refine va_iast hx hb hk.1 hP (zw_D okX hk _) hS 25 0 rfl rfl (inb_in c5) dX2_read_84 (fun H locs hP1 _ hS => ?_)
    have hP : va_P (zD v) vwCl (pX.1 v (up g 25 (upd (g 25) ((3 : Int32)).toNatClampNeg (g 3 7)))) H := hP1
    obtain ⟨g6, eg6, hf⟩ := lt_e hf
    rw [← eg6] at hP
    refine lv_aload_n hx hb dX2_read_85 rfl (lv_at hl 0 rfl) ?_
    refine lv_iconst (v := 0) hx hb dX2_read_86 kI_0 ?_
    refine va_put (D := zD v) (ci := 1) (v := .int (0 : Int32)) (ty := .int) (C := RX2) (T := TX2) (N := 8) hx hb hts iX2 tyX2 tyX2_ok nmX2 hown hk.1 hP (zw_D okX hk _) hS 3 rfl rfl 1 (by decide) (hts _ fl_X2_27) (fun _ h9 => h9) rfl pd_I rfl rfl (Nat.le_of_ble_eq_true rfl) dX2_read_87 (fun H locs hP1 _ hS => ?_)
    have hP : va_P (zD v) vwCl (pX.1 v (up g6 3 (upd (g6 3) 1 (0 : Int32)))) H := hP1
    obtain ⟨g7, eg7, hf⟩ := lt_e hf
    rw [← eg7] at hP
    refine lv_iload_n hx hb dX2_read_90 rfl (lv_at hl 1 rfl) ?_
    refine lv_if_eq (tgt := 112) hx hb dX2_read_91 (by decide) (fun c8 => ?_) (fun c8 => ?_)
    · have hf := ite_t c8 hf
      exact wb112 g7 hf _ _ _ hP hS (lv_sub hl [0] rfl)
    · have hf := ite_f c8 hf
      refine lv_aload_n hx hb dX2_read_94 rfl (lv_at hl 0 rfl) ?_
      refine va_get (D := zD v) (ci := 1) (v := .ref (zA v 22)) (C := RX2) (T := TX2) (N := 8) hx hb hts iX2 hown hk.1 hP 3 rfl rfl 2 (by decide) (hts _ fl_X2_15) (fun _ h9 => h9) rfl dX2_read_95 ?_
      refine lv_aload_n hx hb dX2_read_98 rfl (lv_at hl 0 rfl) ?_
      refine va_get (D := zD v) (ci := 1) (v := .int (g7 3 4)) (C := RX2) (T := TX2) (N := 8) hx hb hts iX2 hown hk.1 hP 3 rfl rfl 4 (by decide) (hts _ fl_X2_38) (fun _ h9 => h9) rfl dX2_read_99 ?_
      obtain ⟨c10, hf⟩ := gd_e hf
      refine va_iald hx hb hk.1 hP 22 0 rfl rfl (inb_in c10) dX2_read_102 ?_
      refine lv_bipush (v := 21) hx hb dX2_read_103 kB_21 ?_
      refine lv_icmp_ne (tgt := 112) hx hb dX2_read_105 (by decide) (fun c11 => ?_) (fun c11 => ?_)
      · have hf := ite_f c11 hf
        exact wb112 g7 hf _ _ _ hP hS (lv_sub hl [0] rfl)
      · have hf := ite_t c11 hf
        refine lv_iconst (v := -1) hx hb dX2_read_108 kI_m1 ?_
        refine lv_goto (tgt := 121) hx hb dX2_read_109 (by decide) ?_
        exact hret _ _ _ _ _ _ (Or.inl rfl) (Option.some.inj hf) hP hS dX2_read_121
  have wb68 : ∀ (h18 : Int32 × Int32 × Sg → Option (Int32 × Sg)) (hh18 : ∀ x : Int32 × Int32 × Sg, h18 x = some res → ∀ (H : Heap) (locs : List Loc) (ls : Array Slot), va_P (zD v) vwCl (pX.1 v x.2.2) H → va_S (An nX v) s.heap H locs → lv_has ls 3 [(0, .ref (zA v 3)), (1, .int x.1), (2, .int x.2.1)] → W p l e rm_X2_read s m args below meth c H locs 0 0 Q (F0 m 18 ls [])) (y2 : Int32) (t0 : Int32) (g : Sg) (hf : x_X2_read_b68 N h18 y2 t0 g = some res) (H : Heap) (locs : List Loc) (ls : Array Slot) (hP : va_P (zD v) vwCl (pX.1 v g) H) (hS : va_S (An nX v) s.heap H locs) (hl : lv_has ls 3 [(0, .ref (zA v 3)), (2, .int y2)]), W p l e rm_X2_read s m args below meth c H locs 0 0 Q (F0 m 68 ls [.int t0]) := by
    intro h18 hh18 y2 t0 g hf H locs ls hP hS hl
    unfold x_X2_read_b68 at hf
    refine lv_istore_n (lv' := [(1, .int t0), (0, .ref (zA v 3)), (2, .int y2)]) hx hb dX2_read_68 rfl hl (by decide) rfl (fun ls hl => ?_)
    obtain ⟨x17, ex17, hf⟩ := lt_e hf
    refine lv_iinc (v := x17) (lv' := [(2, .int x17), (1, .int t0), (0, .ref (zA v 3))]) hx hb dX2_read_69 hl (k := 2) rfl ((congrArg (fun z => y2 + z) kI_1).trans ex17.symm) (by decide) rfl (fun ls hl => ?_)
    refine lv_goto (tgt := 18) hx hb dX2_read_72 (by decide) ?_
    exact hh18 (t0, x17, g) hf _ _ _ hP hS (lv_sub hl [2, 1, 0] rfl)
  have wb67 : ∀ (h18 : Int32 × Int32 × Sg → Option (Int32 × Sg)) (hh18 : ∀ x : Int32 × Int32 × Sg, h18 x = some res → ∀ (H : Heap) (locs : List Loc) (ls : Array Slot), va_P (zD v) vwCl (pX.1 v x.2.2) H → va_S (An nX v) s.heap H locs → lv_has ls 3 [(0, .ref (zA v 3)), (1, .int x.1), (2, .int x.2.1)] → W p l e rm_X2_read s m args below meth c H locs 0 0 Q (F0 m 18 ls [])) (y2 : Int32) (g : Sg) (hf : x_X2_read_b67 N h18 y2 g = some res) (H : Heap) (locs : List Loc) (ls : Array Slot) (hP : va_P (zD v) vwCl (pX.1 v g) H) (hS : va_S (An nX v) s.heap H locs) (hl : lv_has ls 3 [(0, .ref (zA v 3)), (2, .int y2)]), W p l e rm_X2_read s m args below meth c H locs 0 0 Q (F0 m 67 ls []) := by
    intro h18 hh18 y2 g hf H locs ls hP hS hl
    unfold x_X2_read_b67 at hf
    refine lv_iconst (v := 0) hx hb dX2_read_67 kI_0 ?_
    exact wb68 h18 hh18 y2 (0 : Int32) g hf _ _ _ hP hS (lv_sub hl [0, 1] rfl)
  have wL18 : ∀ (n : Nat) (x : Int32 × Int32 × Sg), lp (x_X2_read_B18 N) n x = some res → ∀ (H : Heap) (locs : List Loc) (ls : Array Slot), va_P (zD v) vwCl (pX.1 v x.2.2) H → va_S (An nX v) s.heap H locs → lv_has ls 3 [(0, .ref (zA v 3)), (1, .int x.1), (2, .int x.2.1)] → W p l e rm_X2_read s m args below meth c H locs 0 0 Q (F0 m 18 ls []) := by
    refine lp_w (P := fun x : Int32 × Int32 × Sg => ∀ (H : Heap) (locs : List Loc) (ls : Array Slot), va_P (zD v) vwCl (pX.1 v x.2.2) H → va_S (An nX v) s.heap H locs → lv_has ls 3 [(0, .ref (zA v 3)), (1, .int x.1), (2, .int x.2.1)] → W p l e rm_X2_read s m args below meth c H locs 0 0 Q (F0 m 18 ls [])) ?_
    intro h18 hh18 x hf H locs ls hP hS hl
    unfold x_X2_read_B18 at hf
    refine lv_iload_n hx hb dX2_read_18 rfl (lv_at hl 2 rfl) ?_
    refine lv_iconst (v := 3) hx hb dX2_read_19 kI_3 ?_
    refine lv_icmp_ge (tgt := 75) hx hb dX2_read_20 (by decide) (fun c4 => ?_) (fun c4 => ?_)
    · have hf := ite_t c4 hf
      exact wb75 x.1 x.2.2 hf _ _ _ hP hS (lv_sub hl [0, 1] rfl)
    · have hf := ite_f c4 hf
      refine lv_iload_n hx hb dX2_read_23 rfl (lv_at hl 1 rfl) ?_
      refine lv_if_eq (tgt := 75) hx hb dX2_read_24 (by decide) (fun c12 => ?_) (fun c12 => ?_)
      · have hf := ite_t c12 hf
        exact wb75 x.1 x.2.2 hf _ _ _ hP hS (lv_sub hl [0, 1] rfl)
      · have hf := ite_f c12 hf
        refine lv_aload_n hx hb dX2_read_27 rfl (lv_at hl 0 rfl) ?_
        refine va_get (D := zD v) (ci := 1) (v := .ref (zA v 25)) (C := RX2) (T := TX2) (N := 8) hx hb hts iX2 hown hk.1 hP 3 rfl rfl 6 (by decide) (hts _ fl_X2_24) (fun _ h9 => h9) rfl dX2_read_28 ?_
        refine lv_iload_n hx hb dX2_read_31 rfl (lv_at hl 2 rfl) ?_
        refine lv_aload_n hx hb dX2_read_32 rfl (lv_at hl 0 rfl) ?_
        refine va_get (D := zD v) (ci := 1) (v := .int (x.2.2 3 7)) (C := RX2) (T := TX2) (N := 8) hx hb hts iX2 hown hk.1 hP 3 rfl rfl 7 (by decide) (hts _ fl_X2_41) (fun _ h9 => h9) rfl dX2_read_33 ?_
        obtain ⟨c13, hf⟩ := gd_e hf
        refine va_iast hx hb hk.1 hP (zw_D okX hk _) hS 25 0 rfl rfl (inb_in c13) dX2_read_36 (fun H locs hP1 _ hS => ?_)
        have hP : va_P (zD v) vwCl (pX.1 v (up x.2.2 25 (upd (x.2.2 25) (x.2.1).toNatClampNeg (x.2.2 3 7)))) H := hP1
        obtain ⟨g14, eg14, hf⟩ := lt_e hf
        rw [← eg14] at hP
        refine lv_aload_n hx hb dX2_read_37 rfl (lv_at hl 0 rfl) ?_
        refine lv_iload_n hx hb dX2_read_38 rfl (lv_at hl 2 rfl) ?_
        obtain ⟨q15, eq15, hf⟩ := bd_e hf
        refine zki hS (zrV (As := [.int x.2.1]) (rest := []) okX hx hb hml hown hts hk hP hS (t_X2_pass l v N x.2.1 g14 _ eq15) vk_X2_pass ml_X2_44 rfl rfl ⟨(Nat.le_of_ble_eq_true rfl), (Nat.le_of_ble_eq_true rfl)⟩ (va_recv (q := (RX2, TX2, 8)) hk.1 hP (q0 := 3) (ci := 1) rfl rfl) rfl hl.1 rfl (Nat.le_of_ble_eq_true rfl) dX2_read_39) (fun H locs hP hS => ?_)
        refine lv_if_eq (tgt := 67) hx hb dX2_read_42 (by decide) (fun c16 => ?_) (fun c16 => ?_)
        · have hf := ite_t c16 hf
          exact wb67 h18 hh18 x.2.1 q15.2 hf _ _ _ hP hS (lv_sub hl [0, 2] rfl)
        · have hf := ite_f c16 hf
          refine lv_aload_n hx hb dX2_read_45 rfl (lv_at hl 0 rfl) ?_
          refine lv_iconst (v := 0) hx hb dX2_read_46 kI_0 ?_
          refine lv_iconst (v := 0) hx hb dX2_read_47 kI_0 ?_
          obtain ⟨q18, eq18, hf⟩ := bd_e hf
          refine zki hS (zrV (As := [.int (0 : Int32), .int (0 : Int32)]) (rest := []) okX hx hb hml hown hts hk hP hS (tg_X2_expression l v N 100 (0 : Int32) (0 : Int32) q15.2 _ eq18) vk_X2_expression ml_X2_48 rfl rfl ⟨(Nat.le_of_ble_eq_true rfl), (Nat.le_of_ble_eq_true rfl)⟩ (va_recv (q := (RX2, TX2, 8)) hk.1 hP (q0 := 3) (ci := 1) rfl rfl) rfl hl.1 rfl (Nat.le_of_ble_eq_true rfl) dX2_read_48) (fun H locs hP hS => ?_)
          refine lv_if_eq (tgt := 67) hx hb dX2_read_51 (by decide) (fun c19 => ?_) (fun c19 => ?_)
          · have hf := ite_t c19 hf
            exact wb67 h18 hh18 x.2.1 q18.2 hf _ _ _ hP hS (lv_sub hl [0, 2] rfl)
          · have hf := ite_f c19 hf
            refine lv_aload_n hx hb dX2_read_54 rfl (lv_at hl 0 rfl) ?_
            refine lv_bipush (v := 14) hx hb dX2_read_55 kB_14 ?_
            obtain ⟨q20, eq20, hf⟩ := bd_e hf
            refine zki hS (zrV (As := [.int (14 : Int32)]) (rest := []) okX hx hb hml hown hts hk hP hS (t_X2_pass l v N (14 : Int32) q18.2 _ eq20) vk_X2_pass ml_X2_44 rfl rfl ⟨(Nat.le_of_ble_eq_true rfl), (Nat.le_of_ble_eq_true rfl)⟩ (va_recv (q := (RX2, TX2, 8)) hk.1 hP (q0 := 3) (ci := 1) rfl rfl) rfl hl.1 rfl (Nat.le_of_ble_eq_true rfl) dX2_read_57) (fun H locs hP hS => ?_)
            refine lv_if_eq (tgt := 67) hx hb dX2_read_60 (by decide) (fun c21 => ?_) (fun c21 => ?_)
            · have hf := ite_t c21 hf
              exact wb67 h18 hh18 x.2.1 q20.2 hf _ _ _ hP hS (lv_sub hl [0, 2] rfl)
            · have hf := ite_f c21 hf
              refine lv_iconst (v := 1) hx hb dX2_read_63 kI_1 ?_
              refine lv_goto (tgt := 68) hx hb dX2_read_64 (by decide) ?_
              exact wb68 h18 hh18 x.2.1 (1 : Int32) q20.2 hf _ _ _ hP hS (lv_sub hl [0, 2] rfl)
  unfold x_X2_read at hf
  refine lv_aload_n hx hb dX2_read_0 rfl (lv_at hl 0 rfl) ?_
  obtain ⟨q1, eq1, hf⟩ := bd_e hf
  refine zkv hS (zrV (As := []) (rest := []) okX hx hb hml hown hts hk hP hS (t_X2_split l v N g _ eq1) vk_X2_split ml_X2_35 rfl rfl ⟨(Nat.le_of_ble_eq_true rfl), (Nat.le_of_ble_eq_true rfl)⟩ (va_recv (q := (RX2, TX2, 8)) hk.1 hP (q0 := 3) (ci := 1) rfl rfl) rfl hl.1 rfl (Nat.le_of_ble_eq_true rfl) dX2_read_1) (fun H locs hP hS => ?_)
  refine lv_aload_n hx hb dX2_read_4 rfl (lv_at hl 0 rfl) ?_
  refine lv_iconst (v := 0) hx hb dX2_read_5 kI_0 ?_
  refine va_put (D := zD v) (ci := 1) (v := .int (0 : Int32)) (ty := .int) (C := RX2) (T := TX2) (N := 8) hx hb hts iX2 tyX2 tyX2_ok nmX2 hown hk.1 hP (zw_D okX hk _) hS 3 rfl rfl 4 (by decide) (hts _ fl_X2_38) (fun _ h9 => h9) rfl pd_I rfl rfl (Nat.le_of_ble_eq_true rfl) dX2_read_6 (fun H locs hP1 _ hS => ?_)
  have hP : va_P (zD v) vwCl (pX.1 v (up q1 3 (upd (q1 3) 4 (0 : Int32)))) H := hP1
  obtain ⟨g2, eg2, hf⟩ := lt_e hf
  rw [← eg2] at hP
  refine lv_aload_n hx hb dX2_read_9 rfl (lv_at hl 0 rfl) ?_
  refine lv_iconst (v := 0) hx hb dX2_read_10 kI_0 ?_
  refine va_put (D := zD v) (ci := 1) (v := .int (0 : Int32)) (ty := .int) (C := RX2) (T := TX2) (N := 8) hx hb hts iX2 tyX2 tyX2_ok nmX2 hown hk.1 hP (zw_D okX hk _) hS 3 rfl rfl 7 (by decide) (hts _ fl_X2_41) (fun _ h9 => h9) rfl pd_I rfl rfl (Nat.le_of_ble_eq_true rfl) dX2_read_11 (fun H locs hP1 _ hS => ?_)
  have hP : va_P (zD v) vwCl (pX.1 v (up g2 3 (upd (g2 3) 7 (0 : Int32)))) H := hP1
  obtain ⟨g3, eg3, hf⟩ := lt_e hf
  rw [← eg3] at hP
  refine lv_iconst (v := 1) hx hb dX2_read_14 kI_1 ?_
  refine lv_istore_n (lv' := [(1, .int (1 : Int32)), (0, .ref (zA v 3))]) hx hb dX2_read_15 rfl hl (by decide) rfl (fun ls hl => ?_)
  refine lv_iconst (v := 0) hx hb dX2_read_16 kI_0 ?_
  refine lv_istore_n (lv' := [(2, .int (0 : Int32)), (1, .int (1 : Int32)), (0, .ref (zA v 3))]) hx hb dX2_read_17 rfl hl (by decide) rfl (fun ls hl => ?_)
  exact wL18 N ((1 : Int32), (0 : Int32), g3) hf _ _ _ hP hS (lv_sub hl [2, 1, 0] rfl)
