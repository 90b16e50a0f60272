theorem fl_X8_13 : Cond.fieldLink RX8 13 "HalfASizeModel" "texts" "[I" ∈ WL := wl (by decide +kernel) rfl
theorem kB_7 : (Int8.ofInt (7)).toInt32 = (7 : Int32) := by decide +kernel
theorem kL_0 : Int64.ofNat (0 : Fin 2) = (0 : Int64) := by decide +kernel
theorem fl_X8_97 : Cond.fieldLink RX8 97 "HalfASizeModel" "makeMany" "I" ∈ WL := wl (by decide +kernel) rfl
theorem sk_X8_in : SOK yX8_in cX8_in 6 (some .boolean) 3 := sok_of (by decide +kernel)
theorem ml_X8_100 : Cond.methodLink RX8 100 yX8_in ∈ WL := wl (by decide +kernel) rfl
theorem kc_X8_104 : Cond.constantLong RX8 104 (99) ∈ WL := wl (by decide +kernel) rfl
theorem fl_X8_156 : Cond.fieldLink RX8 156 "HalfASizeModel" "size" "I" ∈ WL := wl (by decide +kernel) rfl
theorem fl_X8_159 : Cond.fieldLink RX8 159 "HalfASizeModel" "from" "I" ∈ WL := wl (by decide +kernel) rfl
theorem fl_X8_162 : Cond.fieldLink RX8 162 "HalfASizeModel" "here" "I" ∈ WL := wl (by decide +kernel) rfl
theorem vk_X8_byteAt : VOK yX8_byteAt cX8_byteAt 2 (some .int) 1 := vok_of (by decide +kernel)
theorem ml_X8_165 : Cond.methodLink RX8 165 yX8_byteAt ∈ WL := wl (by decide +kernel) rfl
theorem fl_X8_168 : Cond.fieldLink RX8 168 "HalfASizeModel" "tokenAt" "I" ∈ WL := wl (by decide +kernel) rfl
theorem fl_X8_171 : Cond.fieldLink RX8 171 "HalfASizeModel" "token" "I" ∈ WL := wl (by decide +kernel) rfl
theorem kc_X8_174 : Cond.constantLong RX8 174 (97) ∈ WL := wl (by decide +kernel) rfl
theorem kc_X8_176 : Cond.constantLong RX8 176 (122) ∈ WL := wl (by decide +kernel) rfl
theorem kc_X8_178 : Cond.constantLong RX8 178 (48) ∈ WL := wl (by decide +kernel) rfl
theorem kc_X8_180 : Cond.constantLong RX8 180 (57) ∈ WL := wl (by decide +kernel) rfl
theorem fl_X8_182 : Cond.fieldLink RX8 182 "HalfASizeModel" "tokenWorth" "J" ∈ WL := wl (by decide +kernel) rfl
theorem pd_J : parseFieldDescriptor "J" = some .long := by decide +kernel
theorem kB_41 : (Int8.ofInt (41)).toInt32 = (41 : Int32) := by decide +kernel
theorem kB_59 : (Int8.ofInt (59)).toInt32 = (59 : Int32) := by decide +kernel
theorem kB_43 : (Int8.ofInt (43)).toInt32 = (43 : Int32) := by decide +kernel
theorem kB_45 : (Int8.ofInt (45)).toInt32 = (45 : Int32) := by decide +kernel
theorem kB_42 : (Int8.ofInt (42)).toInt32 = (42 : Int32) := by decide +kernel
theorem kB_60 : (Int8.ofInt (60)).toInt32 = (60 : Int32) := by decide +kernel
theorem kB_61 : (Int8.ofInt (61)).toInt32 = (61 : Int32) := by decide +kernel
theorem kc_X8_186 : Cond.constantLong RX8 186 (10) ∈ WL := wl (by decide +kernel) rfl
theorem fl_X8_188 : Cond.fieldLink RX8 188 "HalfASizeModel" "bad" "Z" ∈ WL := wl (by decide +kernel) rfl
theorem vk_X8_isLetter : VOK yX8_isLetter cX8_isLetter 3 (some .boolean) 2 := vok_of (by decide +kernel)
theorem ml_X8_195 : Cond.methodLink RX8 195 yX8_isLetter ∈ WL := wl (by decide +kernel) rfl
theorem fl_X8_192 : Cond.fieldLink RX8 192 "HalfASizeModel" "fault" "I" ∈ WL := wl (by decide +kernel) rfl
theorem fl_X8_199 : Cond.fieldLink RX8 199 "HalfASizeModel" "open" "I" ∈ WL := wl (by decide +kernel) rfl
theorem vk_X8_next : VOK yX8_next cX8_next 3 none 0 := vok_of (by decide +kernel)
theorem ml_X8_205 : Cond.methodLink RX8 205 yX8_next ∈ WL := wl (by decide +kernel) rfl
theorem vk_X8_fail : VOK yX8_fail cX8_fail 1 none 0 := vok_of (by decide +kernel)
theorem ml_X8_202 : Cond.methodLink RX8 202 yX8_fail ∈ WL := wl (by decide +kernel) rfl
theorem kB_115 : (Int8.ofInt (115)).toInt32 = (115 : Int32) := by decide +kernel
theorem kB_105 : (Int8.ofInt (105)).toInt32 = (105 : Int32) := by decide +kernel
theorem kB_101 : (Int8.ofInt (101)).toInt32 = (101 : Int32) := by decide +kernel
theorem vk_X8_isWord : VOK yX8_isWord cX8_isWord 9 (some .boolean) 8 := vok_of (by decide +kernel)
theorem ml_X8_208 : Cond.methodLink RX8 208 yX8_isWord ∈ WL := wl (by decide +kernel) rfl
theorem kB_109 : (Int8.ofInt (109)).toInt32 = (109 : Int32) := by decide +kernel
theorem kB_107 : (Int8.ofInt (107)).toInt32 = (107 : Int32) := by decide +kernel
theorem kB_112 : (Int8.ofInt (112)).toInt32 = (112 : Int32) := by decide +kernel
theorem kB_114 : (Int8.ofInt (114)).toInt32 = (114 : Int32) := by decide +kernel
theorem kB_116 : (Int8.ofInt (116)).toInt32 = (116 : Int32) := by decide +kernel
theorem kB_110 : (Int8.ofInt (110)).toInt32 = (110 : Int32) := by decide +kernel
theorem kB_117 : (Int8.ofInt (117)).toInt32 = (117 : Int32) := by decide +kernel
theorem kB_98 : (Int8.ofInt (98)).toInt32 = (98 : Int32) := by decide +kernel
theorem kB_102 : (Int8.ofInt (102)).toInt32 = (102 : Int32) := by decide +kernel
theorem kB_111 : (Int8.ofInt (111)).toInt32 = (111 : Int32) := by decide +kernel
theorem kB_104 : (Int8.ofInt (104)).toInt32 = (104 : Int32) := by decide +kernel
theorem fl_X8_227 : Cond.fieldLink RX8 227 "HalfASizeModel" "ofHour" "I" ∈ WL := wl (by decide +kernel) rfl
theorem fl_X8_224 : Cond.fieldLink RX8 224 "HalfASizeModel" "ofFoot" "I" ∈ WL := wl (by decide +kernel) rfl
theorem fl_X8_221 : Cond.fieldLink RX8 221 "HalfASizeModel" "ofNumber" "I" ∈ WL := wl (by decide +kernel) rfl
theorem fl_X8_218 : Cond.fieldLink RX8 218 "HalfASizeModel" "ofApart" "I" ∈ WL := wl (by decide +kernel) rfl
theorem fl_X8_215 : Cond.fieldLink RX8 215 "HalfASizeModel" "ofMake" "I" ∈ WL := wl (by decide +kernel) rfl
theorem fl_X8_212 : Cond.fieldLink RX8 212 "HalfASizeModel" "ofSize" "I" ∈ WL := wl (by decide +kernel) rfl
theorem vk_X8_both : VOK yX8_both cX8_both 3 (some .int) 0 := vok_of (by decide +kernel)
theorem ml_X8_260 : Cond.methodLink RX8 260 yX8_both ∈ WL := wl (by decide +kernel) rfl
theorem vk_X8_not : VOK yX8_not cX8_not 4 (some .int) 0 := vok_of (by decide +kernel)
theorem ml_X8_252 : Cond.methodLink RX8 252 yX8_not ∈ WL := wl (by decide +kernel) rfl
theorem vk_X8_added : VOK yX8_added cX8_added 4 (some .int) 0 := vok_of (by decide +kernel)
theorem ml_X8_255 : Cond.methodLink RX8 255 yX8_added ∈ WL := wl (by decide +kernel) rfl
theorem vk_X8_isSign : VOK yX8_isSign cX8_isSign 2 (some .boolean) 1 := vok_of (by decide +kernel)
theorem ml_X8_230 : Cond.methodLink RX8 230 yX8_isSign ∈ WL := wl (by decide +kernel) rfl
theorem kc_X8_258 : Cond.constantLong RX8 258 (60) ∈ WL := wl (by decide +kernel) rfl
theorem vk_X8_opens : VOK yX8_opens cX8_opens 1 (some .boolean) 0 := vok_of (by decide +kernel)
theorem ml_X8_233 : Cond.methodLink RX8 233 yX8_opens ∈ WL := wl (by decide +kernel) rfl
theorem vk_X8_term : VOK yX8_term cX8_term 2 (some .int) 0 := vok_of (by decide +kernel)
theorem ml_X8_247 : Cond.methodLink RX8 247 yX8_term ∈ WL := wl (by decide +kernel) rfl
theorem kc_X8_250 : Cond.constantLong RX8 250 (43) ∈ WL := wl (by decide +kernel) rfl
theorem vk_X8_atom : VOK yX8_atom cX8_atom 2 (some .int) 0 := vok_of (by decide +kernel)
theorem ml_X8_237 : Cond.methodLink RX8 237 yX8_atom ∈ WL := wl (by decide +kernel) rfl
theorem vk_X8_name : VOK yX8_name cX8_name 1 (some .int) 0 := vok_of (by decide +kernel)
theorem ml_X8_244 : Cond.methodLink RX8 244 yX8_name ∈ WL := wl (by decide +kernel) rfl
theorem vk_X8_either : VOK yX8_either cX8_either 3 (some .int) 0 := vok_of (by decide +kernel)
theorem ml_X8_241 : Cond.methodLink RX8 241 yX8_either ∈ WL := wl (by decide +kernel) rfl
abbrev rm_X8_in : Room := { frames := 1, cells := 0, slots := 0, locals := 60 }
set_option maxRecDepth 100000 in
theorem t_X8_in (l : Launch) (v : Ev) (N : Nat) (a0 : Int64) (a2 : Int64) (a4 : Int64) (g : SM) (res : Int32 × SM) (hf : x_X8_in N a0 a2 a4 g = some res) : Ci l yX8_in cX8_in 6 .boolean rm_X8_in pM v [.long a0, .long a2, .long a4] g res := by
  refine ze_i (by decide +kernel) (Nat.le_of_ble_eq_true rfl) ?_
  intro p e s m args below meth c Q ls hcx hret hP hl
  obtain ⟨hx, hb, hml, hown, hts, hk⟩ := hcx
  have hown : s.vm.findClass RX8 = some m.cls := hown
  have hS : va_S (An nM v) s.heap s.heap [] := va_S.rf
  have hl : lv_has ls 6 [(0, .long a0), (2, .long a2), (4, .long a4)] := hl
  unfold x_X8_in at hf
  refine lv_lload_n hx hb dX8_in_0 rfl (lv_at hl 0 rfl) ?_
  refine lv_lload_n hx hb dX8_in_1 rfl (lv_at hl 1 rfl) ?_
  refine W.lcmp hx hb dX8_in_2 ?_
  refine lv_if_lt (tgt := 17) hx hb dX8_in_3 (by decide) (fun c1 => ?_) (fun c1 => ?_)
  · have hf := ite_t c1 hf
    refine lv_iconst (v := 0) hx hb dX8_in_17 kI_0 ?_
    exact hret _ _ _ _ _ _ (Or.inr rfl) (Option.some.inj hf) hP hS dX8_in_18
  · have hf := ite_f c1 hf
    refine lv_lload_n hx hb dX8_in_6 rfl (lv_at hl 0 rfl) ?_
    refine lv_lload hx hb dX8_in_7 (lv_at hl 2 rfl) ?_
    refine W.lcmp hx hb dX8_in_9 ?_
    refine lv_if_gt (tgt := 17) hx hb dX8_in_10 (by decide) (fun c2 => ?_) (fun c2 => ?_)
    · have hf := ite_t c2 hf
      refine lv_iconst (v := 0) hx hb dX8_in_17 kI_0 ?_
      exact hret _ _ _ _ _ _ (Or.inr rfl) (Option.some.inj hf) hP hS dX8_in_18
    · have hf := ite_f c2 hf
      refine lv_iconst (v := 1) hx hb dX8_in_13 kI_1 ?_
      refine lv_goto (tgt := 18) hx hb dX8_in_14 (by decide) ?_
      exact hret _ _ _ _ _ _ (Or.inr rfl) (Option.some.inj hf) hP hS dX8_in_18
abbrev rm_X8_within : Room := { frames := 1, cells := 0, slots := 0, locals := 60 }
set_option maxRecDepth 100000 in
theorem t_X8_within (l : Launch) (v : Ev) (N : Nat) (a0 : Int32) (a1 : Int32) (a2 : Int32) (g : SM) (res : Int32 × SM) (hf : x_X8_within N a0 a1 a2 g = some res) : Ci l yX8_within cX8_within 3 .int rm_X8_within pM v [.int a0, .int a1, .int a2] g res := by
  refine ze_i (by decide +kernel) (Nat.le_of_ble_eq_true rfl) ?_
  intro p e s m args below meth c Q ls hcx hret hP hl
  obtain ⟨hx, hb, hml, hown, hts, hk⟩ := hcx
  have hown : s.vm.findClass RX8 = some m.cls := hown
  have hS : va_S (An nM v) s.heap s.heap [] := va_S.rf
  have hl : lv_has ls 3 [(0, .int a0), (1, .int a1), (2, .int a2)] := hl
  unfold x_X8_within at hf
  refine lv_iload_n hx hb dX8_within_0 rfl (lv_at hl 0 rfl) ?_
  refine lv_iload_n hx hb dX8_within_1 rfl (lv_at hl 1 rfl) ?_
  refine lv_icmp_ge (tgt := 9) hx hb dX8_within_2 (by decide) (fun c1 => ?_) (fun c1 => ?_)
  · have hf := ite_t c1 hf
    refine lv_iload_n hx hb dX8_within_9 rfl (lv_at hl 0 rfl) ?_
    refine lv_iload_n hx hb dX8_within_10 rfl (lv_at hl 2 rfl) ?_
    refine lv_icmp_le (tgt := 18) hx hb dX8_within_11 (by decide) (fun c2 => ?_) (fun c2 => ?_)
    · have hf := ite_t c2 hf
      refine lv_iload_n hx hb dX8_within_18 rfl (lv_at hl 0 rfl) ?_
      exact hret _ _ _ _ _ _ (Or.inl rfl) (Option.some.inj hf) hP hS dX8_within_19
    · have hf := ite_f c2 hf
      refine lv_iload_n hx hb dX8_within_14 rfl (lv_at hl 2 rfl) ?_
      refine lv_goto (tgt := 19) hx hb dX8_within_15 (by decide) ?_
      exact hret _ _ _ _ _ _ (Or.inl rfl) (Option.some.inj hf) hP hS dX8_within_19
  · have hf := ite_f c1 hf
    refine lv_iload_n hx hb dX8_within_5 rfl (lv_at hl 1 rfl) ?_
    refine lv_goto (tgt := 19) hx hb dX8_within_6 (by decide) ?_
    exact hret _ _ _ _ _ _ (Or.inl rfl) (Option.some.inj hf) hP hS dX8_within_19
abbrev rm_X8_plain : Room := { frames := 1, cells := 0, slots := 0, locals := 60 }
set_option maxRecDepth 100000 in
theorem t_X8_plain (l : Launch) (v : Ev) (N : Nat) (a0 : Int32) (g : SM) (res : Int32 × SM) (hf : x_X8_plain N a0 g = some res) : Ci l yX8_plain cX8_plain 1 .int rm_X8_plain pM v [.int a0] g res := by
  refine ze_i (by decide +kernel) (Nat.le_of_ble_eq_true rfl) ?_
  intro p e s m args below meth c Q ls hcx hret hP hl
  obtain ⟨hx, hb, hml, hown, hts, hk⟩ := hcx
  have hown : s.vm.findClass RX8 = some m.cls := hown
  have hS : va_S (An nM v) s.heap s.heap [] := va_S.rf
  have hl : lv_has ls 1 [(0, .int a0)] := hl
  unfold x_X8_plain at hf
  refine lv_iload_n hx hb dX8_plain_0 rfl (lv_at hl 0 rfl) ?_
  refine lv_if_ge (tgt := 9) hx hb dX8_plain_1 (by decide) (fun c1 => ?_) (fun c1 => ?_)
  · have hf := ite_t c1 hf
    refine lv_iload_n hx hb dX8_plain_9 rfl (lv_at hl 0 rfl) ?_
    exact hret _ _ _ _ _ _ (Or.inl rfl) (Option.some.inj hf) hP hS dX8_plain_10
  · have hf := ite_f c1 hf
    refine lv_iload_n hx hb dX8_plain_4 rfl (lv_at hl 0 rfl) ?_
    refine lv_ineg hx hb dX8_plain_5 ?_
    refine lv_goto (tgt := 10) hx hb dX8_plain_6 (by decide) ?_
    exact hret _ _ _ _ _ _ (Or.inl rfl) (Option.some.inj hf) hP hS dX8_plain_10
abbrev rm_X8_spell : Room := { frames := 1, cells := 0, slots := 0, locals := 60 }
set_option maxRecDepth 100000 in
theorem t_X8_spell (l : Launch) (v : Ev) (N : Nat) (a1 : Int32) (a2 : Int32) (a3 : Int32) (a4 : Int32) (a5 : Int32) (a6 : Int32) (a7 : Int32) (a8 : Int32) (a9 : Int32) (g : SM) (res : SM) (hf : x_X8_spell N a1 a2 a3 a4 a5 a6 a7 a8 a9 g = some res) : Cv l yX8_spell cX8_spell 10 rm_X8_spell pM v [.ref (zA v 0), .int a1, .int a2, .int a3, .int a4, .int a5, .int a6, .int a7, .int a8, .int a9] g res := by
  refine ze_v (by decide +kernel) (Nat.le_of_ble_eq_true rfl) ?_
  intro p e s m args below meth c Q ls hcx hret hP hl
  obtain ⟨hx, hb, hml, hown, hts, hk⟩ := hcx
  have hown : s.vm.findClass RX8 = some m.cls := hown
  have hS : va_S (An nM v) s.heap s.heap [] := va_S.rf
  have hl : lv_has ls 10 [(0, .ref (zA v 0)), (1, .int a1), (2, .int a2), (3, .int a3), (4, .int a4), (5, .int a5), (6, .int a6), (7, .int a7), (8, .int a8), (9, .int a9)] := hl
  unfold x_X8_spell at hf
  refine lv_aload_n hx hb dX8_spell_0 rfl (lv_at hl 0 rfl) ?_
  refine va_get (D := zD v) (ci := 7) (v := .ref (zA v 1)) (C := RX8) (T := TX8) (N := 55) hx hb hts iX8 hown hk.1 hP 0 rfl rfl 1 (by decide) (hts _ fl_X8_13) (fun _ h9 => h9) rfl dX8_spell_1 ?_
  refine lv_iload_n hx hb dX8_spell_4 rfl (lv_at hl 1 rfl) ?_
  refine lv_iload_n hx hb dX8_spell_5 rfl (lv_at hl 2 rfl) ?_
  obtain ⟨c1, hf⟩ := gd_e hf
  refine va_iast hx hb hk.1 hP (zw_D okM hk _) hS 1 0 rfl rfl (inb_in c1) dX8_spell_6 (fun H locs hP1 _ hS => ?_)
  have hP : va_P (zD v) vwCl (pM.1 v (up g.1 1 (upd (g.1 1) (a1).toNatClampNeg a2), g.2)) H := hP1
  obtain ⟨g2, eg2, hf⟩ := lt_e hf
  rw [← eg2] at hP
  refine lv_aload_n hx hb dX8_spell_7 rfl (lv_at hl 0 rfl) ?_
  refine va_get (D := zD v) (ci := 7) (v := .ref (zA v 1)) (C := RX8) (T := TX8) (N := 55) hx hb hts iX8 hown hk.1 hP 0 rfl rfl 1 (by decide) (hts _ fl_X8_13) (fun _ h9 => h9) rfl dX8_spell_8 ?_
  refine lv_iload_n hx hb dX8_spell_11 rfl (lv_at hl 1 rfl) ?_
  refine lv_iconst (v := 1) hx hb dX8_spell_12 kI_1 ?_
  refine lv_iadd hx hb dX8_spell_13 ?_
  refine lv_iload_n hx hb dX8_spell_14 rfl (lv_at hl 3 rfl) ?_
  obtain ⟨c3, hf⟩ := gd_e hf
  refine va_iast hx hb hk.1 hP (zw_D okM hk _) hS 1 0 rfl rfl (inb_in c3) dX8_spell_15 (fun H locs hP1 _ hS => ?_)
  have hP : va_P (zD v) vwCl (pM.1 v (up g2.1 1 (upd (g2.1 1) ((a1 + (1 : Int32))).toNatClampNeg a3), g2.2)) H := hP1
  obtain ⟨g4, eg4, hf⟩ := lt_e hf
  rw [← eg4] at hP
  refine lv_aload_n hx hb dX8_spell_16 rfl (lv_at hl 0 rfl) ?_
  refine va_get (D := zD v) (ci := 7) (v := .ref (zA v 1)) (C := RX8) (T := TX8) (N := 55) hx hb hts iX8 hown hk.1 hP 0 rfl rfl 1 (by decide) (hts _ fl_X8_13) (fun _ h9 => h9) rfl dX8_spell_17 ?_
  refine lv_iload_n hx hb dX8_spell_20 rfl (lv_at hl 1 rfl) ?_
  refine lv_iconst (v := 2) hx hb dX8_spell_21 kI_2 ?_
  refine lv_iadd hx hb dX8_spell_22 ?_
  refine lv_iload hx hb dX8_spell_23 (lv_at hl 4 rfl) ?_
  obtain ⟨c5, hf⟩ := gd_e hf
  refine va_iast hx hb hk.1 hP (zw_D okM hk _) hS 1 0 rfl rfl (inb_in c5) dX8_spell_25 (fun H locs hP1 _ hS => ?_)
  have hP : va_P (zD v) vwCl (pM.1 v (up g4.1 1 (upd (g4.1 1) ((a1 + (2 : Int32))).toNatClampNeg a4), g4.2)) H := hP1
  obtain ⟨g6, eg6, hf⟩ := lt_e hf
  rw [← eg6] at hP
  refine lv_aload_n hx hb dX8_spell_26 rfl (lv_at hl 0 rfl) ?_
  refine va_get (D := zD v) (ci := 7) (v := .ref (zA v 1)) (C := RX8) (T := TX8) (N := 55) hx hb hts iX8 hown hk.1 hP 0 rfl rfl 1 (by decide) (hts _ fl_X8_13) (fun _ h9 => h9) rfl dX8_spell_27 ?_
  refine lv_iload_n hx hb dX8_spell_30 rfl (lv_at hl 1 rfl) ?_
  refine lv_iconst (v := 3) hx hb dX8_spell_31 kI_3 ?_
  refine lv_iadd hx hb dX8_spell_32 ?_
  refine lv_iload hx hb dX8_spell_33 (lv_at hl 5 rfl) ?_
  obtain ⟨c7, hf⟩ := gd_e hf
  refine va_iast hx hb hk.1 hP (zw_D okM hk _) hS 1 0 rfl rfl (inb_in c7) dX8_spell_35 (fun H locs hP1 _ hS => ?_)
  have hP : va_P (zD v) vwCl (pM.1 v (up g6.1 1 (upd (g6.1 1) ((a1 + (3 : Int32))).toNatClampNeg a5), g6.2)) H := hP1
  obtain ⟨g8, eg8, hf⟩ := lt_e hf
  rw [← eg8] at hP
  refine lv_aload_n hx hb dX8_spell_36 rfl (lv_at hl 0 rfl) ?_
  refine va_get (D := zD v) (ci := 7) (v := .ref (zA v 1)) (C := RX8) (T := TX8) (N := 55) hx hb hts iX8 hown hk.1 hP 0 rfl rfl 1 (by decide) (hts _ fl_X8_13) (fun _ h9 => h9) rfl dX8_spell_37 ?_
  refine lv_iload_n hx hb dX8_spell_40 rfl (lv_at hl 1 rfl) ?_
  refine lv_iconst (v := 4) hx hb dX8_spell_41 kI_4 ?_
  refine lv_iadd hx hb dX8_spell_42 ?_
  refine lv_iload hx hb dX8_spell_43 (lv_at hl 6 rfl) ?_
  obtain ⟨c9, hf⟩ := gd_e hf
  refine va_iast hx hb hk.1 hP (zw_D okM hk _) hS 1 0 rfl rfl (inb_in c9) dX8_spell_45 (fun H locs hP1 _ hS => ?_)
  have hP : va_P (zD v) vwCl (pM.1 v (up g8.1 1 (upd (g8.1 1) ((a1 + (4 : Int32))).toNatClampNeg a6), g8.2)) H := hP1
  obtain ⟨g10, eg10, hf⟩ := lt_e hf
  rw [← eg10] at hP
  refine lv_aload_n hx hb dX8_spell_46 rfl (lv_at hl 0 rfl) ?_
  refine va_get (D := zD v) (ci := 7) (v := .ref (zA v 1)) (C := RX8) (T := TX8) (N := 55) hx hb hts iX8 hown hk.1 hP 0 rfl rfl 1 (by decide) (hts _ fl_X8_13) (fun _ h9 => h9) rfl dX8_spell_47 ?_
  refine lv_iload_n hx hb dX8_spell_50 rfl (lv_at hl 1 rfl) ?_
  refine lv_iconst (v := 5) hx hb dX8_spell_51 kI_5 ?_
  refine lv_iadd hx hb dX8_spell_52 ?_
  refine lv_iload hx hb dX8_spell_53 (lv_at hl 7 rfl) ?_
  obtain ⟨c11, hf⟩ := gd_e hf
  refine va_iast hx hb hk.1 hP (zw_D okM hk _) hS 1 0 rfl rfl (inb_in c11) dX8_spell_55 (fun H locs hP1 _ hS => ?_)
  have hP : va_P (zD v) vwCl (pM.1 v (up g10.1 1 (upd (g10.1 1) ((a1 + (5 : Int32))).toNatClampNeg a7), g10.2)) H := hP1
  obtain ⟨g12, eg12, hf⟩ := lt_e hf
  rw [← eg12] at hP
  refine lv_aload_n hx hb dX8_spell_56 rfl (lv_at hl 0 rfl) ?_
  refine va_get (D := zD v) (ci := 7) (v := .ref (zA v 1)) (C := RX8) (T := TX8) (N := 55) hx hb hts iX8 hown hk.1 hP 0 rfl rfl 1 (by decide) (hts _ fl_X8_13) (fun _ h9 => h9) rfl dX8_spell_57 ?_
  refine lv_iload_n hx hb dX8_spell_60 rfl (lv_at hl 1 rfl) ?_
  refine lv_bipush (v := 6) hx hb dX8_spell_61 kB_6 ?_
  refine lv_iadd hx hb dX8_spell_63 ?_
  refine lv_iload hx hb dX8_spell_64 (lv_at hl 8 rfl) ?_
  obtain ⟨c13, hf⟩ := gd_e hf
  refine va_iast hx hb hk.1 hP (zw_D okM hk _) hS 1 0 rfl rfl (inb_in c13) dX8_spell_66 (fun H locs hP1 _ hS => ?_)
  have hP : va_P (zD v) vwCl (pM.1 v (up g12.1 1 (upd (g12.1 1) ((a1 + (6 : Int32))).toNatClampNeg a8), g12.2)) H := hP1
  obtain ⟨g14, eg14, hf⟩ := lt_e hf
  rw [← eg14] at hP
  refine lv_aload_n hx hb dX8_spell_67 rfl (lv_at hl 0 rfl) ?_
  refine va_get (D := zD v) (ci := 7) (v := .ref (zA v 1)) (C := RX8) (T := TX8) (N := 55) hx hb hts iX8 hown hk.1 hP 0 rfl rfl 1 (by decide) (hts _ fl_X8_13) (fun _ h9 => h9) rfl dX8_spell_68 ?_
  refine lv_iload_n hx hb dX8_spell_71 rfl (lv_at hl 1 rfl) ?_
  refine lv_bipush (v := 7) hx hb dX8_spell_72 kB_7 ?_
  refine lv_iadd hx hb dX8_spell_74 ?_
  refine lv_iload hx hb dX8_spell_75 (lv_at hl 9 rfl) ?_
  obtain ⟨c15, hf⟩ := gd_e hf
  refine va_iast hx hb hk.1 hP (zw_D okM hk _) hS 1 0 rfl rfl (inb_in c15) dX8_spell_77 (fun H locs hP1 _ hS => ?_)
  have hP : va_P (zD v) vwCl (pM.1 v (up g14.1 1 (upd (g14.1 1) ((a1 + (7 : Int32))).toNatClampNeg a9), g14.2)) H := hP1
  obtain ⟨g16, eg16, hf⟩ := lt_e hf
  rw [← eg16] at hP
  exact hret _ _ _ _ _ (Option.some.inj hf) hP hS dX8_spell_78
abbrev rm_X8_isMake : Room := { frames := 2, cells := 0, slots := 0, locals := 85 }
set_option maxRecDepth 100000 in
theorem t_X8_isMake (l : Launch) (v : Ev) (N : Nat) (a1 : Int32) (g : SM) (res : Int32 × SM) (hf : x_X8_isMake N a1 g = some res) : Ci l yX8_isMake cX8_isMake 2 .boolean rm_X8_isMake pM v [.ref (zA v 0), .int a1] g res := by
  refine ze_i (by decide +kernel) (Nat.le_of_ble_eq_true rfl) ?_
  intro p e s m args below meth c Q ls hcx hret hP hl
  obtain ⟨hx, hb, hml, hown, hts, hk⟩ := hcx
  have hown : s.vm.findClass RX8 = some m.cls := hown
  have hS : va_S (An nM v) s.heap s.heap [] := va_S.rf
  have hl : lv_has ls 2 [(0, .ref (zA v 0)), (1, .int a1)] := hl
  unfold x_X8_isMake at hf
  refine lv_iload_n hx hb dX8_isMake_0 rfl (lv_at hl 1 rfl) ?_
  refine lv_i2l hx hb dX8_isMake_1 rfl ?_
  refine lv_lconst (v := 0) hx hb dX8_isMake_2 kL_0 ?_
  refine lv_aload_n hx hb dX8_isMake_3 rfl (lv_at hl 0 rfl) ?_
  refine va_get (D := zD v) (ci := 7) (v := .int (g.1 0 15)) (C := RX8) (T := TX8) (N := 55) hx hb hts iX8 hown hk.1 hP 0 rfl rfl 15 (by decide) (hts _ fl_X8_97) (fun _ h9 => h9) rfl dX8_isMake_4 ?_
  refine lv_iconst (v := 1) hx hb dX8_isMake_7 kI_1 ?_
  refine lv_isub hx hb dX8_isMake_8 ?_
  refine lv_i2l hx hb dX8_isMake_9 rfl ?_
  obtain ⟨q1, eq1, hf⟩ := bd_e hf
  refine zki hS (zrS (As := [.long ((a1).toInt64), .long (0 : Int64), .long ((((g.1 0 15) - (1 : Int32))).toInt64)]) (rest := []) okM hx hb hml hown hts hk hP hS (t_X8_in l v N ((a1).toInt64) (0 : Int64) ((((g.1 0 15) - (1 : Int32))).toInt64) g _ eq1) sk_X8_in ml_X8_100 rfl rfl ⟨(Nat.le_of_ble_eq_true rfl), (Nat.le_of_ble_eq_true rfl)⟩ rfl hl.1 rfl (Nat.le_of_ble_eq_true rfl) dX8_isMake_10) (fun H locs hP hS => ?_)
  obtain ⟨c2, hf⟩ := gd_e hf
  exact hret _ _ _ _ _ _ (Or.inr (nb01 c2)) (Option.some.inj hf) hP hS dX8_isMake_13
abbrev rm_X8_isFoot : Room := { frames := 2, cells := 0, slots := 0, locals := 85 }
set_option maxRecDepth 100000 in
theorem t_X8_isFoot (l : Launch) (v : Ev) (N : Nat) (a0 : Int32) (g : SM) (res : Int32 × SM) (hf : x_X8_isFoot N a0 g = some res) : Ci l yX8_isFoot cX8_isFoot 1 .boolean rm_X8_isFoot pM v [.int a0] g res := by
  refine ze_i (by decide +kernel) (Nat.le_of_ble_eq_true rfl) ?_
  intro p e s m args below meth c Q ls hcx hret hP hl
  obtain ⟨hx, hb, hml, hown, hts, hk⟩ := hcx
  have hown : s.vm.findClass RX8 = some m.cls := hown
  have hS : va_S (An nM v) s.heap s.heap [] := va_S.rf
  have hl : lv_has ls 1 [(0, .int a0)] := hl
  unfold x_X8_isFoot at hf
  refine lv_iload_n hx hb dX8_isFoot_0 rfl (lv_at hl 0 rfl) ?_
  refine lv_i2l hx hb dX8_isFoot_1 rfl ?_
  refine lv_lconst (v := 0) hx hb dX8_isFoot_2 kL_0 ?_
  refine lv_ldc2 (v := 99) hx hb hown (hts _ kc_X8_104) dX8_isFoot_3 ?_
  obtain ⟨q1, eq1, hf⟩ := bd_e hf
  refine zki hS (zrS (As := [.long ((a0).toInt64), .long (0 : Int64), .long (99 : Int64)]) (rest := []) okM hx hb hml hown hts hk hP hS (t_X8_in l v N ((a0).toInt64) (0 : Int64) (99 : Int64) g _ eq1) sk_X8_in ml_X8_100 rfl rfl ⟨(Nat.le_of_ble_eq_true rfl), (Nat.le_of_ble_eq_true rfl)⟩ rfl hl.1 rfl (Nat.le_of_ble_eq_true rfl) dX8_isFoot_6) (fun H locs hP hS => ?_)
  obtain ⟨c2, hf⟩ := gd_e hf
  exact hret _ _ _ _ _ _ (Or.inr (nb01 c2)) (Option.some.inj hf) hP hS dX8_isFoot_9
abbrev rm_X8_byteAt : Room := { frames := 1, cells := 0, slots := 0, locals := 60 }
set_option maxRecDepth 100000 in
theorem t_X8_byteAt (l : Launch) (v : Ev) (N : Nat) (a1 : Int32) (g : SM) (res : Int32 × SM) (hf : x_X8_byteAt N a1 g = some res) : Ci l yX8_byteAt cX8_byteAt 2 .int rm_X8_byteAt pM v [.ref (zA v 0), .int a1] g res := by
  refine ze_i (by decide +kernel) (Nat.le_of_ble_eq_true rfl) ?_
  intro p e s m args below meth c Q ls hcx hret hP hl
  obtain ⟨hx, hb, hml, hown, hts, hk⟩ := hcx
  have hown : s.vm.findClass RX8 = some m.cls := hown
  have hS : va_S (An nM v) s.heap s.heap [] := va_S.rf
  have hl : lv_has ls 2 [(0, .ref (zA v 0)), (1, .int a1)] := hl
  unfold x_X8_byteAt at hf
  refine lv_iload_n hx hb dX8_byteAt_0 rfl (lv_at hl 1 rfl) ?_
  refine lv_aload_n hx hb dX8_byteAt_1 rfl (lv_at hl 0 rfl) ?_
  refine va_get (D := zD v) (ci := 7) (v := .int (g.1 0 23)) (C := RX8) (T := TX8) (N := 55) hx hb hts iX8 hown hk.1 hP 0 rfl rfl 23 (by decide) (hts _ fl_X8_156) (fun _ h9 => h9) rfl dX8_byteAt_2 ?_
  refine lv_icmp_ge (tgt := 22) hx hb dX8_byteAt_5 (by decide) (fun c1 => ?_) (fun c1 => ?_)
  · have hf := ite_t c1 hf
    refine lv_iconst (v := -1) hx hb dX8_byteAt_22 kI_m1 ?_
    exact hret _ _ _ _ _ _ (Or.inl rfl) (Option.some.inj hf) hP hS dX8_byteAt_23
  · have hf := ite_f c1 hf
    refine lv_aload_n hx hb dX8_byteAt_8 rfl (lv_at hl 0 rfl) ?_
    refine va_get (D := zD v) (ci := 7) (v := .ref (zA v 1)) (C := RX8) (T := TX8) (N := 55) hx hb hts iX8 hown hk.1 hP 0 rfl rfl 1 (by decide) (hts _ fl_X8_13) (fun _ h9 => h9) rfl dX8_byteAt_9 ?_
    refine lv_aload_n hx hb dX8_byteAt_12 rfl (lv_at hl 0 rfl) ?_
    refine va_get (D := zD v) (ci := 7) (v := .int (g.1 0 22)) (C := RX8) (T := TX8) (N := 55) hx hb hts iX8 hown hk.1 hP 0 rfl rfl 22 (by decide) (hts _ fl_X8_159) (fun _ h9 => h9) rfl dX8_byteAt_13 ?_
    refine lv_iload_n hx hb dX8_byteAt_16 rfl (lv_at hl 1 rfl) ?_
    refine lv_iadd hx hb dX8_byteAt_17 ?_
    obtain ⟨c2, hf⟩ := gd_e hf
    refine va_iald hx hb hk.1 hP 1 0 rfl rfl (inb_in c2) dX8_byteAt_18 ?_
    refine lv_goto (tgt := 23) hx hb dX8_byteAt_19 (by decide) ?_
    exact hret _ _ _ _ _ _ (Or.inl rfl) (Option.some.inj hf) hP hS dX8_byteAt_23
abbrev rm_X8_next : Room := { frames := 2, cells := 0, slots := 0, locals := 85 }
set_option maxRecDepth 100000 in
theorem t_X8_next (l : Launch) (v : Ev) (N : Nat) (g : SM) (res : SM) (hf : x_X8_next N g = some res) : Cv l yX8_next cX8_next 3 rm_X8_next pM v [.ref (zA v 0)] g res := by
  refine ze_v (by decide +kernel) (Nat.le_of_ble_eq_true rfl) ?_
  intro p e s m args below meth c Q ls hcx hret hP hl
  obtain ⟨hx, hb, hml, hown, hts, hk⟩ := hcx
  have hown : s.vm.findClass RX8 = some m.cls := hown
  have hS : va_S (An nM v) s.heap s.heap [] := va_S.rf
  have hl : lv_has ls 3 [(0, .ref (zA v 0))] := hl
  have wb26 : ∀ (h0 : SM → Option (SM)) (hh0 : ∀ x : SM, h0 x = some res → ∀ (H : Heap) (locs : List Loc) (ls : Array Slot), va_P (zD v) vwCl (pM.1 v x) H → va_S (An nM v) s.heap H locs → lv_has ls 3 [(0, .ref (zA v 0))] → W p l e rm_X8_next s m args below meth c H locs 0 0 Q (F0 m 0 ls [])) (g : SM) (hf : x_X8_next_b26 N h0 g = some res) (H : Heap) (locs : List Loc) (ls : Array Slot) (hP : va_P (zD v) vwCl (pM.1 v g) H) (hS : va_S (An nM v) s.heap H locs) (hl : lv_has ls 3 [(0, .ref (zA v 0))]), W p l e rm_X8_next s m args below meth c H locs 0 0 Q (F0 m 26 ls []) := by
    intro h0 hh0 g hf H locs ls hP hS hl
    unfold x_X8_next_b26 at hf
    refine lv_aload_n hx hb dX8_next_26 rfl (lv_at hl 0 rfl) ?_
    refine lv_dup hx hb dX8_next_27 rfl ?_
    refine va_get (D := zD v) (ci := 7) (v := .int (g.1 0 24)) (C := RX8) (T := TX8) (N := 55) hx hb hts iX8 hown hk.1 hP 0 rfl rfl 24 (by decide) (hts _ fl_X8_162) (fun _ h9 => h9) rfl dX8_next_28 ?_
    refine lv_iconst (v := 1) hx hb dX8_next_31 kI_1 ?_
    refine lv_iadd hx hb dX8_next_32 ?_
    refine va_put (D := zD v) (ci := 7) (v := .int ((g.1 0 24) + (1 : Int32))) (ty := .int) (C := RX8) (T := TX8) (N := 55) hx hb hts iX8 tyX8 tyX8_ok nmX8 hown hk.1 hP (zw_D okM hk _) hS 0 rfl rfl 24 (by decide) (hts _ fl_X8_162) (fun _ h9 => h9) rfl pd_I rfl rfl (Nat.le_of_ble_eq_true rfl) dX8_next_33 (fun H locs hP1 _ hS => ?_)
    have hP : va_P (zD v) vwCl (pM.1 v (up g.1 0 (upd (g.1 0) 24 ((g.1 0 24) + (1 : Int32))), g.2)) H := hP1
    obtain ⟨g3, eg3, hf⟩ := lt_e hf
    rw [← eg3] at hP
    refine lv_goto (tgt := 0) hx hb dX8_next_36 (by decide) ?_
    exact hh0 g3 hf _ _ _ hP hS (lv_sub hl [0] rfl)
  have wb300 : ∀ (y1 : Int32) (g : SM) (hf : x_X8_next_b300 N y1 g = some res) (H : Heap) (locs : List Loc) (ls : Array Slot) (hP : va_P (zD v) vwCl (pM.1 v g) H) (hS : va_S (An nM v) s.heap H locs) (hl : lv_has ls 3 [(0, .ref (zA v 0)), (1, .int y1)]), W p l e rm_X8_next s m args below meth c H locs 0 0 Q (F0 m 300 ls []) := by
    intro y1 g hf H locs ls hP hS hl
    unfold x_X8_next_b300 at hf
    refine lv_aload_n hx hb dX8_next_300 rfl (lv_at hl 0 rfl) ?_
    refine lv_iconst (v := 3) hx hb dX8_next_301 kI_3 ?_
    refine va_put (D := zD v) (ci := 7) (v := .int (3 : Int32)) (ty := .int) (C := RX8) (T := TX8) (N := 55) hx hb hts iX8 tyX8 tyX8_ok nmX8 hown hk.1 hP (zw_D okM hk _) hS 0 rfl rfl 25 (by decide) (hts _ fl_X8_171) (fun _ h9 => h9) rfl pd_I rfl rfl (Nat.le_of_ble_eq_true rfl) dX8_next_302 (fun H locs hP1 _ hS => ?_)
    have hP : va_P (zD v) vwCl (pM.1 v (up g.1 0 (upd (g.1 0) 25 (3 : Int32)), g.2)) H := hP1
    obtain ⟨g15, eg15, hf⟩ := lt_e hf
    rw [← eg15] at hP
    refine lv_aload_n hx hb dX8_next_305 rfl (lv_at hl 0 rfl) ?_
    refine lv_iload_n hx hb dX8_next_306 rfl (lv_at hl 1 rfl) ?_
    refine lv_i2l hx hb dX8_next_307 rfl ?_
    refine va_put (D := zD v) (ci := 7) (v := .long ((y1).toInt64)) (ty := .long) (C := RX8) (T := TX8) (N := 55) hx hb hts iX8 tyX8 tyX8_ok nmX8 hown hk.1 hP (zw_D okM hk _) hS 0 rfl rfl 27 (by decide) (hts _ fl_X8_182) (fun _ h9 => h9) rfl pd_J rfl rfl (Nat.le_of_ble_eq_true rfl) dX8_next_308 (fun H locs hP1 _ hS => ?_)
    have hP : va_P (zD v) vwCl (pM.1 v (g15.1, ((y1).toInt64))) H := hP1
    obtain ⟨g16, eg16, hf⟩ := lt_e hf
    rw [← eg16] at hP
    refine lv_aload_n hx hb dX8_next_311 rfl (lv_at hl 0 rfl) ?_
    refine lv_dup hx hb dX8_next_312 rfl ?_
    refine va_get (D := zD v) (ci := 7) (v := .int (g16.1 0 24)) (C := RX8) (T := TX8) (N := 55) hx hb hts iX8 hown hk.1 hP 0 rfl rfl 24 (by decide) (hts _ fl_X8_162) (fun _ h9 => h9) rfl dX8_next_313 ?_
    refine lv_iconst (v := 1) hx hb dX8_next_316 kI_1 ?_
    refine lv_iadd hx hb dX8_next_317 ?_
    refine va_put (D := zD v) (ci := 7) (v := .int ((g16.1 0 24) + (1 : Int32))) (ty := .int) (C := RX8) (T := TX8) (N := 55) hx hb hts iX8 tyX8 tyX8_ok nmX8 hown hk.1 hP (zw_D okM hk _) hS 0 rfl rfl 24 (by decide) (hts _ fl_X8_162) (fun _ h9 => h9) rfl pd_I rfl rfl (Nat.le_of_ble_eq_true rfl) dX8_next_318 (fun H locs hP1 _ hS => ?_)
    have hP : va_P (zD v) vwCl (pM.1 v (up g16.1 0 (upd (g16.1 0) 24 ((g16.1 0 24) + (1 : Int32))), g16.2)) H := hP1
    obtain ⟨g17, eg17, hf⟩ := lt_e hf
    rw [← eg17] at hP
    exact hret _ _ _ _ _ (Option.some.inj hf) hP hS dX8_next_321
  have wb246 : ∀ (t0 : Int32) (g : SM) (hf : x_X8_next_b246 N t0 g = some res) (H : Heap) (locs : List Loc) (ls : Array Slot) (hP : va_P (zD v) vwCl (pM.1 v g) H) (hS : va_S (An nM v) s.heap H locs) (hl : lv_has ls 3 []), W p l e rm_X8_next s m args below meth c H locs 0 0 Q (F0 m 246 ls [.int t0, .ref (zA v 0)]) := by
    intro t0 g hf H locs ls hP hS hl
    unfold x_X8_next_b246 at hf
    refine va_put (D := zD v) (ci := 7) (v := .int t0) (ty := .int) (C := RX8) (T := TX8) (N := 55) hx hb hts iX8 tyX8 tyX8_ok nmX8 hown hk.1 hP (zw_D okM hk _) hS 0 rfl rfl 25 (by decide) (hts _ fl_X8_171) (fun _ h9 => h9) rfl pd_I rfl rfl (Nat.le_of_ble_eq_true rfl) dX8_next_246 (fun H locs hP1 _ hS => ?_)
    have hP : va_P (zD v) vwCl (pM.1 v (up g.1 0 (upd (g.1 0) 25 t0), g.2)) H := hP1
    obtain ⟨g31, eg31, hf⟩ := lt_e hf
    rw [← eg31] at hP
    refine lv_goto (tgt := 321) hx hb dX8_next_249 (by decide) ?_
    exact hret _ _ _ _ _ (Option.some.inj hf) hP hS dX8_next_321
  have wb216 : ∀ (h160 : Int32 × SM → Option (SM)) (hh160 : ∀ x : Int32 × SM, h160 x = some res → ∀ (H : Heap) (locs : List Loc) (ls : Array Slot), va_P (zD v) vwCl (pM.1 v x.2) H → va_S (An nM v) s.heap H locs → lv_has ls 3 [(0, .ref (zA v 0)), (2, .int x.1)] → W p l e rm_X8_next s m args below meth c H locs 0 0 Q (F0 m 160 ls [])) (y2 : Int32) (t0 : Int64) (g : SM) (hf : x_X8_next_b216 N h160 y2 t0 g = some res) (H : Heap) (locs : List Loc) (ls : Array Slot) (hP : va_P (zD v) vwCl (pM.1 v g) H) (hS : va_S (An nM v) s.heap H locs) (hl : lv_has ls 3 [(0, .ref (zA v 0)), (2, .int y2)]), W p l e rm_X8_next s m args below meth c H locs 0 0 Q (F0 m 216 ls [.long t0, .ref (zA v 0)]) := by
    intro h160 hh160 y2 t0 g hf H locs ls hP hS hl
    unfold x_X8_next_b216 at hf
    refine va_put (D := zD v) (ci := 7) (v := .long t0) (ty := .long) (C := RX8) (T := TX8) (N := 55) hx hb hts iX8 tyX8 tyX8_ok nmX8 hown hk.1 hP (zw_D okM hk _) hS 0 rfl rfl 27 (by decide) (hts _ fl_X8_182) (fun _ h9 => h9) rfl pd_J rfl rfl (Nat.le_of_ble_eq_true rfl) dX8_next_216 (fun H locs hP1 _ hS => ?_)
    have hP : va_P (zD v) vwCl (pM.1 v (g.1, t0)) H := hP1
    obtain ⟨g33, eg33, hf⟩ := lt_e hf
    rw [← eg33] at hP
    obtain ⟨x34, ex34, hf⟩ := lt_e hf
    refine lv_iinc (v := x34) (lv' := [(2, .int x34), (0, .ref (zA v 0))]) hx hb dX8_next_219 hl (k := 1) rfl ((congrArg (fun z => y2 + z) kI_1).trans ex34.symm) (by decide) rfl (fun ls hl => ?_)
    refine lv_aload_n hx hb dX8_next_222 rfl (lv_at hl 1 rfl) ?_
    refine lv_dup hx hb dX8_next_223 rfl ?_
    refine va_get (D := zD v) (ci := 7) (v := .int (g33.1 0 24)) (C := RX8) (T := TX8) (N := 55) hx hb hts iX8 hown hk.1 hP 0 rfl rfl 24 (by decide) (hts _ fl_X8_162) (fun _ h9 => h9) rfl dX8_next_224 ?_
    refine lv_iconst (v := 1) hx hb dX8_next_227 kI_1 ?_
    refine lv_iadd hx hb dX8_next_228 ?_
    refine va_put (D := zD v) (ci := 7) (v := .int ((g33.1 0 24) + (1 : Int32))) (ty := .int) (C := RX8) (T := TX8) (N := 55) hx hb hts iX8 tyX8 tyX8_ok nmX8 hown hk.1 hP (zw_D okM hk _) hS 0 rfl rfl 24 (by decide) (hts _ fl_X8_162) (fun _ h9 => h9) rfl pd_I rfl rfl (Nat.le_of_ble_eq_true rfl) dX8_next_229 (fun H locs hP1 _ hS => ?_)
    have hP : va_P (zD v) vwCl (pM.1 v (up g33.1 0 (upd (g33.1 0) 24 ((g33.1 0 24) + (1 : Int32))), g33.2)) H := hP1
    obtain ⟨g35, eg35, hf⟩ := lt_e hf
    rw [← eg35] at hP
    refine lv_goto (tgt := 160) hx hb dX8_next_232 (by decide) ?_
    exact hh160 (x34, g35) hf _ _ _ hP hS (lv_sub hl [1, 0] rfl)
  have wL160 : ∀ (n : Nat) (x : Int32 × SM), lp (x_X8_next_B160 N) n x = some res → ∀ (H : Heap) (locs : List Loc) (ls : Array Slot), va_P (zD v) vwCl (pM.1 v x.2) H → va_S (An nM v) s.heap H locs → lv_has ls 3 [(0, .ref (zA v 0)), (2, .int x.1)] → W p l e rm_X8_next s m args below meth c H locs 0 0 Q (F0 m 160 ls []) := by
    refine lp_w (P := fun x : Int32 × SM => ∀ (H : Heap) (locs : List Loc) (ls : Array Slot), va_P (zD v) vwCl (pM.1 v x.2) H → va_S (An nM v) s.heap H locs → lv_has ls 3 [(0, .ref (zA v 0)), (2, .int x.1)] → W p l e rm_X8_next s m args below meth c H locs 0 0 Q (F0 m 160 ls [])) ?_
    intro h160 hh160 x hf H locs ls hP hS hl
    unfold x_X8_next_B160 at hf
    refine lv_aload_n hx hb dX8_next_160 rfl (lv_at hl 0 rfl) ?_
    refine lv_aload_n hx hb dX8_next_161 rfl (lv_at hl 0 rfl) ?_
    refine va_get (D := zD v) (ci := 7) (v := .int (x.2.1 0 24)) (C := RX8) (T := TX8) (N := 55) hx hb hts iX8 hown hk.1 hP 0 rfl rfl 24 (by decide) (hts _ fl_X8_162) (fun _ h9 => h9) rfl dX8_next_162 ?_
    obtain ⟨q27, eq27, hf⟩ := bd_e hf
    refine zki hS (zrV (As := [.int (x.2.1 0 24)]) (rest := []) okM hx hb hml hown hts hk hP hS (t_X8_byteAt l v N (x.2.1 0 24) x.2 _ eq27) vk_X8_byteAt ml_X8_165 rfl rfl ⟨(Nat.le_of_ble_eq_true rfl), (Nat.le_of_ble_eq_true rfl)⟩ (va_recv (q := (RX8, TX8, 55)) hk.1 hP (q0 := 0) (ci := 7) rfl rfl) rfl hl.1 rfl (Nat.le_of_ble_eq_true rfl) dX8_next_165) (fun H locs hP hS => ?_)
    refine lv_i2l hx hb dX8_next_168 rfl ?_
    refine lv_ldc2 (v := 48) hx hb hown (hts _ kc_X8_178) dX8_next_169 ?_
    refine lv_ldc2 (v := 57) hx hb hown (hts _ kc_X8_180) dX8_next_172 ?_
    obtain ⟨q28, eq28, hf⟩ := bd_e hf
    refine zki hS (zrS (As := [.long ((q27.1).toInt64), .long (48 : Int64), .long (57 : Int64)]) (rest := []) okM hx hb hml hown hts hk hP hS (t_X8_in l v N ((q27.1).toInt64) (48 : Int64) (57 : Int64) q27.2 _ eq28) sk_X8_in ml_X8_100 rfl rfl ⟨(Nat.le_of_ble_eq_true rfl), (Nat.le_of_ble_eq_true rfl)⟩ rfl hl.1 rfl (Nat.le_of_ble_eq_true rfl) dX8_next_175) (fun H locs hP hS => ?_)
    refine lv_if_eq (tgt := 235) hx hb dX8_next_178 (by decide) (fun c29 => ?_) (fun c29 => ?_)
    · have hf := ite_t c29 hf
      refine lv_aload_n hx hb dX8_next_235 rfl (lv_at hl 0 rfl) ?_
      refine lv_iload_n hx hb dX8_next_236 rfl (lv_at hl 1 rfl) ?_
      refine lv_iconst (v := 4) hx hb dX8_next_237 kI_4 ?_
      refine lv_icmp_le (tgt := 245) hx hb dX8_next_238 (by decide) (fun c30 => ?_) (fun c30 => ?_)
      · have hf := ite_t c30 hf
        refine lv_iconst (v := 2) hx hb dX8_next_245 kI_2 ?_
        exact wb246 (2 : Int32) q28.2 hf _ _ _ hP hS (lv_sub hl [] rfl)
      · have hf := ite_f c30 hf
        refine lv_iconst (v := 4) hx hb dX8_next_241 kI_4 ?_
        refine lv_goto (tgt := 246) hx hb dX8_next_242 (by decide) ?_
        exact wb246 (4 : Int32) q28.2 hf _ _ _ hP hS (lv_sub hl [] rfl)
    · have hf := ite_f c29 hf
      refine lv_aload_n hx hb dX8_next_181 rfl (lv_at hl 0 rfl) ?_
      refine lv_iload_n hx hb dX8_next_182 rfl (lv_at hl 1 rfl) ?_
      refine lv_iconst (v := 4) hx hb dX8_next_183 kI_4 ?_
      refine lv_icmp_ge (tgt := 212) hx hb dX8_next_184 (by decide) (fun c32 => ?_) (fun c32 => ?_)
      · have hf := ite_t c32 hf
        refine lv_aload_n hx hb dX8_next_212 rfl (lv_at hl 0 rfl) ?_
        refine va_get (D := zD v) (ci := 7) (v := .long q28.2.2) (C := RX8) (T := TX8) (N := 55) hx hb hts iX8 hown hk.1 hP 0 rfl rfl 27 (by decide) (hts _ fl_X8_182) (fun _ h9 => h9) rfl dX8_next_213 ?_
        exact wb216 h160 hh160 x.1 q28.2.2 q28.2 hf _ _ _ hP hS (lv_sub hl [0, 1] rfl)
      · have hf := ite_f c32 hf
        refine lv_ldc2 (v := 10) hx hb hown (hts _ kc_X8_186) dX8_next_187 ?_
        refine lv_aload_n hx hb dX8_next_190 rfl (lv_at hl 0 rfl) ?_
        refine va_get (D := zD v) (ci := 7) (v := .long q28.2.2) (C := RX8) (T := TX8) (N := 55) hx hb hts iX8 hown hk.1 hP 0 rfl rfl 27 (by decide) (hts _ fl_X8_182) (fun _ h9 => h9) rfl dX8_next_191 ?_
        refine lv_lmul hx hb dX8_next_194 ?_
        refine lv_aload_n hx hb dX8_next_195 rfl (lv_at hl 0 rfl) ?_
        refine lv_aload_n hx hb dX8_next_196 rfl (lv_at hl 0 rfl) ?_
        refine va_get (D := zD v) (ci := 7) (v := .int (q28.2.1 0 24)) (C := RX8) (T := TX8) (N := 55) hx hb hts iX8 hown hk.1 hP 0 rfl rfl 24 (by decide) (hts _ fl_X8_162) (fun _ h9 => h9) rfl dX8_next_197 ?_
        obtain ⟨q36, eq36, hf⟩ := bd_e hf
        refine zki hS (zrV (As := [.int (q28.2.1 0 24)]) (rest := [.long ((10 : Int64) * q28.2.2), .ref (zA v 0)]) okM hx hb hml hown hts hk hP hS (t_X8_byteAt l v N (q28.2.1 0 24) q28.2 _ eq36) vk_X8_byteAt ml_X8_165 rfl rfl ⟨(Nat.le_of_ble_eq_true rfl), (Nat.le_of_ble_eq_true rfl)⟩ (va_recv (q := (RX8, TX8, 55)) hk.1 hP (q0 := 0) (ci := 7) rfl rfl) rfl hl.1 rfl (Nat.le_of_ble_eq_true rfl) dX8_next_200) (fun H locs hP hS => ?_)
        refine lv_i2l hx hb dX8_next_203 rfl ?_
        refine lv_ladd hx hb dX8_next_204 ?_
        refine lv_ldc2 (v := 48) hx hb hown (hts _ kc_X8_178) dX8_next_205 ?_
        refine lv_lsub hx hb dX8_next_208 ?_
        refine lv_goto (tgt := 216) hx hb dX8_next_209 (by decide) ?_
        exact wb216 h160 hh160 x.1 ((((10 : Int64) * q28.2.2) + ((q36.1).toInt64)) - (48 : Int64)) q36.2 hf _ _ _ hP hS (lv_sub hl [0, 1] rfl)
  have wL100 : ∀ (n : Nat) (x : SM), lp (x_X8_next_B100 N) n x = some res → ∀ (H : Heap) (locs : List Loc) (ls : Array Slot), va_P (zD v) vwCl (pM.1 v x) H → va_S (An nM v) s.heap H locs → lv_has ls 3 [(0, .ref (zA v 0))] → W p l e rm_X8_next s m args below meth c H locs 0 0 Q (F0 m 100 ls []) := by
    refine lp_w (P := fun x : SM => ∀ (H : Heap) (locs : List Loc) (ls : Array Slot), va_P (zD v) vwCl (pM.1 v x) H → va_S (An nM v) s.heap H locs → lv_has ls 3 [(0, .ref (zA v 0))] → W p l e rm_X8_next s m args below meth c H locs 0 0 Q (F0 m 100 ls [])) ?_
    intro h100 hh100 x hf H locs ls hP hS hl
    unfold x_X8_next_B100 at hf
    refine lv_aload_n hx hb dX8_next_100 rfl (lv_at hl 0 rfl) ?_
    refine lv_aload_n hx hb dX8_next_101 rfl (lv_at hl 0 rfl) ?_
    refine va_get (D := zD v) (ci := 7) (v := .int (x.1 0 24)) (C := RX8) (T := TX8) (N := 55) hx hb hts iX8 hown hk.1 hP 0 rfl rfl 24 (by decide) (hts _ fl_X8_162) (fun _ h9 => h9) rfl dX8_next_102 ?_
    obtain ⟨q38, eq38, hf⟩ := bd_e hf
    refine zki hS (zrV (As := [.int (x.1 0 24)]) (rest := []) okM hx hb hml hown hts hk hP hS (t_X8_byteAt l v N (x.1 0 24) x _ eq38) vk_X8_byteAt ml_X8_165 rfl rfl ⟨(Nat.le_of_ble_eq_true rfl), (Nat.le_of_ble_eq_true rfl)⟩ (va_recv (q := (RX8, TX8, 55)) hk.1 hP (q0 := 0) (ci := 7) rfl rfl) rfl hl.1 rfl (Nat.le_of_ble_eq_true rfl) dX8_next_105) (fun H locs hP hS => ?_)
    refine lv_i2l hx hb dX8_next_108 rfl ?_
    refine lv_ldc2 (v := 97) hx hb hown (hts _ kc_X8_174) dX8_next_109 ?_
    refine lv_ldc2 (v := 122) hx hb hown (hts _ kc_X8_176) dX8_next_112 ?_
    obtain ⟨q39, eq39, hf⟩ := bd_e hf
    refine zki hS (zrS (As := [.long ((q38.1).toInt64), .long (97 : Int64), .long (122 : Int64)]) (rest := []) okM hx hb hml hown hts hk hP hS (t_X8_in l v N ((q38.1).toInt64) (97 : Int64) (122 : Int64) q38.2 _ eq39) sk_X8_in ml_X8_100 rfl rfl ⟨(Nat.le_of_ble_eq_true rfl), (Nat.le_of_ble_eq_true rfl)⟩ rfl hl.1 rfl (Nat.le_of_ble_eq_true rfl) dX8_next_115) (fun H locs hP hS => ?_)
    refine lv_if_eq (tgt := 321) hx hb dX8_next_118 (by decide) (fun c40 => ?_) (fun c40 => ?_)
    · have hf := ite_t c40 hf
      exact hret _ _ _ _ _ (Option.some.inj hf) hP hS dX8_next_321
    · have hf := ite_f c40 hf
      refine lv_aload_n hx hb dX8_next_121 rfl (lv_at hl 0 rfl) ?_
      refine lv_dup hx hb dX8_next_122 rfl ?_
      refine va_get (D := zD v) (ci := 7) (v := .int (q39.2.1 0 24)) (C := RX8) (T := TX8) (N := 55) hx hb hts iX8 hown hk.1 hP 0 rfl rfl 24 (by decide) (hts _ fl_X8_162) (fun _ h9 => h9) rfl dX8_next_123 ?_
      refine lv_iconst (v := 1) hx hb dX8_next_126 kI_1 ?_
      refine lv_iadd hx hb dX8_next_127 ?_
      refine va_put (D := zD v) (ci := 7) (v := .int ((q39.2.1 0 24) + (1 : Int32))) (ty := .int) (C := RX8) (T := TX8) (N := 55) hx hb hts iX8 tyX8 tyX8_ok nmX8 hown hk.1 hP (zw_D okM hk _) hS 0 rfl rfl 24 (by decide) (hts _ fl_X8_162) (fun _ h9 => h9) rfl pd_I rfl rfl (Nat.le_of_ble_eq_true rfl) dX8_next_128 (fun H locs hP1 _ hS => ?_)
      have hP : va_P (zD v) vwCl (pM.1 v (up q39.2.1 0 (upd (q39.2.1 0) 24 ((q39.2.1 0 24) + (1 : Int32))), q39.2.2)) H := hP1
      obtain ⟨g41, eg41, hf⟩ := lt_e hf
      rw [← eg41] at hP
      refine lv_goto (tgt := 100) hx hb dX8_next_131 (by decide) ?_
      exact hh100 g41 hf _ _ _ hP hS (lv_sub hl [0] rfl)
  have wL0 : ∀ (n : Nat) (x : SM), lp (x_X8_next_B0 N) n x = some res → ∀ (H : Heap) (locs : List Loc) (ls : Array Slot), va_P (zD v) vwCl (pM.1 v x) H → va_S (An nM v) s.heap H locs → lv_has ls 3 [(0, .ref (zA v 0))] → W p l e rm_X8_next s m args below meth c H locs 0 0 Q (F0 m 0 ls []) := by
    refine lp_w (P := fun x : SM => ∀ (H : Heap) (locs : List Loc) (ls : Array Slot), va_P (zD v) vwCl (pM.1 v x) H → va_S (An nM v) s.heap H locs → lv_has ls 3 [(0, .ref (zA v 0))] → W p l e rm_X8_next s m args below meth c H locs 0 0 Q (F0 m 0 ls [])) ?_
    intro h0 hh0 x hf H locs ls hP hS hl
    unfold x_X8_next_B0 at hf
    refine lv_aload_n hx hb dX8_next_0 rfl (lv_at hl 0 rfl) ?_
    refine lv_aload_n hx hb dX8_next_1 rfl (lv_at hl 0 rfl) ?_
    refine va_get (D := zD v) (ci := 7) (v := .int (x.1 0 24)) (C := RX8) (T := TX8) (N := 55) hx hb hts iX8 hown hk.1 hP 0 rfl rfl 24 (by decide) (hts _ fl_X8_162) (fun _ h9 => h9) rfl dX8_next_2 ?_
    obtain ⟨q1, eq1, hf⟩ := bd_e hf
    refine zki hS (zrV (As := [.int (x.1 0 24)]) (rest := []) okM hx hb hml hown hts hk hP hS (t_X8_byteAt l v N (x.1 0 24) x _ eq1) vk_X8_byteAt ml_X8_165 rfl rfl ⟨(Nat.le_of_ble_eq_true rfl), (Nat.le_of_ble_eq_true rfl)⟩ (va_recv (q := (RX8, TX8, 55)) hk.1 hP (q0 := 0) (ci := 7) rfl rfl) rfl hl.1 rfl (Nat.le_of_ble_eq_true rfl) dX8_next_5) (fun H locs hP hS => ?_)
    refine lv_bipush (v := 32) hx hb dX8_next_8 kB_32 ?_
    refine lv_icmp_eq (tgt := 26) hx hb dX8_next_10 (by decide) (fun c2 => ?_) (fun c2 => ?_)
    · have hf := ite_t c2 hf
      exact wb26 h0 hh0 q1.2 hf _ _ _ hP hS (lv_sub hl [0] rfl)
    · have hf := ite_f c2 hf
      refine lv_aload_n hx hb dX8_next_13 rfl (lv_at hl 0 rfl) ?_
      refine lv_aload_n hx hb dX8_next_14 rfl (lv_at hl 0 rfl) ?_
      refine va_get (D := zD v) (ci := 7) (v := .int (q1.2.1 0 24)) (C := RX8) (T := TX8) (N := 55) hx hb hts iX8 hown hk.1 hP 0 rfl rfl 24 (by decide) (hts _ fl_X8_162) (fun _ h9 => h9) rfl dX8_next_15 ?_
      obtain ⟨q4, eq4, hf⟩ := bd_e hf
      refine zki hS (zrV (As := [.int (q1.2.1 0 24)]) (rest := []) okM hx hb hml hown hts hk hP hS (t_X8_byteAt l v N (q1.2.1 0 24) q1.2 _ eq4) vk_X8_byteAt ml_X8_165 rfl rfl ⟨(Nat.le_of_ble_eq_true rfl), (Nat.le_of_ble_eq_true rfl)⟩ (va_recv (q := (RX8, TX8, 55)) hk.1 hP (q0 := 0) (ci := 7) rfl rfl) rfl hl.1 rfl (Nat.le_of_ble_eq_true rfl) dX8_next_18) (fun H locs hP hS => ?_)
      refine lv_bipush (v := 10) hx hb dX8_next_21 kB_10 ?_
      refine lv_icmp_ne (tgt := 39) hx hb dX8_next_23 (by decide) (fun c5 => ?_) (fun c5 => ?_)
      · have hf := ite_f c5 hf
        refine lv_aload_n hx hb dX8_next_39 rfl (lv_at hl 0 rfl) ?_
        refine lv_aload_n hx hb dX8_next_40 rfl (lv_at hl 0 rfl) ?_
        refine va_get (D := zD v) (ci := 7) (v := .int (q4.2.1 0 24)) (C := RX8) (T := TX8) (N := 55) hx hb hts iX8 hown hk.1 hP 0 rfl rfl 24 (by decide) (hts _ fl_X8_162) (fun _ h9 => h9) rfl dX8_next_41 ?_
        refine va_put (D := zD v) (ci := 7) (v := .int (q4.2.1 0 24)) (ty := .int) (C := RX8) (T := TX8) (N := 55) hx hb hts iX8 tyX8 tyX8_ok nmX8 hown hk.1 hP (zw_D okM hk _) hS 0 rfl rfl 26 (by decide) (hts _ fl_X8_168) (fun _ h9 => h9) rfl pd_I rfl rfl (Nat.le_of_ble_eq_true rfl) dX8_next_44 (fun H locs hP1 _ hS => ?_)
        have hP : va_P (zD v) vwCl (pM.1 v (up q4.2.1 0 (upd (q4.2.1 0) 26 (q4.2.1 0 24)), q4.2.2)) H := hP1
        obtain ⟨g6, eg6, hf⟩ := lt_e hf
        rw [← eg6] at hP
        refine lv_aload_n hx hb dX8_next_47 rfl (lv_at hl 0 rfl) ?_
        refine lv_aload_n hx hb dX8_next_48 rfl (lv_at hl 0 rfl) ?_
        refine va_get (D := zD v) (ci := 7) (v := .int (g6.1 0 24)) (C := RX8) (T := TX8) (N := 55) hx hb hts iX8 hown hk.1 hP 0 rfl rfl 24 (by decide) (hts _ fl_X8_162) (fun _ h9 => h9) rfl dX8_next_49 ?_
        obtain ⟨q7, eq7, hf⟩ := bd_e hf
        refine zki hS (zrV (As := [.int (g6.1 0 24)]) (rest := []) okM hx hb hml hown hts hk hP hS (t_X8_byteAt l v N (g6.1 0 24) g6 _ eq7) vk_X8_byteAt ml_X8_165 rfl rfl ⟨(Nat.le_of_ble_eq_true rfl), (Nat.le_of_ble_eq_true rfl)⟩ (va_recv (q := (RX8, TX8, 55)) hk.1 hP (q0 := 0) (ci := 7) rfl rfl) rfl hl.1 rfl (Nat.le_of_ble_eq_true rfl) dX8_next_52) (fun H locs hP hS => ?_)
        refine lv_istore_n (lv' := [(1, .int q7.1), (0, .ref (zA v 0))]) hx hb dX8_next_55 rfl hl (by decide) rfl (fun ls hl => ?_)
        refine lv_aload_n hx hb dX8_next_56 rfl (lv_at hl 1 rfl) ?_
        refine lv_iconst (v := 4) hx hb dX8_next_57 kI_4 ?_
        refine va_put (D := zD v) (ci := 7) (v := .int (4 : Int32)) (ty := .int) (C := RX8) (T := TX8) (N := 55) hx hb hts iX8 tyX8 tyX8_ok nmX8 hown hk.1 hP (zw_D okM hk _) hS 0 rfl rfl 25 (by decide) (hts _ fl_X8_171) (fun _ h9 => h9) rfl pd_I rfl rfl (Nat.le_of_ble_eq_true rfl) dX8_next_58 (fun H locs hP1 _ hS => ?_)
        have hP : va_P (zD v) vwCl (pM.1 v (up q7.2.1 0 (upd (q7.2.1 0) 25 (4 : Int32)), q7.2.2)) H := hP1
        obtain ⟨g8, eg8, hf⟩ := lt_e hf
        rw [← eg8] at hP
        refine lv_iload_n hx hb dX8_next_61 rfl (lv_at hl 0 rfl) ?_
        refine lv_if_ge (tgt := 81) hx hb dX8_next_62 (by decide) (fun c9 => ?_) (fun c9 => ?_)
        · have hf := ite_t c9 hf
          refine lv_iload_n hx hb dX8_next_81 rfl (lv_at hl 0 rfl) ?_
          refine lv_i2l hx hb dX8_next_82 rfl ?_
          refine lv_ldc2 (v := 97) hx hb hown (hts _ kc_X8_174) dX8_next_83 ?_
          refine lv_ldc2 (v := 122) hx hb hown (hts _ kc_X8_176) dX8_next_86 ?_
          obtain ⟨q10, eq10, hf⟩ := bd_e hf
          refine zki hS (zrS (As := [.long ((q7.1).toInt64), .long (97 : Int64), .long (122 : Int64)]) (rest := []) okM hx hb hml hown hts hk hP hS (t_X8_in l v N ((q7.1).toInt64) (97 : Int64) (122 : Int64) g8 _ eq10) sk_X8_in ml_X8_100 rfl rfl ⟨(Nat.le_of_ble_eq_true rfl), (Nat.le_of_ble_eq_true rfl)⟩ rfl hl.1 rfl (Nat.le_of_ble_eq_true rfl) dX8_next_89) (fun H locs hP hS => ?_)
          refine lv_if_eq (tgt := 134) hx hb dX8_next_92 (by decide) (fun c11 => ?_) (fun c11 => ?_)
          · have hf := ite_t c11 hf
            refine lv_iload_n hx hb dX8_next_134 rfl (lv_at hl 0 rfl) ?_
            refine lv_i2l hx hb dX8_next_135 rfl ?_
            refine lv_ldc2 (v := 48) hx hb hown (hts _ kc_X8_178) dX8_next_136 ?_
            refine lv_ldc2 (v := 57) hx hb hown (hts _ kc_X8_180) dX8_next_139 ?_
            obtain ⟨q12, eq12, hf⟩ := bd_e hf
            refine zki hS (zrS (As := [.long ((q7.1).toInt64), .long (48 : Int64), .long (57 : Int64)]) (rest := []) okM hx hb hml hown hts hk hP hS (t_X8_in l v N ((q7.1).toInt64) (48 : Int64) (57 : Int64) q10.2 _ eq12) sk_X8_in ml_X8_100 rfl rfl ⟨(Nat.le_of_ble_eq_true rfl), (Nat.le_of_ble_eq_true rfl)⟩ rfl hl.1 rfl (Nat.le_of_ble_eq_true rfl) dX8_next_142) (fun H locs hP hS => ?_)
            refine lv_if_eq (tgt := 252) hx hb dX8_next_145 (by decide) (fun c13 => ?_) (fun c13 => ?_)
            · have hf := ite_t c13 hf
              refine lv_iload_n hx hb dX8_next_252 rfl (lv_at hl 0 rfl) ?_
              refine lv_bipush (v := 40) hx hb dX8_next_253 kB_40 ?_
              refine lv_icmp_eq (tgt := 300) hx hb dX8_next_255 (by decide) (fun c14 => ?_) (fun c14 => ?_)
              · have hf := ite_t c14 hf
                exact wb300 q7.1 q12.2 hf _ _ _ hP hS (lv_sub hl [1, 0] rfl)
              · have hf := ite_f c14 hf
                refine lv_iload_n hx hb dX8_next_258 rfl (lv_at hl 0 rfl) ?_
                refine lv_bipush (v := 41) hx hb dX8_next_259 kB_41 ?_
                refine lv_icmp_eq (tgt := 300) hx hb dX8_next_261 (by decide) (fun c18 => ?_) (fun c18 => ?_)
                · have hf := ite_t c18 hf
                  exact wb300 q7.1 q12.2 hf _ _ _ hP hS (lv_sub hl [1, 0] rfl)
                · have hf := ite_f c18 hf
                  refine lv_iload_n hx hb dX8_next_264 rfl (lv_at hl 0 rfl) ?_
                  refine lv_bipush (v := 59) hx hb dX8_next_265 kB_59 ?_
                  refine lv_icmp_eq (tgt := 300) hx hb dX8_next_267 (by decide) (fun c19 => ?_) (fun c19 => ?_)
                  · have hf := ite_t c19 hf
                    exact wb300 q7.1 q12.2 hf _ _ _ hP hS (lv_sub hl [1, 0] rfl)
                  · have hf := ite_f c19 hf
                    refine lv_iload_n hx hb dX8_next_270 rfl (lv_at hl 0 rfl) ?_
                    refine lv_bipush (v := 43) hx hb dX8_next_271 kB_43 ?_
                    refine lv_icmp_eq (tgt := 300) hx hb dX8_next_273 (by decide) (fun c20 => ?_) (fun c20 => ?_)
                    · have hf := ite_t c20 hf
                      exact wb300 q7.1 q12.2 hf _ _ _ hP hS (lv_sub hl [1, 0] rfl)
                    · have hf := ite_f c20 hf
                      refine lv_iload_n hx hb dX8_next_276 rfl (lv_at hl 0 rfl) ?_
                      refine lv_bipush (v := 45) hx hb dX8_next_277 kB_45 ?_
                      refine lv_icmp_eq (tgt := 300) hx hb dX8_next_279 (by decide) (fun c21 => ?_) (fun c21 => ?_)
                      · have hf := ite_t c21 hf
                        exact wb300 q7.1 q12.2 hf _ _ _ hP hS (lv_sub hl [1, 0] rfl)
                      · have hf := ite_f c21 hf
                        refine lv_iload_n hx hb dX8_next_282 rfl (lv_at hl 0 rfl) ?_
                        refine lv_bipush (v := 42) hx hb dX8_next_283 kB_42 ?_
                        refine lv_icmp_eq (tgt := 300) hx hb dX8_next_285 (by decide) (fun c22 => ?_) (fun c22 => ?_)
                        · have hf := ite_t c22 hf
                          exact wb300 q7.1 q12.2 hf _ _ _ hP hS (lv_sub hl [1, 0] rfl)
                        · have hf := ite_f c22 hf
                          refine lv_iload_n hx hb dX8_next_288 rfl (lv_at hl 0 rfl) ?_
                          refine lv_bipush (v := 60) hx hb dX8_next_289 kB_60 ?_
                          refine lv_icmp_eq (tgt := 300) hx hb dX8_next_291 (by decide) (fun c23 => ?_) (fun c23 => ?_)
                          · have hf := ite_t c23 hf
                            exact wb300 q7.1 q12.2 hf _ _ _ hP hS (lv_sub hl [1, 0] rfl)
                          · have hf := ite_f c23 hf
                            refine lv_iload_n hx hb dX8_next_294 rfl (lv_at hl 0 rfl) ?_
                            refine lv_bipush (v := 61) hx hb dX8_next_295 kB_61 ?_
                            refine lv_icmp_ne (tgt := 321) hx hb dX8_next_297 (by decide) (fun c24 => ?_) (fun c24 => ?_)
                            · have hf := ite_f c24 hf
                              exact hret _ _ _ _ _ (Option.some.inj hf) hP hS dX8_next_321
                            · have hf := ite_t c24 hf
                              exact wb300 q7.1 q12.2 hf _ _ _ hP hS (lv_sub hl [1, 0] rfl)
            · have hf := ite_f c13 hf
              refine lv_aload_n hx hb dX8_next_148 rfl (lv_at hl 1 rfl) ?_
              refine lv_iconst (v := 2) hx hb dX8_next_149 kI_2 ?_
              refine va_put (D := zD v) (ci := 7) (v := .int (2 : Int32)) (ty := .int) (C := RX8) (T := TX8) (N := 55) hx hb hts iX8 tyX8 tyX8_ok nmX8 hown hk.1 hP (zw_D okM hk _) hS 0 rfl rfl 25 (by decide) (hts _ fl_X8_171) (fun _ h9 => h9) rfl pd_I rfl rfl (Nat.le_of_ble_eq_true rfl) dX8_next_150 (fun H locs hP1 _ hS => ?_)
              have hP : va_P (zD v) vwCl (pM.1 v (up q12.2.1 0 (upd (q12.2.1 0) 25 (2 : Int32)), q12.2.2)) H := hP1
              obtain ⟨g25, eg25, hf⟩ := lt_e hf
              rw [← eg25] at hP
              refine lv_aload_n hx hb dX8_next_153 rfl (lv_at hl 1 rfl) ?_
              refine lv_lconst (v := 0) hx hb dX8_next_154 kL_0 ?_
              refine va_put (D := zD v) (ci := 7) (v := .long (0 : Int64)) (ty := .long) (C := RX8) (T := TX8) (N := 55) hx hb hts iX8 tyX8 tyX8_ok nmX8 hown hk.1 hP (zw_D okM hk _) hS 0 rfl rfl 27 (by decide) (hts _ fl_X8_182) (fun _ h9 => h9) rfl pd_J rfl rfl (Nat.le_of_ble_eq_true rfl) dX8_next_155 (fun H locs hP1 _ hS => ?_)
              have hP : va_P (zD v) vwCl (pM.1 v (g25.1, (0 : Int64))) H := hP1
              obtain ⟨g26, eg26, hf⟩ := lt_e hf
              rw [← eg26] at hP
              refine lv_iconst (v := 0) hx hb dX8_next_158 kI_0 ?_
              refine lv_istore_n (lv' := [(2, .int (0 : Int32)), (1, .int q7.1), (0, .ref (zA v 0))]) hx hb dX8_next_159 rfl hl (by decide) rfl (fun ls hl => ?_)
              exact wL160 N ((0 : Int32), g26) hf _ _ _ hP hS (lv_sub hl [2, 0] rfl)
          · have hf := ite_f c11 hf
            refine lv_aload_n hx hb dX8_next_95 rfl (lv_at hl 1 rfl) ?_
            refine lv_iconst (v := 1) hx hb dX8_next_96 kI_1 ?_
            refine va_put (D := zD v) (ci := 7) (v := .int (1 : Int32)) (ty := .int) (C := RX8) (T := TX8) (N := 55) hx hb hts iX8 tyX8 tyX8_ok nmX8 hown hk.1 hP (zw_D okM hk _) hS 0 rfl rfl 25 (by decide) (hts _ fl_X8_171) (fun _ h9 => h9) rfl pd_I rfl rfl (Nat.le_of_ble_eq_true rfl) dX8_next_97 (fun H locs hP1 _ hS => ?_)
            have hP : va_P (zD v) vwCl (pM.1 v (up q10.2.1 0 (upd (q10.2.1 0) 25 (1 : Int32)), q10.2.2)) H := hP1
            obtain ⟨g37, eg37, hf⟩ := lt_e hf
            rw [← eg37] at hP
            exact wL100 N g37 hf _ _ _ hP hS (lv_sub hl [1] rfl)
        · have hf := ite_f c9 hf
          refine lv_aload_n hx hb dX8_next_65 rfl (lv_at hl 1 rfl) ?_
          refine lv_iconst (v := 0) hx hb dX8_next_66 kI_0 ?_
          refine va_put (D := zD v) (ci := 7) (v := .int (0 : Int32)) (ty := .int) (C := RX8) (T := TX8) (N := 55) hx hb hts iX8 tyX8 tyX8_ok nmX8 hown hk.1 hP (zw_D okM hk _) hS 0 rfl rfl 25 (by decide) (hts _ fl_X8_171) (fun _ h9 => h9) rfl pd_I rfl rfl (Nat.le_of_ble_eq_true rfl) dX8_next_67 (fun H locs hP1 _ hS => ?_)
          have hP : va_P (zD v) vwCl (pM.1 v (up g8.1 0 (upd (g8.1 0) 25 (0 : Int32)), g8.2)) H := hP1
          obtain ⟨g42, eg42, hf⟩ := lt_e hf
          rw [← eg42] at hP
          refine lv_aload_n hx hb dX8_next_70 rfl (lv_at hl 1 rfl) ?_
          refine lv_aload_n hx hb dX8_next_71 rfl (lv_at hl 1 rfl) ?_
          refine va_get (D := zD v) (ci := 7) (v := .int (g42.1 0 23)) (C := RX8) (T := TX8) (N := 55) hx hb hts iX8 hown hk.1 hP 0 rfl rfl 23 (by decide) (hts _ fl_X8_156) (fun _ h9 => h9) rfl dX8_next_72 ?_
          refine va_put (D := zD v) (ci := 7) (v := .int (g42.1 0 23)) (ty := .int) (C := RX8) (T := TX8) (N := 55) hx hb hts iX8 tyX8 tyX8_ok nmX8 hown hk.1 hP (zw_D okM hk _) hS 0 rfl rfl 26 (by decide) (hts _ fl_X8_168) (fun _ h9 => h9) rfl pd_I rfl rfl (Nat.le_of_ble_eq_true rfl) dX8_next_75 (fun H locs hP1 _ hS => ?_)
          have hP : va_P (zD v) vwCl (pM.1 v (up g42.1 0 (upd (g42.1 0) 26 (g42.1 0 23)), g42.2)) H := hP1
          obtain ⟨g43, eg43, hf⟩ := lt_e hf
          rw [← eg43] at hP
          refine lv_goto (tgt := 321) hx hb dX8_next_78 (by decide) ?_
          exact hret _ _ _ _ _ (Option.some.inj hf) hP hS dX8_next_321
      · have hf := ite_t c5 hf
        exact wb26 h0 hh0 q4.2 hf _ _ _ hP hS (lv_sub hl [0] rfl)
  unfold x_X8_next at hf
  exact wL0 N g hf _ _ _ hP hS (lv_sub hl [0] rfl)
abbrev rm_X8_isLetter : Room := { frames := 2, cells := 0, slots := 0, locals := 81 }
set_option maxRecDepth 100000 in
theorem t_X8_isLetter (l : Launch) (v : Ev) (N : Nat) (a1 : Int32) (a2 : Int32) (g : SM) (res : Int32 × SM) (hf : x_X8_isLetter N a1 a2 g = some res) : Ci l yX8_isLetter cX8_isLetter 3 .boolean rm_X8_isLetter pM v [.ref (zA v 0), .int a1, .int a2] g res := by
  refine ze_i (by decide +kernel) (Nat.le_of_ble_eq_true rfl) ?_
  intro p e s m args below meth c Q ls hcx hret hP hl
  obtain ⟨hx, hb, hml, hown, hts, hk⟩ := hcx
  have hown : s.vm.findClass RX8 = some m.cls := hown
  have hS : va_S (An nM v) s.heap s.heap [] := va_S.rf
  have hl : lv_has ls 3 [(0, .ref (zA v 0)), (1, .int a1), (2, .int a2)] := hl
  unfold x_X8_isLetter at hf
  refine lv_aload_n hx hb dX8_isLetter_0 rfl (lv_at hl 0 rfl) ?_
  refine va_get (D := zD v) (ci := 7) (v := .int (g.1 0 26)) (C := RX8) (T := TX8) (N := 55) hx hb hts iX8 hown hk.1 hP 0 rfl rfl 26 (by decide) (hts _ fl_X8_168) (fun _ h9 => h9) rfl dX8_isLetter_1 ?_
  refine lv_iload_n hx hb dX8_isLetter_4 rfl (lv_at hl 1 rfl) ?_
  refine lv_iadd hx hb dX8_isLetter_5 ?_
  refine lv_aload_n hx hb dX8_isLetter_6 rfl (lv_at hl 0 rfl) ?_
  refine va_get (D := zD v) (ci := 7) (v := .int (g.1 0 24)) (C := RX8) (T := TX8) (N := 55) hx hb hts iX8 hown hk.1 hP 0 rfl rfl 24 (by decide) (hts _ fl_X8_162) (fun _ h9 => h9) rfl dX8_isLetter_7 ?_
  refine lv_icmp_ge (tgt := 35) hx hb dX8_isLetter_10 (by decide) (fun c1 => ?_) (fun c1 => ?_)
  · have hf := ite_t c1 hf
    refine lv_iload_n hx hb dX8_isLetter_35 rfl (lv_at hl 2 rfl) ?_
    refine lv_if_ne (tgt := 43) hx hb dX8_isLetter_36 (by decide) (fun c2 => ?_) (fun c2 => ?_)
    · have hf := ite_f c2 hf
      refine lv_iconst (v := 0) hx hb dX8_isLetter_43 kI_0 ?_
      exact hret _ _ _ _ _ _ (Or.inr rfl) (Option.some.inj hf) hP hS dX8_isLetter_44
    · have hf := ite_t c2 hf
      refine lv_iconst (v := 1) hx hb dX8_isLetter_39 kI_1 ?_
      refine lv_goto (tgt := 44) hx hb dX8_isLetter_40 (by decide) ?_
      exact hret _ _ _ _ _ _ (Or.inr rfl) (Option.some.inj hf) hP hS dX8_isLetter_44
  · have hf := ite_f c1 hf
    refine lv_aload_n hx hb dX8_isLetter_13 rfl (lv_at hl 0 rfl) ?_
    refine lv_aload_n hx hb dX8_isLetter_14 rfl (lv_at hl 0 rfl) ?_
    refine va_get (D := zD v) (ci := 7) (v := .int (g.1 0 26)) (C := RX8) (T := TX8) (N := 55) hx hb hts iX8 hown hk.1 hP 0 rfl rfl 26 (by decide) (hts _ fl_X8_168) (fun _ h9 => h9) rfl dX8_isLetter_15 ?_
    refine lv_iload_n hx hb dX8_isLetter_18 rfl (lv_at hl 1 rfl) ?_
    refine lv_iadd hx hb dX8_isLetter_19 ?_
    obtain ⟨q3, eq3, hf⟩ := bd_e hf
    refine zki hS (zrV (As := [.int ((g.1 0 26) + a1)]) (rest := []) okM hx hb hml hown hts hk hP hS (t_X8_byteAt l v N ((g.1 0 26) + a1) g _ eq3) vk_X8_byteAt ml_X8_165 rfl rfl ⟨(Nat.le_of_ble_eq_true rfl), (Nat.le_of_ble_eq_true rfl)⟩ (va_recv (q := (RX8, TX8, 55)) hk.1 hP (q0 := 0) (ci := 7) rfl rfl) rfl hl.1 rfl (Nat.le_of_ble_eq_true rfl) dX8_isLetter_20) (fun H locs hP hS => ?_)
    refine lv_iload_n hx hb dX8_isLetter_23 rfl (lv_at hl 2 rfl) ?_
    refine lv_icmp_ne (tgt := 31) hx hb dX8_isLetter_24 (by decide) (fun c4 => ?_) (fun c4 => ?_)
    · have hf := ite_f c4 hf
      refine lv_iconst (v := 0) hx hb dX8_isLetter_31 kI_0 ?_
      refine lv_goto (tgt := 44) hx hb dX8_isLetter_32 (by decide) ?_
      exact hret _ _ _ _ _ _ (Or.inr rfl) (Option.some.inj hf) hP hS dX8_isLetter_44
    · have hf := ite_t c4 hf
      refine lv_iconst (v := 1) hx hb dX8_isLetter_27 kI_1 ?_
      refine lv_goto (tgt := 44) hx hb dX8_isLetter_28 (by decide) ?_
      exact hret _ _ _ _ _ _ (Or.inr rfl) (Option.some.inj hf) hP hS dX8_isLetter_44
abbrev rm_X8_isWord : Room := { frames := 3, cells := 0, slots := 0, locals := 103 }
set_option maxRecDepth 100000 in
theorem t_X8_isWord (l : Launch) (v : Ev) (N : Nat) (a1 : Int32) (a2 : Int32) (a3 : Int32) (a4 : Int32) (a5 : Int32) (a6 : Int32) (a7 : Int32) (a8 : Int32) (g : SM) (res : Int32 × SM) (hf : x_X8_isWord N a1 a2 a3 a4 a5 a6 a7 a8 g = some res) : Ci l yX8_isWord cX8_isWord 9 .boolean rm_X8_isWord pM v [.ref (zA v 0), .int a1, .int a2, .int a3, .int a4, .int a5, .int a6, .int a7, .int a8] g res := by
  refine ze_i (by decide +kernel) (Nat.le_of_ble_eq_true rfl) ?_
  intro p e s m args below meth c Q ls hcx hret hP hl
  obtain ⟨hx, hb, hml, hown, hts, hk⟩ := hcx
  have hown : s.vm.findClass RX8 = some m.cls := hown
  have hS : va_S (An nM v) s.heap s.heap [] := va_S.rf
  have hl : lv_has ls 9 [(0, .ref (zA v 0)), (1, .int a1), (2, .int a2), (3, .int a3), (4, .int a4), (5, .int a5), (6, .int a6), (7, .int a7), (8, .int a8)] := hl
  unfold x_X8_isWord at hf
  refine lv_aload_n hx hb dX8_isWord_0 rfl (lv_at hl 0 rfl) ?_
  refine va_get (D := zD v) (ci := 7) (v := .int (g.1 0 29)) (C := RX8) (T := TX8) (N := 55) hx hb hts iX8 hown hk.1 hP 0 rfl rfl 29 (by decide) (hts _ fl_X8_188) (fun _ h9 => h9) rfl dX8_isWord_1 ?_
  refine lv_if_ne (tgt := 112) hx hb dX8_isWord_4 (by decide) (fun c1 => ?_) (fun c1 => ?_)
  · have hf := ite_f c1 hf
    refine lv_iconst (v := 0) hx hb dX8_isWord_112 kI_0 ?_
    exact hret _ _ _ _ _ _ (Or.inr rfl) (Option.some.inj hf) hP hS dX8_isWord_113
  · have hf := ite_t c1 hf
    refine lv_aload_n hx hb dX8_isWord_7 rfl (lv_at hl 0 rfl) ?_
    refine va_get (D := zD v) (ci := 7) (v := .int (g.1 0 25)) (C := RX8) (T := TX8) (N := 55) hx hb hts iX8 hown hk.1 hP 0 rfl rfl 25 (by decide) (hts _ fl_X8_171) (fun _ h9 => h9) rfl dX8_isWord_8 ?_
    refine lv_iconst (v := 1) hx hb dX8_isWord_11 kI_1 ?_
    refine lv_icmp_ne (tgt := 112) hx hb dX8_isWord_12 (by decide) (fun c2 => ?_) (fun c2 => ?_)
    · have hf := ite_f c2 hf
      refine lv_iconst (v := 0) hx hb dX8_isWord_112 kI_0 ?_
      exact hret _ _ _ _ _ _ (Or.inr rfl) (Option.some.inj hf) hP hS dX8_isWord_113
    · have hf := ite_t c2 hf
      refine lv_aload_n hx hb dX8_isWord_15 rfl (lv_at hl 0 rfl) ?_
      refine va_get (D := zD v) (ci := 7) (v := .int (g.1 0 24)) (C := RX8) (T := TX8) (N := 55) hx hb hts iX8 hown hk.1 hP 0 rfl rfl 24 (by decide) (hts _ fl_X8_162) (fun _ h9 => h9) rfl dX8_isWord_16 ?_
      refine lv_aload_n hx hb dX8_isWord_19 rfl (lv_at hl 0 rfl) ?_
      refine va_get (D := zD v) (ci := 7) (v := .int (g.1 0 26)) (C := RX8) (T := TX8) (N := 55) hx hb hts iX8 hown hk.1 hP 0 rfl rfl 26 (by decide) (hts _ fl_X8_168) (fun _ h9 => h9) rfl dX8_isWord_20 ?_
      refine lv_bipush (v := 8) hx hb dX8_isWord_23 kB_8 ?_
      refine lv_iadd hx hb dX8_isWord_25 ?_
      refine lv_icmp_gt (tgt := 112) hx hb dX8_isWord_26 (by decide) (fun c3 => ?_) (fun c3 => ?_)
      · have hf := ite_t c3 hf
        refine lv_iconst (v := 0) hx hb dX8_isWord_112 kI_0 ?_
        exact hret _ _ _ _ _ _ (Or.inr rfl) (Option.some.inj hf) hP hS dX8_isWord_113
      · have hf := ite_f c3 hf
        refine lv_aload_n hx hb dX8_isWord_29 rfl (lv_at hl 0 rfl) ?_
        refine lv_iconst (v := 0) hx hb dX8_isWord_30 kI_0 ?_
        refine lv_iload_n hx hb dX8_isWord_31 rfl (lv_at hl 1 rfl) ?_
        obtain ⟨q4, eq4, hf⟩ := bd_e hf
        refine zki hS (zrV (As := [.int (0 : Int32), .int a1]) (rest := []) okM hx hb hml hown hts hk hP hS (t_X8_isLetter l v N (0 : Int32) a1 g _ eq4) vk_X8_isLetter ml_X8_195 rfl rfl ⟨(Nat.le_of_ble_eq_true rfl), (Nat.le_of_ble_eq_true rfl)⟩ (va_recv (q := (RX8, TX8, 55)) hk.1 hP (q0 := 0) (ci := 7) rfl rfl) rfl hl.1 rfl (Nat.le_of_ble_eq_true rfl) dX8_isWord_32) (fun H locs hP hS => ?_)
        refine lv_if_eq (tgt := 112) hx hb dX8_isWord_35 (by decide) (fun c5 => ?_) (fun c5 => ?_)
        · have hf := ite_t c5 hf
          refine lv_iconst (v := 0) hx hb dX8_isWord_112 kI_0 ?_
          exact hret _ _ _ _ _ _ (Or.inr rfl) (Option.some.inj hf) hP hS dX8_isWord_113
        · have hf := ite_f c5 hf
          refine lv_aload_n hx hb dX8_isWord_38 rfl (lv_at hl 0 rfl) ?_
          refine lv_iconst (v := 1) hx hb dX8_isWord_39 kI_1 ?_
          refine lv_iload_n hx hb dX8_isWord_40 rfl (lv_at hl 2 rfl) ?_
          obtain ⟨q6, eq6, hf⟩ := bd_e hf
          refine zki hS (zrV (As := [.int (1 : Int32), .int a2]) (rest := []) okM hx hb hml hown hts hk hP hS (t_X8_isLetter l v N (1 : Int32) a2 q4.2 _ eq6) vk_X8_isLetter ml_X8_195 rfl rfl ⟨(Nat.le_of_ble_eq_true rfl), (Nat.le_of_ble_eq_true rfl)⟩ (va_recv (q := (RX8, TX8, 55)) hk.1 hP (q0 := 0) (ci := 7) rfl rfl) rfl hl.1 rfl (Nat.le_of_ble_eq_true rfl) dX8_isWord_41) (fun H locs hP hS => ?_)
          refine lv_if_eq (tgt := 112) hx hb dX8_isWord_44 (by decide) (fun c7 => ?_) (fun c7 => ?_)
          · have hf := ite_t c7 hf
            refine lv_iconst (v := 0) hx hb dX8_isWord_112 kI_0 ?_
            exact hret _ _ _ _ _ _ (Or.inr rfl) (Option.some.inj hf) hP hS dX8_isWord_113
          · have hf := ite_f c7 hf
            refine lv_aload_n hx hb dX8_isWord_47 rfl (lv_at hl 0 rfl) ?_
            refine lv_iconst (v := 2) hx hb dX8_isWord_48 kI_2 ?_
            refine lv_iload_n hx hb dX8_isWord_49 rfl (lv_at hl 3 rfl) ?_
            obtain ⟨q8, eq8, hf⟩ := bd_e hf
            refine zki hS (zrV (As := [.int (2 : Int32), .int a3]) (rest := []) okM hx hb hml hown hts hk hP hS (t_X8_isLetter l v N (2 : Int32) a3 q6.2 _ eq8) vk_X8_isLetter ml_X8_195 rfl rfl ⟨(Nat.le_of_ble_eq_true rfl), (Nat.le_of_ble_eq_true rfl)⟩ (va_recv (q := (RX8, TX8, 55)) hk.1 hP (q0 := 0) (ci := 7) rfl rfl) rfl hl.1 rfl (Nat.le_of_ble_eq_true rfl) dX8_isWord_50) (fun H locs hP hS => ?_)
            refine lv_if_eq (tgt := 112) hx hb dX8_isWord_53 (by decide) (fun c9 => ?_) (fun c9 => ?_)
            · have hf := ite_t c9 hf
              refine lv_iconst (v := 0) hx hb dX8_isWord_112 kI_0 ?_
              exact hret _ _ _ _ _ _ (Or.inr rfl) (Option.some.inj hf) hP hS dX8_isWord_113
            · have hf := ite_f c9 hf
              refine lv_aload_n hx hb dX8_isWord_56 rfl (lv_at hl 0 rfl) ?_
              refine lv_iconst (v := 3) hx hb dX8_isWord_57 kI_3 ?_
              refine lv_iload hx hb dX8_isWord_58 (lv_at hl 4 rfl) ?_
              obtain ⟨q10, eq10, hf⟩ := bd_e hf
              refine zki hS (zrV (As := [.int (3 : Int32), .int a4]) (rest := []) okM hx hb hml hown hts hk hP hS (t_X8_isLetter l v N (3 : Int32) a4 q8.2 _ eq10) vk_X8_isLetter ml_X8_195 rfl rfl ⟨(Nat.le_of_ble_eq_true rfl), (Nat.le_of_ble_eq_true rfl)⟩ (va_recv (q := (RX8, TX8, 55)) hk.1 hP (q0 := 0) (ci := 7) rfl rfl) rfl hl.1 rfl (Nat.le_of_ble_eq_true rfl) dX8_isWord_60) (fun H locs hP hS => ?_)
              refine lv_if_eq (tgt := 112) hx hb dX8_isWord_63 (by decide) (fun c11 => ?_) (fun c11 => ?_)
              · have hf := ite_t c11 hf
                refine lv_iconst (v := 0) hx hb dX8_isWord_112 kI_0 ?_
                exact hret _ _ _ _ _ _ (Or.inr rfl) (Option.some.inj hf) hP hS dX8_isWord_113
              · have hf := ite_f c11 hf
                refine lv_aload_n hx hb dX8_isWord_66 rfl (lv_at hl 0 rfl) ?_
                refine lv_iconst (v := 4) hx hb dX8_isWord_67 kI_4 ?_
                refine lv_iload hx hb dX8_isWord_68 (lv_at hl 5 rfl) ?_
                obtain ⟨q12, eq12, hf⟩ := bd_e hf
                refine zki hS (zrV (As := [.int (4 : Int32), .int a5]) (rest := []) okM hx hb hml hown hts hk hP hS (t_X8_isLetter l v N (4 : Int32) a5 q10.2 _ eq12) vk_X8_isLetter ml_X8_195 rfl rfl ⟨(Nat.le_of_ble_eq_true rfl), (Nat.le_of_ble_eq_true rfl)⟩ (va_recv (q := (RX8, TX8, 55)) hk.1 hP (q0 := 0) (ci := 7) rfl rfl) rfl hl.1 rfl (Nat.le_of_ble_eq_true rfl) dX8_isWord_70) (fun H locs hP hS => ?_)
                refine lv_if_eq (tgt := 112) hx hb dX8_isWord_73 (by decide) (fun c13 => ?_) (fun c13 => ?_)
                · have hf := ite_t c13 hf
                  refine lv_iconst (v := 0) hx hb dX8_isWord_112 kI_0 ?_
                  exact hret _ _ _ _ _ _ (Or.inr rfl) (Option.some.inj hf) hP hS dX8_isWord_113
                · have hf := ite_f c13 hf
                  refine lv_aload_n hx hb dX8_isWord_76 rfl (lv_at hl 0 rfl) ?_
                  refine lv_iconst (v := 5) hx hb dX8_isWord_77 kI_5 ?_
                  refine lv_iload hx hb dX8_isWord_78 (lv_at hl 6 rfl) ?_
                  obtain ⟨q14, eq14, hf⟩ := bd_e hf
                  refine zki hS (zrV (As := [.int (5 : Int32), .int a6]) (rest := []) okM hx hb hml hown hts hk hP hS (t_X8_isLetter l v N (5 : Int32) a6 q12.2 _ eq14) vk_X8_isLetter ml_X8_195 rfl rfl ⟨(Nat.le_of_ble_eq_true rfl), (Nat.le_of_ble_eq_true rfl)⟩ (va_recv (q := (RX8, TX8, 55)) hk.1 hP (q0 := 0) (ci := 7) rfl rfl) rfl hl.1 rfl (Nat.le_of_ble_eq_true rfl) dX8_isWord_80) (fun H locs hP hS => ?_)
                  refine lv_if_eq (tgt := 112) hx hb dX8_isWord_83 (by decide) (fun c15 => ?_) (fun c15 => ?_)
                  · have hf := ite_t c15 hf
                    refine lv_iconst (v := 0) hx hb dX8_isWord_112 kI_0 ?_
                    exact hret _ _ _ _ _ _ (Or.inr rfl) (Option.some.inj hf) hP hS dX8_isWord_113
                  · have hf := ite_f c15 hf
                    refine lv_aload_n hx hb dX8_isWord_86 rfl (lv_at hl 0 rfl) ?_
                    refine lv_bipush (v := 6) hx hb dX8_isWord_87 kB_6 ?_
                    refine lv_iload hx hb dX8_isWord_89 (lv_at hl 7 rfl) ?_
                    obtain ⟨q16, eq16, hf⟩ := bd_e hf
                    refine zki hS (zrV (As := [.int (6 : Int32), .int a7]) (rest := []) okM hx hb hml hown hts hk hP hS (t_X8_isLetter l v N (6 : Int32) a7 q14.2 _ eq16) vk_X8_isLetter ml_X8_195 rfl rfl ⟨(Nat.le_of_ble_eq_true rfl), (Nat.le_of_ble_eq_true rfl)⟩ (va_recv (q := (RX8, TX8, 55)) hk.1 hP (q0 := 0) (ci := 7) rfl rfl) rfl hl.1 rfl (Nat.le_of_ble_eq_true rfl) dX8_isWord_91) (fun H locs hP hS => ?_)
                    refine lv_if_eq (tgt := 112) hx hb dX8_isWord_94 (by decide) (fun c17 => ?_) (fun c17 => ?_)
                    · have hf := ite_t c17 hf
                      refine lv_iconst (v := 0) hx hb dX8_isWord_112 kI_0 ?_
                      exact hret _ _ _ _ _ _ (Or.inr rfl) (Option.some.inj hf) hP hS dX8_isWord_113
                    · have hf := ite_f c17 hf
                      refine lv_aload_n hx hb dX8_isWord_97 rfl (lv_at hl 0 rfl) ?_
                      refine lv_bipush (v := 7) hx hb dX8_isWord_98 kB_7 ?_
                      refine lv_iload hx hb dX8_isWord_100 (lv_at hl 8 rfl) ?_
                      obtain ⟨q18, eq18, hf⟩ := bd_e hf
                      refine zki hS (zrV (As := [.int (7 : Int32), .int a8]) (rest := []) okM hx hb hml hown hts hk hP hS (t_X8_isLetter l v N (7 : Int32) a8 q16.2 _ eq18) vk_X8_isLetter ml_X8_195 rfl rfl ⟨(Nat.le_of_ble_eq_true rfl), (Nat.le_of_ble_eq_true rfl)⟩ (va_recv (q := (RX8, TX8, 55)) hk.1 hP (q0 := 0) (ci := 7) rfl rfl) rfl hl.1 rfl (Nat.le_of_ble_eq_true rfl) dX8_isWord_102) (fun H locs hP hS => ?_)
                      refine lv_if_eq (tgt := 112) hx hb dX8_isWord_105 (by decide) (fun c19 => ?_) (fun c19 => ?_)
                      · have hf := ite_t c19 hf
                        refine lv_iconst (v := 0) hx hb dX8_isWord_112 kI_0 ?_
                        exact hret _ _ _ _ _ _ (Or.inr rfl) (Option.some.inj hf) hP hS dX8_isWord_113
                      · have hf := ite_f c19 hf
                        refine lv_iconst (v := 1) hx hb dX8_isWord_108 kI_1 ?_
                        refine lv_goto (tgt := 113) hx hb dX8_isWord_109 (by decide) ?_
                        exact hret _ _ _ _ _ _ (Or.inr rfl) (Option.some.inj hf) hP hS dX8_isWord_113
abbrev rm_X8_fail : Room := { frames := 1, cells := 0, slots := 0, locals := 60 }
set_option maxRecDepth 100000 in
theorem t_X8_fail (l : Launch) (v : Ev) (N : Nat) (g : SM) (res : SM) (hf : x_X8_fail N g = some res) : Cv l yX8_fail cX8_fail 1 rm_X8_fail pM v [.ref (zA v 0)] g res := by
  refine ze_v (by decide +kernel) (Nat.le_of_ble_eq_true rfl) ?_
  intro p e s m args below meth c Q ls hcx hret hP hl
  obtain ⟨hx, hb, hml, hown, hts, hk⟩ := hcx
  have hown : s.vm.findClass RX8 = some m.cls := hown
  have hS : va_S (An nM v) s.heap s.heap [] := va_S.rf
  have hl : lv_has ls 1 [(0, .ref (zA v 0))] := hl
  unfold x_X8_fail at hf
  refine lv_aload_n hx hb dX8_fail_0 rfl (lv_at hl 0 rfl) ?_
  refine va_get (D := zD v) (ci := 7) (v := .int (g.1 0 29)) (C := RX8) (T := TX8) (N := 55) hx hb hts iX8 hown hk.1 hP 0 rfl rfl 29 (by decide) (hts _ fl_X8_188) (fun _ h9 => h9) rfl dX8_fail_1 ?_
  refine lv_if_ne (tgt := 20) hx hb dX8_fail_4 (by decide) (fun c1 => ?_) (fun c1 => ?_)
  · have hf := ite_f c1 hf
    exact hret _ _ _ _ _ (Option.some.inj hf) hP hS dX8_fail_20
  · have hf := ite_t c1 hf
    refine lv_aload_n hx hb dX8_fail_7 rfl (lv_at hl 0 rfl) ?_
    refine lv_iconst (v := 1) hx hb dX8_fail_8 kI_1 ?_
    refine va_put (D := zD v) (ci := 7) (v := .int (1 : Int32)) (ty := .boolean) (C := RX8) (T := TX8) (N := 55) hx hb hts iX8 tyX8 tyX8_ok nmX8 hown hk.1 hP (zw_D okM hk _) hS 0 rfl rfl 29 (by decide) (hts _ fl_X8_188) (fun _ h9 => h9) rfl pd_Z rfl rfl (Nat.le_of_ble_eq_true rfl) dX8_fail_9 (fun H locs hP1 _ hS => ?_)
    have hP : va_P (zD v) vwCl (pM.1 v (up g.1 0 (upd (g.1 0) 29 (1 : Int32)), g.2)) H := hP1
    obtain ⟨g2, eg2, hf⟩ := lt_e hf
    rw [← eg2] at hP
    refine lv_aload_n hx hb dX8_fail_12 rfl (lv_at hl 0 rfl) ?_
    refine lv_aload_n hx hb dX8_fail_13 rfl (lv_at hl 0 rfl) ?_
    refine va_get (D := zD v) (ci := 7) (v := .int (g2.1 0 26)) (C := RX8) (T := TX8) (N := 55) hx hb hts iX8 hown hk.1 hP 0 rfl rfl 26 (by decide) (hts _ fl_X8_168) (fun _ h9 => h9) rfl dX8_fail_14 ?_
    refine va_put (D := zD v) (ci := 7) (v := .int (g2.1 0 26)) (ty := .int) (C := RX8) (T := TX8) (N := 55) hx hb hts iX8 tyX8 tyX8_ok nmX8 hown hk.1 hP (zw_D okM hk _) hS 0 rfl rfl 30 (by decide) (hts _ fl_X8_192) (fun _ h9 => h9) rfl pd_I rfl rfl (Nat.le_of_ble_eq_true rfl) dX8_fail_17 (fun H locs hP1 _ hS => ?_)
    have hP : va_P (zD v) vwCl (pM.1 v (up g2.1 0 (upd (g2.1 0) 30 (g2.1 0 26)), g2.2)) H := hP1
    obtain ⟨g3, eg3, hf⟩ := lt_e hf
    rw [← eg3] at hP
    exact hret _ _ _ _ _ (Option.some.inj hf) hP hS dX8_fail_20
abbrev rm_X8_opens : Room := { frames := 3, cells := 0, slots := 0, locals := 107 }
set_option maxRecDepth 100000 in
theorem t_X8_opens (l : Launch) (v : Ev) (N : Nat) (g : SM) (res : Int32 × SM) (hf : x_X8_opens N g = some res) : Ci l yX8_opens cX8_opens 1 .boolean rm_X8_opens pM v [.ref (zA v 0)] g res := by
  refine ze_i (by decide +kernel) (Nat.le_of_ble_eq_true rfl) ?_
  intro p e s m args below meth c Q ls hcx hret hP hl
  obtain ⟨hx, hb, hml, hown, hts, hk⟩ := hcx
  have hown : s.vm.findClass RX8 = some m.cls := hown
  have hS : va_S (An nM v) s.heap s.heap [] := va_S.rf
  have hl : lv_has ls 1 [(0, .ref (zA v 0))] := hl
  unfold x_X8_opens at hf
  refine lv_aload_n hx hb dX8_opens_0 rfl (lv_at hl 0 rfl) ?_
  refine va_get (D := zD v) (ci := 7) (v := .int (g.1 0 28)) (C := RX8) (T := TX8) (N := 55) hx hb hts iX8 hown hk.1 hP 0 rfl rfl 28 (by decide) (hts _ fl_X8_199) (fun _ h9 => h9) rfl dX8_opens_1 ?_
  refine lv_iconst (v := 5) hx hb dX8_opens_4 kI_5 ?_
  refine lv_icmp_ne (tgt := 14) hx hb dX8_opens_5 (by decide) (fun c1 => ?_) (fun c1 => ?_)
  · have hf := ite_f c1 hf
    refine lv_aload_n hx hb dX8_opens_14 rfl (lv_at hl 0 rfl) ?_
    refine lv_dup hx hb dX8_opens_15 rfl ?_
    refine va_get (D := zD v) (ci := 7) (v := .int (g.1 0 28)) (C := RX8) (T := TX8) (N := 55) hx hb hts iX8 hown hk.1 hP 0 rfl rfl 28 (by decide) (hts _ fl_X8_199) (fun _ h9 => h9) rfl dX8_opens_16 ?_
    refine lv_iconst (v := 1) hx hb dX8_opens_19 kI_1 ?_
    refine lv_iadd hx hb dX8_opens_20 ?_
    refine va_put (D := zD v) (ci := 7) (v := .int ((g.1 0 28) + (1 : Int32))) (ty := .int) (C := RX8) (T := TX8) (N := 55) hx hb hts iX8 tyX8 tyX8_ok nmX8 hown hk.1 hP (zw_D okM hk _) hS 0 rfl rfl 28 (by decide) (hts _ fl_X8_199) (fun _ h9 => h9) rfl pd_I rfl rfl (Nat.le_of_ble_eq_true rfl) dX8_opens_21 (fun H locs hP1 _ hS => ?_)
    have hP : va_P (zD v) vwCl (pM.1 v (up g.1 0 (upd (g.1 0) 28 ((g.1 0 28) + (1 : Int32))), g.2)) H := hP1
    obtain ⟨g2, eg2, hf⟩ := lt_e hf
    rw [← eg2] at hP
    refine lv_aload_n hx hb dX8_opens_24 rfl (lv_at hl 0 rfl) ?_
    obtain ⟨q3, eq3, hf⟩ := bd_e hf
    refine zkv hS (zrV (As := []) (rest := []) okM hx hb hml hown hts hk hP hS (t_X8_next l v N g2 _ eq3) vk_X8_next ml_X8_205 rfl rfl ⟨(Nat.le_of_ble_eq_true rfl), (Nat.le_of_ble_eq_true rfl)⟩ (va_recv (q := (RX8, TX8, 55)) hk.1 hP (q0 := 0) (ci := 7) rfl rfl) rfl hl.1 rfl (Nat.le_of_ble_eq_true rfl) dX8_opens_25) (fun H locs hP hS => ?_)
    refine lv_iconst (v := 1) hx hb dX8_opens_28 kI_1 ?_
    exact hret _ _ _ _ _ _ (Or.inr rfl) (Option.some.inj hf) hP hS dX8_opens_29
  · have hf := ite_t c1 hf
    refine lv_aload_n hx hb dX8_opens_8 rfl (lv_at hl 0 rfl) ?_
    obtain ⟨q4, eq4, hf⟩ := bd_e hf
    refine zkv hS (zrV (As := []) (rest := []) okM hx hb hml hown hts hk hP hS (t_X8_fail l v N g _ eq4) vk_X8_fail ml_X8_202 rfl rfl ⟨(Nat.le_of_ble_eq_true rfl), (Nat.le_of_ble_eq_true rfl)⟩ (va_recv (q := (RX8, TX8, 55)) hk.1 hP (q0 := 0) (ci := 7) rfl rfl) rfl hl.1 rfl (Nat.le_of_ble_eq_true rfl) dX8_opens_9) (fun H locs hP hS => ?_)
    refine lv_iconst (v := 0) hx hb dX8_opens_12 kI_0 ?_
    exact hret _ _ _ _ _ _ (Or.inr rfl) (Option.some.inj hf) hP hS dX8_opens_13
abbrev rm_X8_isSign : Room := { frames := 1, cells := 0, slots := 0, locals := 60 }
set_option maxRecDepth 100000 in
theorem t_X8_isSign (l : Launch) (v : Ev) (N : Nat) (a1 : Int32) (g : SM) (res : Int32 × SM) (hf : x_X8_isSign N a1 g = some res) : Ci l yX8_isSign cX8_isSign 2 .boolean rm_X8_isSign pM v [.ref (zA v 0), .int a1] g res := by
  refine ze_i (by decide +kernel) (Nat.le_of_ble_eq_true rfl) ?_
  intro p e s m args below meth c Q ls hcx hret hP hl
  obtain ⟨hx, hb, hml, hown, hts, hk⟩ := hcx
  have hown : s.vm.findClass RX8 = some m.cls := hown
  have hS : va_S (An nM v) s.heap s.heap [] := va_S.rf
  have hl : lv_has ls 2 [(0, .ref (zA v 0)), (1, .int a1)] := hl
  unfold x_X8_isSign at hf
  refine lv_aload_n hx hb dX8_isSign_0 rfl (lv_at hl 0 rfl) ?_
  refine va_get (D := zD v) (ci := 7) (v := .int (g.1 0 29)) (C := RX8) (T := TX8) (N := 55) hx hb hts iX8 hown hk.1 hP 0 rfl rfl 29 (by decide) (hts _ fl_X8_188) (fun _ h9 => h9) rfl dX8_isSign_1 ?_
  refine lv_if_ne (tgt := 29) hx hb dX8_isSign_4 (by decide) (fun c1 => ?_) (fun c1 => ?_)
  · have hf := ite_f c1 hf
    refine lv_iconst (v := 0) hx hb dX8_isSign_29 kI_0 ?_
    exact hret _ _ _ _ _ _ (Or.inr rfl) (Option.some.inj hf) hP hS dX8_isSign_30
  · have hf := ite_t c1 hf
    refine lv_aload_n hx hb dX8_isSign_7 rfl (lv_at hl 0 rfl) ?_
    refine va_get (D := zD v) (ci := 7) (v := .int (g.1 0 25)) (C := RX8) (T := TX8) (N := 55) hx hb hts iX8 hown hk.1 hP 0 rfl rfl 25 (by decide) (hts _ fl_X8_171) (fun _ h9 => h9) rfl dX8_isSign_8 ?_
    refine lv_iconst (v := 3) hx hb dX8_isSign_11 kI_3 ?_
    refine lv_icmp_ne (tgt := 29) hx hb dX8_isSign_12 (by decide) (fun c2 => ?_) (fun c2 => ?_)
    · have hf := ite_f c2 hf
      refine lv_iconst (v := 0) hx hb dX8_isSign_29 kI_0 ?_
      exact hret _ _ _ _ _ _ (Or.inr rfl) (Option.some.inj hf) hP hS dX8_isSign_30
    · have hf := ite_t c2 hf
      refine lv_aload_n hx hb dX8_isSign_15 rfl (lv_at hl 0 rfl) ?_
      refine va_get (D := zD v) (ci := 7) (v := .long g.2) (C := RX8) (T := TX8) (N := 55) hx hb hts iX8 hown hk.1 hP 0 rfl rfl 27 (by decide) (hts _ fl_X8_182) (fun _ h9 => h9) rfl dX8_isSign_16 ?_
      refine lv_iload_n hx hb dX8_isSign_19 rfl (lv_at hl 1 rfl) ?_
      refine lv_i2l hx hb dX8_isSign_20 rfl ?_
      refine W.lcmp hx hb dX8_isSign_21 ?_
      refine lv_if_ne (tgt := 29) hx hb dX8_isSign_22 (by decide) (fun c3 => ?_) (fun c3 => ?_)
      · have hf := ite_f c3 hf
        refine lv_iconst (v := 0) hx hb dX8_isSign_29 kI_0 ?_
        exact hret _ _ _ _ _ _ (Or.inr rfl) (Option.some.inj hf) hP hS dX8_isSign_30
      · have hf := ite_t c3 hf
        refine lv_iconst (v := 1) hx hb dX8_isSign_25 kI_1 ?_
        refine lv_goto (tgt := 30) hx hb dX8_isSign_26 (by decide) ?_
        exact hret _ _ _ _ _ _ (Or.inr rfl) (Option.some.inj hf) hP hS dX8_isSign_30
abbrev rm_X8_name : Room := { frames := 4, cells := 0, slots := 0, locals := 131 }
set_option maxRecDepth 100000 in
theorem t_X8_name (l : Launch) (v : Ev) (N : Nat) (g : SM) (res : Int32 × SM) (hf : x_X8_name N g = some res) : Ci l yX8_name cX8_name 1 .int rm_X8_name pM v [.ref (zA v 0)] g res := by
  refine ze_i (by decide +kernel) (Nat.le_of_ble_eq_true rfl) ?_
  intro p e s m args below meth c Q ls hcx hret hP hl
  obtain ⟨hx, hb, hml, hown, hts, hk⟩ := hcx
  have hown : s.vm.findClass RX8 = some m.cls := hown
  have hS : va_S (An nM v) s.heap s.heap [] := va_S.rf
  have hl : lv_has ls 1 [(0, .ref (zA v 0))] := hl
  unfold x_X8_name at hf
  refine lv_aload_n hx hb dX8_name_0 rfl (lv_at hl 0 rfl) ?_
  refine lv_bipush (v := 115) hx hb dX8_name_1 kB_115 ?_
  refine lv_bipush (v := 105) hx hb dX8_name_3 kB_105 ?_
  refine lv_bipush (v := 122) hx hb dX8_name_5 kB_122 ?_
  refine lv_bipush (v := 101) hx hb dX8_name_7 kB_101 ?_
  refine lv_iconst (v := 0) hx hb dX8_name_9 kI_0 ?_
  refine lv_iconst (v := 0) hx hb dX8_name_10 kI_0 ?_
  refine lv_iconst (v := 0) hx hb dX8_name_11 kI_0 ?_
  refine lv_iconst (v := 0) hx hb dX8_name_12 kI_0 ?_
  obtain ⟨q1, eq1, hf⟩ := bd_e hf
  refine zki hS (zrV (As := [.int (115 : Int32), .int (105 : Int32), .int (122 : Int32), .int (101 : Int32), .int (0 : Int32), .int (0 : Int32), .int (0 : Int32), .int (0 : Int32)]) (rest := []) okM hx hb hml hown hts hk hP hS (t_X8_isWord l v N (115 : Int32) (105 : Int32) (122 : Int32) (101 : Int32) (0 : Int32) (0 : Int32) (0 : Int32) (0 : Int32) g _ eq1) vk_X8_isWord ml_X8_208 rfl rfl ⟨(Nat.le_of_ble_eq_true rfl), (Nat.le_of_ble_eq_true rfl)⟩ (va_recv (q := (RX8, TX8, 55)) hk.1 hP (q0 := 0) (ci := 7) rfl rfl) rfl hl.1 rfl (Nat.le_of_ble_eq_true rfl) dX8_name_13) (fun H locs hP hS => ?_)
  refine lv_if_eq (tgt := 24) hx hb dX8_name_16 (by decide) (fun c2 => ?_) (fun c2 => ?_)
  · have hf := ite_t c2 hf
    refine lv_aload_n hx hb dX8_name_24 rfl (lv_at hl 0 rfl) ?_
    refine lv_bipush (v := 109) hx hb dX8_name_25 kB_109 ?_
    refine lv_bipush (v := 97) hx hb dX8_name_27 kB_97 ?_
    refine lv_bipush (v := 107) hx hb dX8_name_29 kB_107 ?_
    refine lv_bipush (v := 101) hx hb dX8_name_31 kB_101 ?_
    refine lv_iconst (v := 0) hx hb dX8_name_33 kI_0 ?_
    refine lv_iconst (v := 0) hx hb dX8_name_34 kI_0 ?_
    refine lv_iconst (v := 0) hx hb dX8_name_35 kI_0 ?_
    refine lv_iconst (v := 0) hx hb dX8_name_36 kI_0 ?_
    obtain ⟨q3, eq3, hf⟩ := bd_e hf
    refine zki hS (zrV (As := [.int (109 : Int32), .int (97 : Int32), .int (107 : Int32), .int (101 : Int32), .int (0 : Int32), .int (0 : Int32), .int (0 : Int32), .int (0 : Int32)]) (rest := []) okM hx hb hml hown hts hk hP hS (t_X8_isWord l v N (109 : Int32) (97 : Int32) (107 : Int32) (101 : Int32) (0 : Int32) (0 : Int32) (0 : Int32) (0 : Int32) q1.2 _ eq3) vk_X8_isWord ml_X8_208 rfl rfl ⟨(Nat.le_of_ble_eq_true rfl), (Nat.le_of_ble_eq_true rfl)⟩ (va_recv (q := (RX8, TX8, 55)) hk.1 hP (q0 := 0) (ci := 7) rfl rfl) rfl hl.1 rfl (Nat.le_of_ble_eq_true rfl) dX8_name_37) (fun H locs hP hS => ?_)
    refine lv_if_eq (tgt := 48) hx hb dX8_name_40 (by decide) (fun c4 => ?_) (fun c4 => ?_)
    · have hf := ite_t c4 hf
      refine lv_aload_n hx hb dX8_name_48 rfl (lv_at hl 0 rfl) ?_
      refine lv_bipush (v := 97) hx hb dX8_name_49 kB_97 ?_
      refine lv_bipush (v := 112) hx hb dX8_name_51 kB_112 ?_
      refine lv_bipush (v := 97) hx hb dX8_name_53 kB_97 ?_
      refine lv_bipush (v := 114) hx hb dX8_name_55 kB_114 ?_
      refine lv_bipush (v := 116) hx hb dX8_name_57 kB_116 ?_
      refine lv_iconst (v := 0) hx hb dX8_name_59 kI_0 ?_
      refine lv_iconst (v := 0) hx hb dX8_name_60 kI_0 ?_
      refine lv_iconst (v := 0) hx hb dX8_name_61 kI_0 ?_
      obtain ⟨q5, eq5, hf⟩ := bd_e hf
      refine zki hS (zrV (As := [.int (97 : Int32), .int (112 : Int32), .int (97 : Int32), .int (114 : Int32), .int (116 : Int32), .int (0 : Int32), .int (0 : Int32), .int (0 : Int32)]) (rest := []) okM hx hb hml hown hts hk hP hS (t_X8_isWord l v N (97 : Int32) (112 : Int32) (97 : Int32) (114 : Int32) (116 : Int32) (0 : Int32) (0 : Int32) (0 : Int32) q3.2 _ eq5) vk_X8_isWord ml_X8_208 rfl rfl ⟨(Nat.le_of_ble_eq_true rfl), (Nat.le_of_ble_eq_true rfl)⟩ (va_recv (q := (RX8, TX8, 55)) hk.1 hP (q0 := 0) (ci := 7) rfl rfl) rfl hl.1 rfl (Nat.le_of_ble_eq_true rfl) dX8_name_62) (fun H locs hP hS => ?_)
      refine lv_if_eq (tgt := 73) hx hb dX8_name_65 (by decide) (fun c6 => ?_) (fun c6 => ?_)
      · have hf := ite_t c6 hf
        refine lv_aload_n hx hb dX8_name_73 rfl (lv_at hl 0 rfl) ?_
        refine lv_bipush (v := 110) hx hb dX8_name_74 kB_110 ?_
        refine lv_bipush (v := 117) hx hb dX8_name_76 kB_117 ?_
        refine lv_bipush (v := 109) hx hb dX8_name_78 kB_109 ?_
        refine lv_bipush (v := 98) hx hb dX8_name_80 kB_98 ?_
        refine lv_bipush (v := 101) hx hb dX8_name_82 kB_101 ?_
        refine lv_bipush (v := 114) hx hb dX8_name_84 kB_114 ?_
        refine lv_iconst (v := 0) hx hb dX8_name_86 kI_0 ?_
        refine lv_iconst (v := 0) hx hb dX8_name_87 kI_0 ?_
        obtain ⟨q7, eq7, hf⟩ := bd_e hf
        refine zki hS (zrV (As := [.int (110 : Int32), .int (117 : Int32), .int (109 : Int32), .int (98 : Int32), .int (101 : Int32), .int (114 : Int32), .int (0 : Int32), .int (0 : Int32)]) (rest := []) okM hx hb hml hown hts hk hP hS (t_X8_isWord l v N (110 : Int32) (117 : Int32) (109 : Int32) (98 : Int32) (101 : Int32) (114 : Int32) (0 : Int32) (0 : Int32) q5.2 _ eq7) vk_X8_isWord ml_X8_208 rfl rfl ⟨(Nat.le_of_ble_eq_true rfl), (Nat.le_of_ble_eq_true rfl)⟩ (va_recv (q := (RX8, TX8, 55)) hk.1 hP (q0 := 0) (ci := 7) rfl rfl) rfl hl.1 rfl (Nat.le_of_ble_eq_true rfl) dX8_name_88) (fun H locs hP hS => ?_)
        refine lv_if_eq (tgt := 99) hx hb dX8_name_91 (by decide) (fun c8 => ?_) (fun c8 => ?_)
        · have hf := ite_t c8 hf
          refine lv_aload_n hx hb dX8_name_99 rfl (lv_at hl 0 rfl) ?_
          refine lv_bipush (v := 102) hx hb dX8_name_100 kB_102 ?_
          refine lv_bipush (v := 111) hx hb dX8_name_102 kB_111 ?_
          refine lv_bipush (v := 111) hx hb dX8_name_104 kB_111 ?_
          refine lv_bipush (v := 116) hx hb dX8_name_106 kB_116 ?_
          refine lv_iconst (v := 0) hx hb dX8_name_108 kI_0 ?_
          refine lv_iconst (v := 0) hx hb dX8_name_109 kI_0 ?_
          refine lv_iconst (v := 0) hx hb dX8_name_110 kI_0 ?_
          refine lv_iconst (v := 0) hx hb dX8_name_111 kI_0 ?_
          obtain ⟨q9, eq9, hf⟩ := bd_e hf
          refine zki hS (zrV (As := [.int (102 : Int32), .int (111 : Int32), .int (111 : Int32), .int (116 : Int32), .int (0 : Int32), .int (0 : Int32), .int (0 : Int32), .int (0 : Int32)]) (rest := []) okM hx hb hml hown hts hk hP hS (t_X8_isWord l v N (102 : Int32) (111 : Int32) (111 : Int32) (116 : Int32) (0 : Int32) (0 : Int32) (0 : Int32) (0 : Int32) q7.2 _ eq9) vk_X8_isWord ml_X8_208 rfl rfl ⟨(Nat.le_of_ble_eq_true rfl), (Nat.le_of_ble_eq_true rfl)⟩ (va_recv (q := (RX8, TX8, 55)) hk.1 hP (q0 := 0) (ci := 7) rfl rfl) rfl hl.1 rfl (Nat.le_of_ble_eq_true rfl) dX8_name_112) (fun H locs hP hS => ?_)
          refine lv_if_eq (tgt := 123) hx hb dX8_name_115 (by decide) (fun c10 => ?_) (fun c10 => ?_)
          · have hf := ite_t c10 hf
            refine lv_aload_n hx hb dX8_name_123 rfl (lv_at hl 0 rfl) ?_
            refine lv_bipush (v := 104) hx hb dX8_name_124 kB_104 ?_
            refine lv_bipush (v := 111) hx hb dX8_name_126 kB_111 ?_
            refine lv_bipush (v := 117) hx hb dX8_name_128 kB_117 ?_
            refine lv_bipush (v := 114) hx hb dX8_name_130 kB_114 ?_
            refine lv_iconst (v := 0) hx hb dX8_name_132 kI_0 ?_
            refine lv_iconst (v := 0) hx hb dX8_name_133 kI_0 ?_
            refine lv_iconst (v := 0) hx hb dX8_name_134 kI_0 ?_
            refine lv_iconst (v := 0) hx hb dX8_name_135 kI_0 ?_
            obtain ⟨q11, eq11, hf⟩ := bd_e hf
            refine zki hS (zrV (As := [.int (104 : Int32), .int (111 : Int32), .int (117 : Int32), .int (114 : Int32), .int (0 : Int32), .int (0 : Int32), .int (0 : Int32), .int (0 : Int32)]) (rest := []) okM hx hb hml hown hts hk hP hS (t_X8_isWord l v N (104 : Int32) (111 : Int32) (117 : Int32) (114 : Int32) (0 : Int32) (0 : Int32) (0 : Int32) (0 : Int32) q9.2 _ eq11) vk_X8_isWord ml_X8_208 rfl rfl ⟨(Nat.le_of_ble_eq_true rfl), (Nat.le_of_ble_eq_true rfl)⟩ (va_recv (q := (RX8, TX8, 55)) hk.1 hP (q0 := 0) (ci := 7) rfl rfl) rfl hl.1 rfl (Nat.le_of_ble_eq_true rfl) dX8_name_136) (fun H locs hP hS => ?_)
            refine lv_if_eq (tgt := 147) hx hb dX8_name_139 (by decide) (fun c12 => ?_) (fun c12 => ?_)
            · have hf := ite_t c12 hf
              refine lv_aload_n hx hb dX8_name_147 rfl (lv_at hl 0 rfl) ?_
              obtain ⟨q13, eq13, hf⟩ := bd_e hf
              refine zkv hS (zrV (As := []) (rest := []) okM hx hb hml hown hts hk hP hS (t_X8_fail l v N q11.2 _ eq13) vk_X8_fail ml_X8_202 rfl rfl ⟨(Nat.le_of_ble_eq_true rfl), (Nat.le_of_ble_eq_true rfl)⟩ (va_recv (q := (RX8, TX8, 55)) hk.1 hP (q0 := 0) (ci := 7) rfl rfl) rfl hl.1 rfl (Nat.le_of_ble_eq_true rfl) dX8_name_148) (fun H locs hP hS => ?_)
              refine lv_iconst (v := 0) hx hb dX8_name_151 kI_0 ?_
              exact hret _ _ _ _ _ _ (Or.inl rfl) (Option.some.inj hf) hP hS dX8_name_152
            · have hf := ite_f c12 hf
              refine lv_aload_n hx hb dX8_name_142 rfl (lv_at hl 0 rfl) ?_
              refine va_get (D := zD v) (ci := 7) (v := .int (q11.2.1 0 21)) (C := RX8) (T := TX8) (N := 55) hx hb hts iX8 hown hk.1 hP 0 rfl rfl 21 (by decide) (hts _ fl_X8_227) (fun _ h9 => h9) rfl dX8_name_143 ?_
              exact hret _ _ _ _ _ _ (Or.inl rfl) (Option.some.inj hf) hP hS dX8_name_146
          · have hf := ite_f c10 hf
            refine lv_aload_n hx hb dX8_name_118 rfl (lv_at hl 0 rfl) ?_
            refine va_get (D := zD v) (ci := 7) (v := .int (q9.2.1 0 20)) (C := RX8) (T := TX8) (N := 55) hx hb hts iX8 hown hk.1 hP 0 rfl rfl 20 (by decide) (hts _ fl_X8_224) (fun _ h9 => h9) rfl dX8_name_119 ?_
            exact hret _ _ _ _ _ _ (Or.inl rfl) (Option.some.inj hf) hP hS dX8_name_122
        · have hf := ite_f c8 hf
          refine lv_aload_n hx hb dX8_name_94 rfl (lv_at hl 0 rfl) ?_
          refine va_get (D := zD v) (ci := 7) (v := .int (q7.2.1 0 19)) (C := RX8) (T := TX8) (N := 55) hx hb hts iX8 hown hk.1 hP 0 rfl rfl 19 (by decide) (hts _ fl_X8_221) (fun _ h9 => h9) rfl dX8_name_95 ?_
          exact hret _ _ _ _ _ _ (Or.inl rfl) (Option.some.inj hf) hP hS dX8_name_98
      · have hf := ite_f c6 hf
        refine lv_aload_n hx hb dX8_name_68 rfl (lv_at hl 0 rfl) ?_
        refine va_get (D := zD v) (ci := 7) (v := .int (q5.2.1 0 18)) (C := RX8) (T := TX8) (N := 55) hx hb hts iX8 hown hk.1 hP 0 rfl rfl 18 (by decide) (hts _ fl_X8_218) (fun _ h9 => h9) rfl dX8_name_69 ?_
        exact hret _ _ _ _ _ _ (Or.inl rfl) (Option.some.inj hf) hP hS dX8_name_72
    · have hf := ite_f c4 hf
      refine lv_aload_n hx hb dX8_name_43 rfl (lv_at hl 0 rfl) ?_
      refine va_get (D := zD v) (ci := 7) (v := .int (q3.2.1 0 17)) (C := RX8) (T := TX8) (N := 55) hx hb hts iX8 hown hk.1 hP 0 rfl rfl 17 (by decide) (hts _ fl_X8_215) (fun _ h9 => h9) rfl dX8_name_44 ?_
      exact hret _ _ _ _ _ _ (Or.inl rfl) (Option.some.inj hf) hP hS dX8_name_47
  · have hf := ite_f c2 hf
    refine lv_aload_n hx hb dX8_name_19 rfl (lv_at hl 0 rfl) ?_
    refine va_get (D := zD v) (ci := 7) (v := .int (q1.2.1 0 16)) (C := RX8) (T := TX8) (N := 55) hx hb hts iX8 hown hk.1 hP 0 rfl rfl 16 (by decide) (hts _ fl_X8_212) (fun _ h9 => h9) rfl dX8_name_20 ?_
    exact hret _ _ _ _ _ _ (Or.inl rfl) (Option.some.inj hf) hP hS dX8_name_23
set_option maxRecDepth 100000 in
theorem t_X8_either (l : Launch) (v : Ev) (N : Nat) (rec : Nat → Int32 → Int32 → Int32 → SM → Option (Int32 × SM)) (d : Nat) (hr0 : ∀ (g : SM) (res : Int32 × SM), rec 0 0 0 0 g = some res → Ci l yX8_either cX8_either 3 .int (rmG 8 800 60 d) pM v [.ref (zA v 0)] g res) (hr1 : ∀ (g : SM) (res : Int32 × SM), rec 1 0 0 0 g = some res → Ci l yX8_both cX8_both 3 .int (rmG 8 800 60 d) pM v [.ref (zA v 0)] g res) (hr2 : ∀ (g : SM) (res : Int32 × SM), rec 2 0 0 0 g = some res → Ci l yX8_not cX8_not 4 .int (rmG 8 800 60 d) pM v [.ref (zA v 0)] g res) (hr3 : ∀ (g : SM) (res : Int32 × SM), rec 3 0 0 0 g = some res → Ci l yX8_added cX8_added 4 .int (rmG 8 800 60 d) pM v [.ref (zA v 0)] g res) (hr4 : ∀ (g : SM) (res : Int32 × SM), rec 4 0 0 0 g = some res → Ci l yX8_term cX8_term 2 .int (rmG 8 800 60 d) pM v [.ref (zA v 0)] g res) (hr5 : ∀ (g : SM) (res : Int32 × SM), rec 5 0 0 0 g = some res → Ci l yX8_atom cX8_atom 2 .int (rmG 8 800 60 d) pM v [.ref (zA v 0)] g res) (g : SM) (res : Int32 × SM) (hf : x_X8_either N rec g = some res) : Ci l yX8_either cX8_either 3 .int (rmG 8 800 60 (d + 1)) pM v [.ref (zA v 0)] g res := by
  refine ze_i (by decide +kernel) (Nat.le_of_ble_eq_true rfl) ?_
  intro p e s m args below meth c Q ls hcx hret hP hl
  obtain ⟨hx, hb, hml, hown, hts, hk⟩ := hcx
  have hown : s.vm.findClass RX8 = some m.cls := hown
  have hS : va_S (An nM v) s.heap s.heap [] := va_S.rf
  have hl : lv_has ls 3 [(0, .ref (zA v 0))] := hl
  have wb44 : ∀ (h5 : Int32 × SM → Option (Int32 × SM)) (hh5 : ∀ x : Int32 × SM, h5 x = some res → ∀ (H : Heap) (locs : List Loc) (ls : Array Slot), va_P (zD v) vwCl (pM.1 v x.2) H → va_S (An nM v) s.heap H locs → lv_has ls 3 [(0, .ref (zA v 0)), (1, .int x.1)] → W p l e (rmG 8 800 60 (d + 1)) s m args below meth c H locs 0 0 Q (F0 m 5 ls [])) (t0 : Int32) (g : SM) (hf : x_X8_either_b44 N rec h5 t0 g = some res) (H : Heap) (locs : List Loc) (ls : Array Slot) (hP : va_P (zD v) vwCl (pM.1 v g) H) (hS : va_S (An nM v) s.heap H locs) (hl : lv_has ls 3 [(0, .ref (zA v 0))]), W p l e (rmG 8 800 60 (d + 1)) s m args below meth c H locs 0 0 Q (F0 m 44 ls [.int t0]) := by
    intro h5 hh5 t0 g hf H locs ls hP hS hl
    unfold x_X8_either_b44 at hf
    refine lv_istore_n (lv' := [(1, .int t0), (0, .ref (zA v 0))]) hx hb dX8_either_44 rfl hl (by decide) rfl (fun ls hl => ?_)
    refine lv_goto (tgt := 5) hx hb dX8_either_45 (by decide) ?_
    exact hh5 (t0, g) hf _ _ _ hP hS (lv_sub hl [1, 0] rfl)
  have wb39 : ∀ (h5 : Int32 × SM → Option (Int32 × SM)) (hh5 : ∀ x : Int32 × SM, h5 x = some res → ∀ (H : Heap) (locs : List Loc) (ls : Array Slot), va_P (zD v) vwCl (pM.1 v x.2) H → va_S (An nM v) s.heap H locs → lv_has ls 3 [(0, .ref (zA v 0)), (1, .int x.1)] → W p l e (rmG 8 800 60 (d + 1)) s m args below meth c H locs 0 0 Q (F0 m 5 ls [])) (g : SM) (hf : x_X8_either_b39 N rec h5 g = some res) (H : Heap) (locs : List Loc) (ls : Array Slot) (hP : va_P (zD v) vwCl (pM.1 v g) H) (hS : va_S (An nM v) s.heap H locs) (hl : lv_has ls 3 [(0, .ref (zA v 0))]), W p l e (rmG 8 800 60 (d + 1)) s m args below meth c H locs 0 0 Q (F0 m 39 ls []) := by
    intro h5 hh5 g hf H locs ls hP hS hl
    unfold x_X8_either_b39 at hf
    refine lv_iconst (v := 1) hx hb dX8_either_39 kI_1 ?_
    refine lv_goto (tgt := 44) hx hb dX8_either_40 (by decide) ?_
    exact wb44 h5 hh5 (1 : Int32) g hf _ _ _ hP hS (lv_sub hl [0] rfl)
  have wL5 : ∀ (n : Nat) (x : Int32 × SM), lp (x_X8_either_B5 N rec) n x = some res → ∀ (H : Heap) (locs : List Loc) (ls : Array Slot), va_P (zD v) vwCl (pM.1 v x.2) H → va_S (An nM v) s.heap H locs → lv_has ls 3 [(0, .ref (zA v 0)), (1, .int x.1)] → W p l e (rmG 8 800 60 (d + 1)) s m args below meth c H locs 0 0 Q (F0 m 5 ls []) := by
    refine lp_w (P := fun x : Int32 × SM => ∀ (H : Heap) (locs : List Loc) (ls : Array Slot), va_P (zD v) vwCl (pM.1 v x.2) H → va_S (An nM v) s.heap H locs → lv_has ls 3 [(0, .ref (zA v 0)), (1, .int x.1)] → W p l e (rmG 8 800 60 (d + 1)) s m args below meth c H locs 0 0 Q (F0 m 5 ls [])) ?_
    intro h5 hh5 x hf H locs ls hP hS hl
    unfold x_X8_either_B5 at hf
    refine lv_aload_n hx hb dX8_either_5 rfl (lv_at hl 0 rfl) ?_
    refine lv_bipush (v := 111) hx hb dX8_either_6 kB_111 ?_
    refine lv_bipush (v := 114) hx hb dX8_either_8 kB_114 ?_
    refine lv_iconst (v := 0) hx hb dX8_either_10 kI_0 ?_
    refine lv_iconst (v := 0) hx hb dX8_either_11 kI_0 ?_
    refine lv_iconst (v := 0) hx hb dX8_either_12 kI_0 ?_
    refine lv_iconst (v := 0) hx hb dX8_either_13 kI_0 ?_
    refine lv_iconst (v := 0) hx hb dX8_either_14 kI_0 ?_
    refine lv_iconst (v := 0) hx hb dX8_either_15 kI_0 ?_
    obtain ⟨q2, eq2, hf⟩ := bd_e hf
    refine zki hS (zrV (As := [.int (111 : Int32), .int (114 : Int32), .int (0 : Int32), .int (0 : Int32), .int (0 : Int32), .int (0 : Int32), .int (0 : Int32), .int (0 : Int32)]) (rest := []) okM hx hb hml hown hts hk hP hS (t_X8_isWord l v N (111 : Int32) (114 : Int32) (0 : Int32) (0 : Int32) (0 : Int32) (0 : Int32) (0 : Int32) (0 : Int32) x.2 _ eq2) vk_X8_isWord ml_X8_208 rfl rfl (rmG_lo (Nat.le_of_ble_eq_true rfl) (Nat.le_of_ble_eq_true rfl)) (va_recv (q := (RX8, TX8, 55)) hk.1 hP (q0 := 0) (ci := 7) rfl rfl) rfl hl.1 rfl (Nat.le_of_ble_eq_true rfl) dX8_either_16) (fun H locs hP hS => ?_)
    refine lv_if_eq (tgt := 48) hx hb dX8_either_19 (by decide) (fun c3 => ?_) (fun c3 => ?_)
    · have hf := ite_t c3 hf
      refine lv_iload_n hx hb dX8_either_48 rfl (lv_at hl 1 rfl) ?_
      exact hret _ _ _ _ _ _ (Or.inl rfl) (Option.some.inj hf) hP hS dX8_either_49
    · have hf := ite_f c3 hf
      refine lv_aload_n hx hb dX8_either_22 rfl (lv_at hl 0 rfl) ?_
      obtain ⟨q4, eq4, hf⟩ := bd_e hf
      refine zkv hS (zrV (As := []) (rest := []) okM hx hb hml hown hts hk hP hS (t_X8_next l v N q2.2 _ eq4) vk_X8_next ml_X8_205 rfl rfl (rmG_lo (Nat.le_of_ble_eq_true rfl) (Nat.le_of_ble_eq_true rfl)) (va_recv (q := (RX8, TX8, 55)) hk.1 hP (q0 := 0) (ci := 7) rfl rfl) rfl hl.1 rfl (Nat.le_of_ble_eq_true rfl) dX8_either_23) (fun H locs hP hS => ?_)
      refine lv_aload_n hx hb dX8_either_26 rfl (lv_at hl 0 rfl) ?_
      obtain ⟨q5, eq5, hf⟩ := bd_e hf
      refine zki hS (zrV (As := []) (rest := []) okM hx hb hml hown hts hk hP hS (hr1 q4 _ eq5) vk_X8_both ml_X8_260 rfl rfl (rmG_go (by decide)) (va_recv (q := (RX8, TX8, 55)) hk.1 hP (q0 := 0) (ci := 7) rfl rfl) rfl hl.1 rfl (Nat.le_of_ble_eq_true rfl) dX8_either_27) (fun H locs hP hS => ?_)
      refine lv_istore_n (lv' := [(2, .int q5.1), (0, .ref (zA v 0)), (1, .int x.1)]) hx hb dX8_either_30 rfl hl (by decide) rfl (fun ls hl => ?_)
      refine lv_iload_n hx hb dX8_either_31 rfl (lv_at hl 2 rfl) ?_
      refine lv_if_ne (tgt := 39) hx hb dX8_either_32 (by decide) (fun c6 => ?_) (fun c6 => ?_)
      · have hf := ite_f c6 hf
        exact wb39 h5 hh5 q5.2 hf _ _ _ hP hS (lv_sub hl [1] rfl)
      · have hf := ite_t c6 hf
        refine lv_iload_n hx hb dX8_either_35 rfl (lv_at hl 0 rfl) ?_
        refine lv_if_eq (tgt := 43) hx hb dX8_either_36 (by decide) (fun c7 => ?_) (fun c7 => ?_)
        · have hf := ite_t c7 hf
          refine lv_iconst (v := 0) hx hb dX8_either_43 kI_0 ?_
          exact wb44 h5 hh5 (0 : Int32) q5.2 hf _ _ _ hP hS (lv_sub hl [1] rfl)
        · have hf := ite_f c7 hf
          exact wb39 h5 hh5 q5.2 hf _ _ _ hP hS (lv_sub hl [1] rfl)
  unfold x_X8_either at hf
  refine lv_aload_n hx hb dX8_either_0 rfl (lv_at hl 0 rfl) ?_
  obtain ⟨q1, eq1, hf⟩ := bd_e hf
  refine zki hS (zrV (As := []) (rest := []) okM hx hb hml hown hts hk hP hS (hr1 g _ eq1) vk_X8_both ml_X8_260 rfl rfl (rmG_go (by decide)) (va_recv (q := (RX8, TX8, 55)) hk.1 hP (q0 := 0) (ci := 7) rfl rfl) rfl hl.1 rfl (Nat.le_of_ble_eq_true rfl) dX8_either_1) (fun H locs hP hS => ?_)
  refine lv_istore_n (lv' := [(1, .int q1.1), (0, .ref (zA v 0))]) hx hb dX8_either_4 rfl hl (by decide) rfl (fun ls hl => ?_)
  exact wL5 N (q1.1, q1.2) hf _ _ _ hP hS (lv_sub hl [1, 0] rfl)
set_option maxRecDepth 100000 in
theorem t_X8_both (l : Launch) (v : Ev) (N : Nat) (rec : Nat → Int32 → Int32 → Int32 → SM → Option (Int32 × SM)) (d : Nat) (hr0 : ∀ (g : SM) (res : Int32 × SM), rec 0 0 0 0 g = some res → Ci l yX8_either cX8_either 3 .int (rmG 8 800 60 d) pM v [.ref (zA v 0)] g res) (hr1 : ∀ (g : SM) (res : Int32 × SM), rec 1 0 0 0 g = some res → Ci l yX8_both cX8_both 3 .int (rmG 8 800 60 d) pM v [.ref (zA v 0)] g res) (hr2 : ∀ (g : SM) (res : Int32 × SM), rec 2 0 0 0 g = some res → Ci l yX8_not cX8_not 4 .int (rmG 8 800 60 d) pM v [.ref (zA v 0)] g res) (hr3 : ∀ (g : SM) (res : Int32 × SM), rec 3 0 0 0 g = some res → Ci l yX8_added cX8_added 4 .int (rmG 8 800 60 d) pM v [.ref (zA v 0)] g res) (hr4 : ∀ (g : SM) (res : Int32 × SM), rec 4 0 0 0 g = some res → Ci l yX8_term cX8_term 2 .int (rmG 8 800 60 d) pM v [.ref (zA v 0)] g res) (hr5 : ∀ (g : SM) (res : Int32 × SM), rec 5 0 0 0 g = some res → Ci l yX8_atom cX8_atom 2 .int (rmG 8 800 60 d) pM v [.ref (zA v 0)] g res) (g : SM) (res : Int32 × SM) (hf : x_X8_both N rec g = some res) : Ci l yX8_both cX8_both 3 .int (rmG 8 800 60 (d + 1)) pM v [.ref (zA v 0)] g res := by
  refine ze_i (by decide +kernel) (Nat.le_of_ble_eq_true rfl) ?_
  intro p e s m args below meth c Q ls hcx hret hP hl
  obtain ⟨hx, hb, hml, hown, hts, hk⟩ := hcx
  have hown : s.vm.findClass RX8 = some m.cls := hown
  have hS : va_S (An nM v) s.heap s.heap [] := va_S.rf
  have hl : lv_has ls 3 [(0, .ref (zA v 0))] := hl
  have wb45 : ∀ (h5 : Int32 × SM → Option (Int32 × SM)) (hh5 : ∀ x : Int32 × SM, h5 x = some res → ∀ (H : Heap) (locs : List Loc) (ls : Array Slot), va_P (zD v) vwCl (pM.1 v x.2) H → va_S (An nM v) s.heap H locs → lv_has ls 3 [(0, .ref (zA v 0)), (1, .int x.1)] → W p l e (rmG 8 800 60 (d + 1)) s m args below meth c H locs 0 0 Q (F0 m 5 ls [])) (t0 : Int32) (g : SM) (hf : x_X8_both_b45 N rec h5 t0 g = some res) (H : Heap) (locs : List Loc) (ls : Array Slot) (hP : va_P (zD v) vwCl (pM.1 v g) H) (hS : va_S (An nM v) s.heap H locs) (hl : lv_has ls 3 [(0, .ref (zA v 0))]), W p l e (rmG 8 800 60 (d + 1)) s m args below meth c H locs 0 0 Q (F0 m 45 ls [.int t0]) := by
    intro h5 hh5 t0 g hf H locs ls hP hS hl
    unfold x_X8_both_b45 at hf
    refine lv_istore_n (lv' := [(1, .int t0), (0, .ref (zA v 0))]) hx hb dX8_both_45 rfl hl (by decide) rfl (fun ls hl => ?_)
    refine lv_goto (tgt := 5) hx hb dX8_both_46 (by decide) ?_
    exact hh5 (t0, g) hf _ _ _ hP hS (lv_sub hl [1, 0] rfl)
  have wb44 : ∀ (h5 : Int32 × SM → Option (Int32 × SM)) (hh5 : ∀ x : Int32 × SM, h5 x = some res → ∀ (H : Heap) (locs : List Loc) (ls : Array Slot), va_P (zD v) vwCl (pM.1 v x.2) H → va_S (An nM v) s.heap H locs → lv_has ls 3 [(0, .ref (zA v 0)), (1, .int x.1)] → W p l e (rmG 8 800 60 (d + 1)) s m args below meth c H locs 0 0 Q (F0 m 5 ls [])) (g : SM) (hf : x_X8_both_b44 N rec h5 g = some res) (H : Heap) (locs : List Loc) (ls : Array Slot) (hP : va_P (zD v) vwCl (pM.1 v g) H) (hS : va_S (An nM v) s.heap H locs) (hl : lv_has ls 3 [(0, .ref (zA v 0))]), W p l e (rmG 8 800 60 (d + 1)) s m args below meth c H locs 0 0 Q (F0 m 44 ls []) := by
    intro h5 hh5 g hf H locs ls hP hS hl
    unfold x_X8_both_b44 at hf
    refine lv_iconst (v := 0) hx hb dX8_both_44 kI_0 ?_
    exact wb45 h5 hh5 (0 : Int32) g hf _ _ _ hP hS (lv_sub hl [0] rfl)
  have wL5 : ∀ (n : Nat) (x : Int32 × SM), lp (x_X8_both_B5 N rec) n x = some res → ∀ (H : Heap) (locs : List Loc) (ls : Array Slot), va_P (zD v) vwCl (pM.1 v x.2) H → va_S (An nM v) s.heap H locs → lv_has ls 3 [(0, .ref (zA v 0)), (1, .int x.1)] → W p l e (rmG 8 800 60 (d + 1)) s m args below meth c H locs 0 0 Q (F0 m 5 ls []) := by
    refine lp_w (P := fun x : Int32 × SM => ∀ (H : Heap) (locs : List Loc) (ls : Array Slot), va_P (zD v) vwCl (pM.1 v x.2) H → va_S (An nM v) s.heap H locs → lv_has ls 3 [(0, .ref (zA v 0)), (1, .int x.1)] → W p l e (rmG 8 800 60 (d + 1)) s m args below meth c H locs 0 0 Q (F0 m 5 ls [])) ?_
    intro h5 hh5 x hf H locs ls hP hS hl
    unfold x_X8_both_B5 at hf
    refine lv_aload_n hx hb dX8_both_5 rfl (lv_at hl 0 rfl) ?_
    refine lv_bipush (v := 97) hx hb dX8_both_6 kB_97 ?_
    refine lv_bipush (v := 110) hx hb dX8_both_8 kB_110 ?_
    refine lv_bipush (v := 100) hx hb dX8_both_10 kB_100 ?_
    refine lv_iconst (v := 0) hx hb dX8_both_12 kI_0 ?_
    refine lv_iconst (v := 0) hx hb dX8_both_13 kI_0 ?_
    refine lv_iconst (v := 0) hx hb dX8_both_14 kI_0 ?_
    refine lv_iconst (v := 0) hx hb dX8_both_15 kI_0 ?_
    refine lv_iconst (v := 0) hx hb dX8_both_16 kI_0 ?_
    obtain ⟨q2, eq2, hf⟩ := bd_e hf
    refine zki hS (zrV (As := [.int (97 : Int32), .int (110 : Int32), .int (100 : Int32), .int (0 : Int32), .int (0 : Int32), .int (0 : Int32), .int (0 : Int32), .int (0 : Int32)]) (rest := []) okM hx hb hml hown hts hk hP hS (t_X8_isWord l v N (97 : Int32) (110 : Int32) (100 : Int32) (0 : Int32) (0 : Int32) (0 : Int32) (0 : Int32) (0 : Int32) x.2 _ eq2) vk_X8_isWord ml_X8_208 rfl rfl (rmG_lo (Nat.le_of_ble_eq_true rfl) (Nat.le_of_ble_eq_true rfl)) (va_recv (q := (RX8, TX8, 55)) hk.1 hP (q0 := 0) (ci := 7) rfl rfl) rfl hl.1 rfl (Nat.le_of_ble_eq_true rfl) dX8_both_17) (fun H locs hP hS => ?_)
    refine lv_if_eq (tgt := 49) hx hb dX8_both_20 (by decide) (fun c3 => ?_) (fun c3 => ?_)
    · have hf := ite_t c3 hf
      refine lv_iload_n hx hb dX8_both_49 rfl (lv_at hl 1 rfl) ?_
      exact hret _ _ _ _ _ _ (Or.inl rfl) (Option.some.inj hf) hP hS dX8_both_50
    · have hf := ite_f c3 hf
      refine lv_aload_n hx hb dX8_both_23 rfl (lv_at hl 0 rfl) ?_
      obtain ⟨q4, eq4, hf⟩ := bd_e hf
      refine zkv hS (zrV (As := []) (rest := []) okM hx hb hml hown hts hk hP hS (t_X8_next l v N q2.2 _ eq4) vk_X8_next ml_X8_205 rfl rfl (rmG_lo (Nat.le_of_ble_eq_true rfl) (Nat.le_of_ble_eq_true rfl)) (va_recv (q := (RX8, TX8, 55)) hk.1 hP (q0 := 0) (ci := 7) rfl rfl) rfl hl.1 rfl (Nat.le_of_ble_eq_true rfl) dX8_both_24) (fun H locs hP hS => ?_)
      refine lv_aload_n hx hb dX8_both_27 rfl (lv_at hl 0 rfl) ?_
      obtain ⟨q5, eq5, hf⟩ := bd_e hf
      refine zki hS (zrV (As := []) (rest := []) okM hx hb hml hown hts hk hP hS (hr2 q4 _ eq5) vk_X8_not ml_X8_252 rfl rfl (rmG_go (by decide)) (va_recv (q := (RX8, TX8, 55)) hk.1 hP (q0 := 0) (ci := 7) rfl rfl) rfl hl.1 rfl (Nat.le_of_ble_eq_true rfl) dX8_both_28) (fun H locs hP hS => ?_)
      refine lv_istore_n (lv' := [(2, .int q5.1), (0, .ref (zA v 0)), (1, .int x.1)]) hx hb dX8_both_31 rfl hl (by decide) rfl (fun ls hl => ?_)
      refine lv_iload_n hx hb dX8_both_32 rfl (lv_at hl 2 rfl) ?_
      refine lv_if_eq (tgt := 44) hx hb dX8_both_33 (by decide) (fun c6 => ?_) (fun c6 => ?_)
      · have hf := ite_t c6 hf
        exact wb44 h5 hh5 q5.2 hf _ _ _ hP hS (lv_sub hl [1] rfl)
      · have hf := ite_f c6 hf
        refine lv_iload_n hx hb dX8_both_36 rfl (lv_at hl 0 rfl) ?_
        refine lv_if_eq (tgt := 44) hx hb dX8_both_37 (by decide) (fun c7 => ?_) (fun c7 => ?_)
        · have hf := ite_t c7 hf
          exact wb44 h5 hh5 q5.2 hf _ _ _ hP hS (lv_sub hl [1] rfl)
        · have hf := ite_f c7 hf
          refine lv_iconst (v := 1) hx hb dX8_both_40 kI_1 ?_
          refine lv_goto (tgt := 45) hx hb dX8_both_41 (by decide) ?_
          exact wb45 h5 hh5 (1 : Int32) q5.2 hf _ _ _ hP hS (lv_sub hl [1] rfl)
  unfold x_X8_both at hf
  refine lv_aload_n hx hb dX8_both_0 rfl (lv_at hl 0 rfl) ?_
  obtain ⟨q1, eq1, hf⟩ := bd_e hf
  refine zki hS (zrV (As := []) (rest := []) okM hx hb hml hown hts hk hP hS (hr2 g _ eq1) vk_X8_not ml_X8_252 rfl rfl (rmG_go (by decide)) (va_recv (q := (RX8, TX8, 55)) hk.1 hP (q0 := 0) (ci := 7) rfl rfl) rfl hl.1 rfl (Nat.le_of_ble_eq_true rfl) dX8_both_1) (fun H locs hP hS => ?_)
  refine lv_istore_n (lv' := [(1, .int q1.1), (0, .ref (zA v 0))]) hx hb dX8_both_4 rfl hl (by decide) rfl (fun ls hl => ?_)
  exact wL5 N (q1.1, q1.2) hf _ _ _ hP hS (lv_sub hl [1, 0] rfl)
set_option maxRecDepth 100000 in
theorem t_X8_not (l : Launch) (v : Ev) (N : Nat) (rec : Nat → Int32 → Int32 → Int32 → SM → Option (Int32 × SM)) (d : Nat) (hr0 : ∀ (g : SM) (res : Int32 × SM), rec 0 0 0 0 g = some res → Ci l yX8_either cX8_either 3 .int (rmG 8 800 60 d) pM v [.ref (zA v 0)] g res) (hr1 : ∀ (g : SM) (res : Int32 × SM), rec 1 0 0 0 g = some res → Ci l yX8_both cX8_both 3 .int (rmG 8 800 60 d) pM v [.ref (zA v 0)] g res) (hr2 : ∀ (g : SM) (res : Int32 × SM), rec 2 0 0 0 g = some res → Ci l yX8_not cX8_not 4 .int (rmG 8 800 60 d) pM v [.ref (zA v 0)] g res) (hr3 : ∀ (g : SM) (res : Int32 × SM), rec 3 0 0 0 g = some res → Ci l yX8_added cX8_added 4 .int (rmG 8 800 60 d) pM v [.ref (zA v 0)] g res) (hr4 : ∀ (g : SM) (res : Int32 × SM), rec 4 0 0 0 g = some res → Ci l yX8_term cX8_term 2 .int (rmG 8 800 60 d) pM v [.ref (zA v 0)] g res) (hr5 : ∀ (g : SM) (res : Int32 × SM), rec 5 0 0 0 g = some res → Ci l yX8_atom cX8_atom 2 .int (rmG 8 800 60 d) pM v [.ref (zA v 0)] g res) (g : SM) (res : Int32 × SM) (hf : x_X8_not N rec g = some res) : Ci l yX8_not cX8_not 4 .int (rmG 8 800 60 (d + 1)) pM v [.ref (zA v 0)] g res := by
  refine ze_i (by decide +kernel) (Nat.le_of_ble_eq_true rfl) ?_
  intro p e s m args below meth c Q ls hcx hret hP hl
  obtain ⟨hx, hb, hml, hown, hts, hk⟩ := hcx
  have hown : s.vm.findClass RX8 = some m.cls := hown
  have hS : va_S (An nM v) s.heap s.heap [] := va_S.rf
  have hl : lv_has ls 4 [(0, .ref (zA v 0))] := hl
  have wb93 : ∀ (y1 : Int32) (t0 : Int32) (g : SM) (hf : x_X8_not_b93 N rec y1 t0 g = some res) (H : Heap) (locs : List Loc) (ls : Array Slot) (hP : va_P (zD v) vwCl (pM.1 v g) H) (hS : va_S (An nM v) s.heap H locs) (hl : lv_has ls 4 [(0, .ref (zA v 0)), (1, .int y1)]), W p l e (rmG 8 800 60 (d + 1)) s m args below meth c H locs 0 0 Q (F0 m 93 ls [.int t0]) := by
    intro y1 t0 g hf H locs ls hP hS hl
    unfold x_X8_not_b93 at hf
    refine lv_istore_n (lv' := [(2, .int t0), (0, .ref (zA v 0)), (1, .int y1)]) hx hb dX8_not_93 rfl hl (by decide) rfl (fun ls hl => ?_)
    refine lv_aload_n hx hb dX8_not_94 rfl (lv_at hl 1 rfl) ?_
    obtain ⟨q7, eq7, hf⟩ := bd_e hf
    refine zkv hS (zrV (As := []) (rest := []) okM hx hb hml hown hts hk hP hS (t_X8_next l v N g _ eq7) vk_X8_next ml_X8_205 rfl rfl (rmG_lo (Nat.le_of_ble_eq_true rfl) (Nat.le_of_ble_eq_true rfl)) (va_recv (q := (RX8, TX8, 55)) hk.1 hP (q0 := 0) (ci := 7) rfl rfl) rfl hl.1 rfl (Nat.le_of_ble_eq_true rfl) dX8_not_95) (fun H locs hP hS => ?_)
    refine lv_aload_n hx hb dX8_not_98 rfl (lv_at hl 1 rfl) ?_
    obtain ⟨q8, eq8, hf⟩ := bd_e hf
    refine zki hS (zrV (As := []) (rest := []) okM hx hb hml hown hts hk hP hS (hr3 q7 _ eq8) vk_X8_added ml_X8_255 rfl rfl (rmG_go (by decide)) (va_recv (q := (RX8, TX8, 55)) hk.1 hP (q0 := 0) (ci := 7) rfl rfl) rfl hl.1 rfl (Nat.le_of_ble_eq_true rfl) dX8_not_99) (fun H locs hP hS => ?_)
    refine lv_istore_n (lv' := [(3, .int q8.1), (2, .int t0), (0, .ref (zA v 0)), (1, .int y1)]) hx hb dX8_not_102 rfl hl (by decide) rfl (fun ls hl => ?_)
    refine lv_iload_n hx hb dX8_not_103 rfl (lv_at hl 1 rfl) ?_
    refine lv_if_eq (tgt := 115) hx hb dX8_not_104 (by decide) (fun c9 => ?_) (fun c9 => ?_)
    · have hf := ite_t c9 hf
      refine lv_iload_n hx hb dX8_not_115 rfl (lv_at hl 3 rfl) ?_
      refine lv_iload_n hx hb dX8_not_116 rfl (lv_at hl 0 rfl) ?_
      refine lv_icmp_ne (tgt := 124) hx hb dX8_not_117 (by decide) (fun c10 => ?_) (fun c10 => ?_)
      · have hf := ite_f c10 hf
        refine lv_iconst (v := 0) hx hb dX8_not_124 kI_0 ?_
        exact hret _ _ _ _ _ _ (Or.inl rfl) (Option.some.inj hf) hP hS dX8_not_125
      · have hf := ite_t c10 hf
        refine lv_iconst (v := 1) hx hb dX8_not_120 kI_1 ?_
        refine lv_goto (tgt := 125) hx hb dX8_not_121 (by decide) ?_
        exact hret _ _ _ _ _ _ (Or.inl rfl) (Option.some.inj hf) hP hS dX8_not_125
    · have hf := ite_f c9 hf
      refine lv_iload_n hx hb dX8_not_107 rfl (lv_at hl 3 rfl) ?_
      refine lv_iload_n hx hb dX8_not_108 rfl (lv_at hl 0 rfl) ?_
      refine lv_icmp_ge (tgt := 124) hx hb dX8_not_109 (by decide) (fun c11 => ?_) (fun c11 => ?_)
      · have hf := ite_t c11 hf
        refine lv_iconst (v := 0) hx hb dX8_not_124 kI_0 ?_
        exact hret _ _ _ _ _ _ (Or.inl rfl) (Option.some.inj hf) hP hS dX8_not_125
      · have hf := ite_f c11 hf
        refine lv_goto (tgt := 120) hx hb dX8_not_112 (by decide) ?_
        refine lv_iconst (v := 1) hx hb dX8_not_120 kI_1 ?_
        refine lv_goto (tgt := 125) hx hb dX8_not_121 (by decide) ?_
        exact hret _ _ _ _ _ _ (Or.inl rfl) (Option.some.inj hf) hP hS dX8_not_125
  have wb77 : ∀ (y1 : Int32) (g : SM) (hf : x_X8_not_b77 N rec y1 g = some res) (H : Heap) (locs : List Loc) (ls : Array Slot) (hP : va_P (zD v) vwCl (pM.1 v g) H) (hS : va_S (An nM v) s.heap H locs) (hl : lv_has ls 4 [(0, .ref (zA v 0)), (1, .int y1)]), W p l e (rmG 8 800 60 (d + 1)) s m args below meth c H locs 0 0 Q (F0 m 77 ls []) := by
    intro y1 g hf H locs ls hP hS hl
    unfold x_X8_not_b77 at hf
    refine lv_aload_n hx hb dX8_not_77 rfl (lv_at hl 0 rfl) ?_
    refine va_get (D := zD v) (ci := 7) (v := .long g.2) (C := RX8) (T := TX8) (N := 55) hx hb hts iX8 hown hk.1 hP 0 rfl rfl 27 (by decide) (hts _ fl_X8_182) (fun _ h9 => h9) rfl dX8_not_78 ?_
    refine lv_ldc2 (v := 60) hx hb hown (hts _ kc_X8_258) dX8_not_81 ?_
    refine W.lcmp hx hb dX8_not_84 ?_
    refine lv_if_ne (tgt := 92) hx hb dX8_not_85 (by decide) (fun c6 => ?_) (fun c6 => ?_)
    · have hf := ite_f c6 hf
      refine lv_iconst (v := 0) hx hb dX8_not_92 kI_0 ?_
      exact wb93 y1 (0 : Int32) g hf _ _ _ hP hS (lv_sub hl [0, 1] rfl)
    · have hf := ite_t c6 hf
      refine lv_iconst (v := 1) hx hb dX8_not_88 kI_1 ?_
      refine lv_goto (tgt := 93) hx hb dX8_not_89 (by decide) ?_
      exact wb93 y1 (1 : Int32) g hf _ _ _ hP hS (lv_sub hl [0, 1] rfl)
  unfold x_X8_not at hf
  refine lv_aload_n hx hb dX8_not_0 rfl (lv_at hl 0 rfl) ?_
  refine lv_bipush (v := 110) hx hb dX8_not_1 kB_110 ?_
  refine lv_bipush (v := 111) hx hb dX8_not_3 kB_111 ?_
  refine lv_bipush (v := 116) hx hb dX8_not_5 kB_116 ?_
  refine lv_iconst (v := 0) hx hb dX8_not_7 kI_0 ?_
  refine lv_iconst (v := 0) hx hb dX8_not_8 kI_0 ?_
  refine lv_iconst (v := 0) hx hb dX8_not_9 kI_0 ?_
  refine lv_iconst (v := 0) hx hb dX8_not_10 kI_0 ?_
  refine lv_iconst (v := 0) hx hb dX8_not_11 kI_0 ?_
  obtain ⟨q1, eq1, hf⟩ := bd_e hf
  refine zki hS (zrV (As := [.int (110 : Int32), .int (111 : Int32), .int (116 : Int32), .int (0 : Int32), .int (0 : Int32), .int (0 : Int32), .int (0 : Int32), .int (0 : Int32)]) (rest := []) okM hx hb hml hown hts hk hP hS (t_X8_isWord l v N (110 : Int32) (111 : Int32) (116 : Int32) (0 : Int32) (0 : Int32) (0 : Int32) (0 : Int32) (0 : Int32) g _ eq1) vk_X8_isWord ml_X8_208 rfl rfl (rmG_lo (Nat.le_of_ble_eq_true rfl) (Nat.le_of_ble_eq_true rfl)) (va_recv (q := (RX8, TX8, 55)) hk.1 hP (q0 := 0) (ci := 7) rfl rfl) rfl hl.1 rfl (Nat.le_of_ble_eq_true rfl) dX8_not_12) (fun H locs hP hS => ?_)
  refine lv_if_eq (tgt := 52) hx hb dX8_not_15 (by decide) (fun c2 => ?_) (fun c2 => ?_)
  · have hf := ite_t c2 hf
    refine lv_aload_n hx hb dX8_not_52 rfl (lv_at hl 0 rfl) ?_
    obtain ⟨q3, eq3, hf⟩ := bd_e hf
    refine zki hS (zrV (As := []) (rest := []) okM hx hb hml hown hts hk hP hS (hr3 q1.2 _ eq3) vk_X8_added ml_X8_255 rfl rfl (rmG_go (by decide)) (va_recv (q := (RX8, TX8, 55)) hk.1 hP (q0 := 0) (ci := 7) rfl rfl) rfl hl.1 rfl (Nat.le_of_ble_eq_true rfl) dX8_not_53) (fun H locs hP hS => ?_)
    refine lv_istore_n (lv' := [(1, .int q3.1), (0, .ref (zA v 0))]) hx hb dX8_not_56 rfl hl (by decide) rfl (fun ls hl => ?_)
    refine lv_aload_n hx hb dX8_not_57 rfl (lv_at hl 1 rfl) ?_
    refine lv_bipush (v := 60) hx hb dX8_not_58 kB_60 ?_
    obtain ⟨q4, eq4, hf⟩ := bd_e hf
    refine zki hS (zrV (As := [.int (60 : Int32)]) (rest := []) okM hx hb hml hown hts hk hP hS (t_X8_isSign l v N (60 : Int32) q3.2 _ eq4) vk_X8_isSign ml_X8_230 rfl rfl (rmG_lo (Nat.le_of_ble_eq_true rfl) (Nat.le_of_ble_eq_true rfl)) (va_recv (q := (RX8, TX8, 55)) hk.1 hP (q0 := 0) (ci := 7) rfl rfl) rfl hl.1 rfl (Nat.le_of_ble_eq_true rfl) dX8_not_60) (fun H locs hP hS => ?_)
    refine lv_if_ne (tgt := 77) hx hb dX8_not_63 (by decide) (fun c5 => ?_) (fun c5 => ?_)
    · have hf := ite_f c5 hf
      exact wb77 q3.1 q4.2 hf _ _ _ hP hS (lv_sub hl [1, 0] rfl)
    · have hf := ite_t c5 hf
      refine lv_aload_n hx hb dX8_not_66 rfl (lv_at hl 1 rfl) ?_
      refine lv_bipush (v := 61) hx hb dX8_not_67 kB_61 ?_
      obtain ⟨q12, eq12, hf⟩ := bd_e hf
      refine zki hS (zrV (As := [.int (61 : Int32)]) (rest := []) okM hx hb hml hown hts hk hP hS (t_X8_isSign l v N (61 : Int32) q4.2 _ eq12) vk_X8_isSign ml_X8_230 rfl rfl (rmG_lo (Nat.le_of_ble_eq_true rfl) (Nat.le_of_ble_eq_true rfl)) (va_recv (q := (RX8, TX8, 55)) hk.1 hP (q0 := 0) (ci := 7) rfl rfl) rfl hl.1 rfl (Nat.le_of_ble_eq_true rfl) dX8_not_69) (fun H locs hP hS => ?_)
      refine lv_if_ne (tgt := 77) hx hb dX8_not_72 (by decide) (fun c13 => ?_) (fun c13 => ?_)
      · have hf := ite_f c13 hf
        exact wb77 q3.1 q12.2 hf _ _ _ hP hS (lv_sub hl [1, 0] rfl)
      · have hf := ite_t c13 hf
        refine lv_iload_n hx hb dX8_not_75 rfl (lv_at hl 0 rfl) ?_
        exact hret _ _ _ _ _ _ (Or.inl rfl) (Option.some.inj hf) hP hS dX8_not_76
  · have hf := ite_f c2 hf
    refine lv_aload_n hx hb dX8_not_18 rfl (lv_at hl 0 rfl) ?_
    obtain ⟨q14, eq14, hf⟩ := bd_e hf
    refine zki hS (zrV (As := []) (rest := []) okM hx hb hml hown hts hk hP hS (t_X8_opens l v N q1.2 _ eq14) vk_X8_opens ml_X8_233 rfl rfl (rmG_lo (Nat.le_of_ble_eq_true rfl) (Nat.le_of_ble_eq_true rfl)) (va_recv (q := (RX8, TX8, 55)) hk.1 hP (q0 := 0) (ci := 7) rfl rfl) rfl hl.1 rfl (Nat.le_of_ble_eq_true rfl) dX8_not_19) (fun H locs hP hS => ?_)
    refine lv_if_ne (tgt := 27) hx hb dX8_not_22 (by decide) (fun c15 => ?_) (fun c15 => ?_)
    · have hf := ite_f c15 hf
      refine lv_aload_n hx hb dX8_not_27 rfl (lv_at hl 0 rfl) ?_
      obtain ⟨q16, eq16, hf⟩ := bd_e hf
      refine zki hS (zrV (As := []) (rest := []) okM hx hb hml hown hts hk hP hS (hr2 q14.2 _ eq16) vk_X8_not ml_X8_252 rfl rfl (rmG_go (by decide)) (va_recv (q := (RX8, TX8, 55)) hk.1 hP (q0 := 0) (ci := 7) rfl rfl) rfl hl.1 rfl (Nat.le_of_ble_eq_true rfl) dX8_not_28) (fun H locs hP hS => ?_)
      refine lv_istore_n (lv' := [(1, .int q16.1), (0, .ref (zA v 0))]) hx hb dX8_not_31 rfl hl (by decide) rfl (fun ls hl => ?_)
      refine lv_aload_n hx hb dX8_not_32 rfl (lv_at hl 1 rfl) ?_
      refine lv_dup hx hb dX8_not_33 rfl ?_
      refine va_get (D := zD v) (ci := 7) (v := .int (q16.2.1 0 28)) (C := RX8) (T := TX8) (N := 55) hx hb hts iX8 hown hk.1 hP 0 rfl rfl 28 (by decide) (hts _ fl_X8_199) (fun _ h9 => h9) rfl dX8_not_34 ?_
      refine lv_iconst (v := 1) hx hb dX8_not_37 kI_1 ?_
      refine lv_isub hx hb dX8_not_38 ?_
      refine va_put (D := zD v) (ci := 7) (v := .int ((q16.2.1 0 28) - (1 : Int32))) (ty := .int) (C := RX8) (T := TX8) (N := 55) hx hb hts iX8 tyX8 tyX8_ok nmX8 hown hk.1 hP (zw_D okM hk _) hS 0 rfl rfl 28 (by decide) (hts _ fl_X8_199) (fun _ h9 => h9) rfl pd_I rfl rfl (Nat.le_of_ble_eq_true rfl) dX8_not_39 (fun H locs hP1 _ hS => ?_)
      have hP : va_P (zD v) vwCl (pM.1 v (up q16.2.1 0 (upd (q16.2.1 0) 28 ((q16.2.1 0 28) - (1 : Int32))), q16.2.2)) H := hP1
      obtain ⟨g17, eg17, hf⟩ := lt_e hf
      rw [← eg17] at hP
      refine lv_iload_n hx hb dX8_not_42 rfl (lv_at hl 0 rfl) ?_
      refine lv_if_ne (tgt := 50) hx hb dX8_not_43 (by decide) (fun c18 => ?_) (fun c18 => ?_)
      · have hf := ite_f c18 hf
        refine lv_iconst (v := 0) hx hb dX8_not_50 kI_0 ?_
        exact hret _ _ _ _ _ _ (Or.inl rfl) (Option.some.inj hf) hP hS dX8_not_51
      · have hf := ite_t c18 hf
        refine lv_iconst (v := 1) hx hb dX8_not_46 kI_1 ?_
        refine lv_goto (tgt := 51) hx hb dX8_not_47 (by decide) ?_
        exact hret _ _ _ _ _ _ (Or.inl rfl) (Option.some.inj hf) hP hS dX8_not_51
    · have hf := ite_t c15 hf
      refine lv_iconst (v := 0) hx hb dX8_not_25 kI_0 ?_
      exact hret _ _ _ _ _ _ (Or.inl rfl) (Option.some.inj hf) hP hS dX8_not_26
set_option maxRecDepth 100000 in
theorem t_X8_added (l : Launch) (v : Ev) (N : Nat) (rec : Nat → Int32 → Int32 → Int32 → SM → Option (Int32 × SM)) (d : Nat) (hr0 : ∀ (g : SM) (res : Int32 × SM), rec 0 0 0 0 g = some res → Ci l yX8_either cX8_either 3 .int (rmG 8 800 60 d) pM v [.ref (zA v 0)] g res) (hr1 : ∀ (g : SM) (res : Int32 × SM), rec 1 0 0 0 g = some res → Ci l yX8_both cX8_both 3 .int (rmG 8 800 60 d) pM v [.ref (zA v 0)] g res) (hr2 : ∀ (g : SM) (res : Int32 × SM), rec 2 0 0 0 g = some res → Ci l yX8_not cX8_not 4 .int (rmG 8 800 60 d) pM v [.ref (zA v 0)] g res) (hr3 : ∀ (g : SM) (res : Int32 × SM), rec 3 0 0 0 g = some res → Ci l yX8_added cX8_added 4 .int (rmG 8 800 60 d) pM v [.ref (zA v 0)] g res) (hr4 : ∀ (g : SM) (res : Int32 × SM), rec 4 0 0 0 g = some res → Ci l yX8_term cX8_term 2 .int (rmG 8 800 60 d) pM v [.ref (zA v 0)] g res) (hr5 : ∀ (g : SM) (res : Int32 × SM), rec 5 0 0 0 g = some res → Ci l yX8_atom cX8_atom 2 .int (rmG 8 800 60 d) pM v [.ref (zA v 0)] g res) (g : SM) (res : Int32 × SM) (hf : x_X8_added N rec g = some res) : Ci l yX8_added cX8_added 4 .int (rmG 8 800 60 (d + 1)) pM v [.ref (zA v 0)] g res := by
  refine ze_i (by decide +kernel) (Nat.le_of_ble_eq_true rfl) ?_
  intro p e s m args below meth c Q ls hcx hret hP hl
  obtain ⟨hx, hb, hml, hown, hts, hk⟩ := hcx
  have hown : s.vm.findClass RX8 = some m.cls := hown
  have hS : va_S (An nM v) s.heap s.heap [] := va_S.rf
  have hl : lv_has ls 4 [(0, .ref (zA v 0))] := hl
  have wb62 : ∀ (h5 : Int32 × SM → Option (Int32 × SM)) (hh5 : ∀ x : Int32 × SM, h5 x = some res → ∀ (H : Heap) (locs : List Loc) (ls : Array Slot), va_P (zD v) vwCl (pM.1 v x.2) H → va_S (An nM v) s.heap H locs → lv_has ls 4 [(0, .ref (zA v 0)), (1, .int x.1)] → W p l e (rmG 8 800 60 (d + 1)) s m args below meth c H locs 0 0 Q (F0 m 5 ls [])) (t0 : Int32) (g : SM) (hf : x_X8_added_b62 N rec h5 t0 g = some res) (H : Heap) (locs : List Loc) (ls : Array Slot) (hP : va_P (zD v) vwCl (pM.1 v g) H) (hS : va_S (An nM v) s.heap H locs) (hl : lv_has ls 4 [(0, .ref (zA v 0))]), W p l e (rmG 8 800 60 (d + 1)) s m args below meth c H locs 0 0 Q (F0 m 62 ls [.int t0]) := by
    intro h5 hh5 t0 g hf H locs ls hP hS hl
    unfold x_X8_added_b62 at hf
    refine lv_istore_n (lv' := [(1, .int t0), (0, .ref (zA v 0))]) hx hb dX8_added_62 rfl hl (by decide) rfl (fun ls hl => ?_)
    refine lv_goto (tgt := 5) hx hb dX8_added_63 (by decide) ?_
    exact hh5 (t0, g) hf _ _ _ hP hS (lv_sub hl [1, 0] rfl)
  have wb39 : ∀ (h5 : Int32 × SM → Option (Int32 × SM)) (hh5 : ∀ x : Int32 × SM, h5 x = some res → ∀ (H : Heap) (locs : List Loc) (ls : Array Slot), va_P (zD v) vwCl (pM.1 v x.2) H → va_S (An nM v) s.heap H locs → lv_has ls 4 [(0, .ref (zA v 0)), (1, .int x.1)] → W p l e (rmG 8 800 60 (d + 1)) s m args below meth c H locs 0 0 Q (F0 m 5 ls [])) (y1 : Int32) (t0 : Int32) (g : SM) (hf : x_X8_added_b39 N rec h5 y1 t0 g = some res) (H : Heap) (locs : List Loc) (ls : Array Slot) (hP : va_P (zD v) vwCl (pM.1 v g) H) (hS : va_S (An nM v) s.heap H locs) (hl : lv_has ls 4 [(0, .ref (zA v 0)), (1, .int y1)]), W p l e (rmG 8 800 60 (d + 1)) s m args below meth c H locs 0 0 Q (F0 m 39 ls [.int t0]) := by
    intro h5 hh5 y1 t0 g hf H locs ls hP hS hl
    unfold x_X8_added_b39 at hf
    refine lv_istore_n (lv' := [(2, .int t0), (0, .ref (zA v 0)), (1, .int y1)]) hx hb dX8_added_39 rfl hl (by decide) rfl (fun ls hl => ?_)
    refine lv_aload_n hx hb dX8_added_40 rfl (lv_at hl 1 rfl) ?_
    obtain ⟨q5, eq5, hf⟩ := bd_e hf
    refine zkv hS (zrV (As := []) (rest := []) okM hx hb hml hown hts hk hP hS (t_X8_next l v N g _ eq5) vk_X8_next ml_X8_205 rfl rfl (rmG_lo (Nat.le_of_ble_eq_true rfl) (Nat.le_of_ble_eq_true rfl)) (va_recv (q := (RX8, TX8, 55)) hk.1 hP (q0 := 0) (ci := 7) rfl rfl) rfl hl.1 rfl (Nat.le_of_ble_eq_true rfl) dX8_added_41) (fun H locs hP hS => ?_)
    refine lv_aload_n hx hb dX8_added_44 rfl (lv_at hl 1 rfl) ?_
    obtain ⟨q6, eq6, hf⟩ := bd_e hf
    refine zki hS (zrV (As := []) (rest := []) okM hx hb hml hown hts hk hP hS (hr4 q5 _ eq6) vk_X8_term ml_X8_247 rfl rfl (rmG_go (by decide)) (va_recv (q := (RX8, TX8, 55)) hk.1 hP (q0 := 0) (ci := 7) rfl rfl) rfl hl.1 rfl (Nat.le_of_ble_eq_true rfl) dX8_added_45) (fun H locs hP hS => ?_)
    refine lv_istore_n (lv' := [(3, .int q6.1), (2, .int t0), (0, .ref (zA v 0)), (1, .int y1)]) hx hb dX8_added_48 rfl hl (by decide) rfl (fun ls hl => ?_)
    refine lv_iload_n hx hb dX8_added_49 rfl (lv_at hl 1 rfl) ?_
    refine lv_if_eq (tgt := 59) hx hb dX8_added_50 (by decide) (fun c7 => ?_) (fun c7 => ?_)
    · have hf := ite_t c7 hf
      refine lv_iload_n hx hb dX8_added_59 rfl (lv_at hl 3 rfl) ?_
      refine lv_iload_n hx hb dX8_added_60 rfl (lv_at hl 0 rfl) ?_
      refine lv_isub hx hb dX8_added_61 ?_
      exact wb62 h5 hh5 (y1 - q6.1) q6.2 hf _ _ _ hP hS (lv_sub hl [2] rfl)
    · have hf := ite_f c7 hf
      refine lv_iload_n hx hb dX8_added_53 rfl (lv_at hl 3 rfl) ?_
      refine lv_iload_n hx hb dX8_added_54 rfl (lv_at hl 0 rfl) ?_
      refine lv_iadd hx hb dX8_added_55 ?_
      refine lv_goto (tgt := 62) hx hb dX8_added_56 (by decide) ?_
      exact wb62 h5 hh5 (y1 + q6.1) q6.2 hf _ _ _ hP hS (lv_sub hl [2] rfl)
  have wb23 : ∀ (h5 : Int32 × SM → Option (Int32 × SM)) (hh5 : ∀ x : Int32 × SM, h5 x = some res → ∀ (H : Heap) (locs : List Loc) (ls : Array Slot), va_P (zD v) vwCl (pM.1 v x.2) H → va_S (An nM v) s.heap H locs → lv_has ls 4 [(0, .ref (zA v 0)), (1, .int x.1)] → W p l e (rmG 8 800 60 (d + 1)) s m args below meth c H locs 0 0 Q (F0 m 5 ls [])) (y1 : Int32) (g : SM) (hf : x_X8_added_b23 N rec h5 y1 g = some res) (H : Heap) (locs : List Loc) (ls : Array Slot) (hP : va_P (zD v) vwCl (pM.1 v g) H) (hS : va_S (An nM v) s.heap H locs) (hl : lv_has ls 4 [(0, .ref (zA v 0)), (1, .int y1)]), W p l e (rmG 8 800 60 (d + 1)) s m args below meth c H locs 0 0 Q (F0 m 23 ls []) := by
    intro h5 hh5 y1 g hf H locs ls hP hS hl
    unfold x_X8_added_b23 at hf
    refine lv_aload_n hx hb dX8_added_23 rfl (lv_at hl 0 rfl) ?_
    refine va_get (D := zD v) (ci := 7) (v := .long g.2) (C := RX8) (T := TX8) (N := 55) hx hb hts iX8 hown hk.1 hP 0 rfl rfl 27 (by decide) (hts _ fl_X8_182) (fun _ h9 => h9) rfl dX8_added_24 ?_
    refine lv_ldc2 (v := 43) hx hb hown (hts _ kc_X8_250) dX8_added_27 ?_
    refine W.lcmp hx hb dX8_added_30 ?_
    refine lv_if_ne (tgt := 38) hx hb dX8_added_31 (by decide) (fun c4 => ?_) (fun c4 => ?_)
    · have hf := ite_f c4 hf
      refine lv_iconst (v := 0) hx hb dX8_added_38 kI_0 ?_
      exact wb39 h5 hh5 y1 (0 : Int32) g hf _ _ _ hP hS (lv_sub hl [0, 1] rfl)
    · have hf := ite_t c4 hf
      refine lv_iconst (v := 1) hx hb dX8_added_34 kI_1 ?_
      refine lv_goto (tgt := 39) hx hb dX8_added_35 (by decide) ?_
      exact wb39 h5 hh5 y1 (1 : Int32) g hf _ _ _ hP hS (lv_sub hl [0, 1] rfl)
  have wL5 : ∀ (n : Nat) (x : Int32 × SM), lp (x_X8_added_B5 N rec) n x = some res → ∀ (H : Heap) (locs : List Loc) (ls : Array Slot), va_P (zD v) vwCl (pM.1 v x.2) H → va_S (An nM v) s.heap H locs → lv_has ls 4 [(0, .ref (zA v 0)), (1, .int x.1)] → W p l e (rmG 8 800 60 (d + 1)) s m args below meth c H locs 0 0 Q (F0 m 5 ls []) := by
    refine lp_w (P := fun x : Int32 × SM => ∀ (H : Heap) (locs : List Loc) (ls : Array Slot), va_P (zD v) vwCl (pM.1 v x.2) H → va_S (An nM v) s.heap H locs → lv_has ls 4 [(0, .ref (zA v 0)), (1, .int x.1)] → W p l e (rmG 8 800 60 (d + 1)) s m args below meth c H locs 0 0 Q (F0 m 5 ls [])) ?_
    intro h5 hh5 x hf H locs ls hP hS hl
    unfold x_X8_added_B5 at hf
    refine lv_aload_n hx hb dX8_added_5 rfl (lv_at hl 0 rfl) ?_
    refine lv_bipush (v := 43) hx hb dX8_added_6 kB_43 ?_
    obtain ⟨q2, eq2, hf⟩ := bd_e hf
    refine zki hS (zrV (As := [.int (43 : Int32)]) (rest := []) okM hx hb hml hown hts hk hP hS (t_X8_isSign l v N (43 : Int32) x.2 _ eq2) vk_X8_isSign ml_X8_230 rfl rfl (rmG_lo (Nat.le_of_ble_eq_true rfl) (Nat.le_of_ble_eq_true rfl)) (va_recv (q := (RX8, TX8, 55)) hk.1 hP (q0 := 0) (ci := 7) rfl rfl) rfl hl.1 rfl (Nat.le_of_ble_eq_true rfl) dX8_added_8) (fun H locs hP hS => ?_)
    refine lv_if_ne (tgt := 23) hx hb dX8_added_11 (by decide) (fun c3 => ?_) (fun c3 => ?_)
    · have hf := ite_f c3 hf
      exact wb23 h5 hh5 x.1 q2.2 hf _ _ _ hP hS (lv_sub hl [0, 1] rfl)
    · have hf := ite_t c3 hf
      refine lv_aload_n hx hb dX8_added_14 rfl (lv_at hl 0 rfl) ?_
      refine lv_bipush (v := 45) hx hb dX8_added_15 kB_45 ?_
      obtain ⟨q8, eq8, hf⟩ := bd_e hf
      refine zki hS (zrV (As := [.int (45 : Int32)]) (rest := []) okM hx hb hml hown hts hk hP hS (t_X8_isSign l v N (45 : Int32) q2.2 _ eq8) vk_X8_isSign ml_X8_230 rfl rfl (rmG_lo (Nat.le_of_ble_eq_true rfl) (Nat.le_of_ble_eq_true rfl)) (va_recv (q := (RX8, TX8, 55)) hk.1 hP (q0 := 0) (ci := 7) rfl rfl) rfl hl.1 rfl (Nat.le_of_ble_eq_true rfl) dX8_added_17) (fun H locs hP hS => ?_)
      refine lv_if_eq (tgt := 66) hx hb dX8_added_20 (by decide) (fun c9 => ?_) (fun c9 => ?_)
      · have hf := ite_t c9 hf
        refine lv_iload_n hx hb dX8_added_66 rfl (lv_at hl 1 rfl) ?_
        exact hret _ _ _ _ _ _ (Or.inl rfl) (Option.some.inj hf) hP hS dX8_added_67
      · have hf := ite_f c9 hf
        exact wb23 h5 hh5 x.1 q8.2 hf _ _ _ hP hS (lv_sub hl [0, 1] rfl)
  unfold x_X8_added at hf
  refine lv_aload_n hx hb dX8_added_0 rfl (lv_at hl 0 rfl) ?_
  obtain ⟨q1, eq1, hf⟩ := bd_e hf
  refine zki hS (zrV (As := []) (rest := []) okM hx hb hml hown hts hk hP hS (hr4 g _ eq1) vk_X8_term ml_X8_247 rfl rfl (rmG_go (by decide)) (va_recv (q := (RX8, TX8, 55)) hk.1 hP (q0 := 0) (ci := 7) rfl rfl) rfl hl.1 rfl (Nat.le_of_ble_eq_true rfl) dX8_added_1) (fun H locs hP hS => ?_)
  refine lv_istore_n (lv' := [(1, .int q1.1), (0, .ref (zA v 0))]) hx hb dX8_added_4 rfl hl (by decide) rfl (fun ls hl => ?_)
  exact wL5 N (q1.1, q1.2) hf _ _ _ hP hS (lv_sub hl [1, 0] rfl)
set_option maxRecDepth 100000 in
theorem t_X8_term (l : Launch) (v : Ev) (N : Nat) (rec : Nat → Int32 → Int32 → Int32 → SM → Option (Int32 × SM)) (d : Nat) (hr0 : ∀ (g : SM) (res : Int32 × SM), rec 0 0 0 0 g = some res → Ci l yX8_either cX8_either 3 .int (rmG 8 800 60 d) pM v [.ref (zA v 0)] g res) (hr1 : ∀ (g : SM) (res : Int32 × SM), rec 1 0 0 0 g = some res → Ci l yX8_both cX8_both 3 .int (rmG 8 800 60 d) pM v [.ref (zA v 0)] g res) (hr2 : ∀ (g : SM) (res : Int32 × SM), rec 2 0 0 0 g = some res → Ci l yX8_not cX8_not 4 .int (rmG 8 800 60 d) pM v [.ref (zA v 0)] g res) (hr3 : ∀ (g : SM) (res : Int32 × SM), rec 3 0 0 0 g = some res → Ci l yX8_added cX8_added 4 .int (rmG 8 800 60 d) pM v [.ref (zA v 0)] g res) (hr4 : ∀ (g : SM) (res : Int32 × SM), rec 4 0 0 0 g = some res → Ci l yX8_term cX8_term 2 .int (rmG 8 800 60 d) pM v [.ref (zA v 0)] g res) (hr5 : ∀ (g : SM) (res : Int32 × SM), rec 5 0 0 0 g = some res → Ci l yX8_atom cX8_atom 2 .int (rmG 8 800 60 d) pM v [.ref (zA v 0)] g res) (g : SM) (res : Int32 × SM) (hf : x_X8_term N rec g = some res) : Ci l yX8_term cX8_term 2 .int (rmG 8 800 60 (d + 1)) pM v [.ref (zA v 0)] g res := by
  refine ze_i (by decide +kernel) (Nat.le_of_ble_eq_true rfl) ?_
  intro p e s m args below meth c Q ls hcx hret hP hl
  obtain ⟨hx, hb, hml, hown, hts, hk⟩ := hcx
  have hown : s.vm.findClass RX8 = some m.cls := hown
  have hS : va_S (An nM v) s.heap s.heap [] := va_S.rf
  have hl : lv_has ls 2 [(0, .ref (zA v 0))] := hl
  have wL5 : ∀ (n : Nat) (x : Int32 × SM), lp (x_X8_term_B5 N rec) n x = some res → ∀ (H : Heap) (locs : List Loc) (ls : Array Slot), va_P (zD v) vwCl (pM.1 v x.2) H → va_S (An nM v) s.heap H locs → lv_has ls 2 [(0, .ref (zA v 0)), (1, .int x.1)] → W p l e (rmG 8 800 60 (d + 1)) s m args below meth c H locs 0 0 Q (F0 m 5 ls []) := by
    refine lp_w (P := fun x : Int32 × SM => ∀ (H : Heap) (locs : List Loc) (ls : Array Slot), va_P (zD v) vwCl (pM.1 v x.2) H → va_S (An nM v) s.heap H locs → lv_has ls 2 [(0, .ref (zA v 0)), (1, .int x.1)] → W p l e (rmG 8 800 60 (d + 1)) s m args below meth c H locs 0 0 Q (F0 m 5 ls [])) ?_
    intro h5 hh5 x hf H locs ls hP hS hl
    unfold x_X8_term_B5 at hf
    refine lv_aload_n hx hb dX8_term_5 rfl (lv_at hl 0 rfl) ?_
    refine lv_bipush (v := 42) hx hb dX8_term_6 kB_42 ?_
    obtain ⟨q2, eq2, hf⟩ := bd_e hf
    refine zki hS (zrV (As := [.int (42 : Int32)]) (rest := []) okM hx hb hml hown hts hk hP hS (t_X8_isSign l v N (42 : Int32) x.2 _ eq2) vk_X8_isSign ml_X8_230 rfl rfl (rmG_lo (Nat.le_of_ble_eq_true rfl) (Nat.le_of_ble_eq_true rfl)) (va_recv (q := (RX8, TX8, 55)) hk.1 hP (q0 := 0) (ci := 7) rfl rfl) rfl hl.1 rfl (Nat.le_of_ble_eq_true rfl) dX8_term_8) (fun H locs hP hS => ?_)
    refine lv_if_eq (tgt := 28) hx hb dX8_term_11 (by decide) (fun c3 => ?_) (fun c3 => ?_)
    · have hf := ite_t c3 hf
      refine lv_iload_n hx hb dX8_term_28 rfl (lv_at hl 1 rfl) ?_
      exact hret _ _ _ _ _ _ (Or.inl rfl) (Option.some.inj hf) hP hS dX8_term_29
    · have hf := ite_f c3 hf
      refine lv_aload_n hx hb dX8_term_14 rfl (lv_at hl 0 rfl) ?_
      obtain ⟨q4, eq4, hf⟩ := bd_e hf
      refine zkv hS (zrV (As := []) (rest := []) okM hx hb hml hown hts hk hP hS (t_X8_next l v N q2.2 _ eq4) vk_X8_next ml_X8_205 rfl rfl (rmG_lo (Nat.le_of_ble_eq_true rfl) (Nat.le_of_ble_eq_true rfl)) (va_recv (q := (RX8, TX8, 55)) hk.1 hP (q0 := 0) (ci := 7) rfl rfl) rfl hl.1 rfl (Nat.le_of_ble_eq_true rfl) dX8_term_15) (fun H locs hP hS => ?_)
      refine lv_iload_n hx hb dX8_term_18 rfl (lv_at hl 1 rfl) ?_
      refine lv_aload_n hx hb dX8_term_19 rfl (lv_at hl 0 rfl) ?_
      obtain ⟨q5, eq5, hf⟩ := bd_e hf
      refine zki hS (zrV (As := []) (rest := [.int x.1]) okM hx hb hml hown hts hk hP hS (hr5 q4 _ eq5) vk_X8_atom ml_X8_237 rfl rfl (rmG_go (by decide)) (va_recv (q := (RX8, TX8, 55)) hk.1 hP (q0 := 0) (ci := 7) rfl rfl) rfl hl.1 rfl (Nat.le_of_ble_eq_true rfl) dX8_term_20) (fun H locs hP hS => ?_)
      refine lv_imul hx hb dX8_term_23 ?_
      obtain ⟨x6, ex6, hf⟩ := lt_e hf
      refine lv_nm ex6 ?_
      refine lv_istore_n (lv' := [(1, .int x6), (0, .ref (zA v 0))]) hx hb dX8_term_24 rfl hl (by decide) rfl (fun ls hl => ?_)
      refine lv_goto (tgt := 5) hx hb dX8_term_25 (by decide) ?_
      exact hh5 (x6, q5.2) hf _ _ _ hP hS (lv_sub hl [1, 0] rfl)
  unfold x_X8_term at hf
  refine lv_aload_n hx hb dX8_term_0 rfl (lv_at hl 0 rfl) ?_
  obtain ⟨q1, eq1, hf⟩ := bd_e hf
  refine zki hS (zrV (As := []) (rest := []) okM hx hb hml hown hts hk hP hS (hr5 g _ eq1) vk_X8_atom ml_X8_237 rfl rfl (rmG_go (by decide)) (va_recv (q := (RX8, TX8, 55)) hk.1 hP (q0 := 0) (ci := 7) rfl rfl) rfl hl.1 rfl (Nat.le_of_ble_eq_true rfl) dX8_term_1) (fun H locs hP hS => ?_)
  refine lv_istore_n (lv' := [(1, .int q1.1), (0, .ref (zA v 0))]) hx hb dX8_term_4 rfl hl (by decide) rfl (fun ls hl => ?_)
  exact wL5 N (q1.1, q1.2) hf _ _ _ hP hS (lv_sub hl [1, 0] rfl)
set_option maxRecDepth 100000 in
theorem t_X8_atom (l : Launch) (v : Ev) (N : Nat) (rec : Nat → Int32 → Int32 → Int32 → SM → Option (Int32 × SM)) (d : Nat) (hr0 : ∀ (g : SM) (res : Int32 × SM), rec 0 0 0 0 g = some res → Ci l yX8_either cX8_either 3 .int (rmG 8 800 60 d) pM v [.ref (zA v 0)] g res) (hr1 : ∀ (g : SM) (res : Int32 × SM), rec 1 0 0 0 g = some res → Ci l yX8_both cX8_both 3 .int (rmG 8 800 60 d) pM v [.ref (zA v 0)] g res) (hr2 : ∀ (g : SM) (res : Int32 × SM), rec 2 0 0 0 g = some res → Ci l yX8_not cX8_not 4 .int (rmG 8 800 60 d) pM v [.ref (zA v 0)] g res) (hr3 : ∀ (g : SM) (res : Int32 × SM), rec 3 0 0 0 g = some res → Ci l yX8_added cX8_added 4 .int (rmG 8 800 60 d) pM v [.ref (zA v 0)] g res) (hr4 : ∀ (g : SM) (res : Int32 × SM), rec 4 0 0 0 g = some res → Ci l yX8_term cX8_term 2 .int (rmG 8 800 60 d) pM v [.ref (zA v 0)] g res) (hr5 : ∀ (g : SM) (res : Int32 × SM), rec 5 0 0 0 g = some res → Ci l yX8_atom cX8_atom 2 .int (rmG 8 800 60 d) pM v [.ref (zA v 0)] g res) (g : SM) (res : Int32 × SM) (hf : x_X8_atom N rec g = some res) : Ci l yX8_atom cX8_atom 2 .int (rmG 8 800 60 (d + 1)) pM v [.ref (zA v 0)] g res := by
  refine ze_i (by decide +kernel) (Nat.le_of_ble_eq_true rfl) ?_
  intro p e s m args below meth c Q ls hcx hret hP hl
  obtain ⟨hx, hb, hml, hown, hts, hk⟩ := hcx
  have hown : s.vm.findClass RX8 = some m.cls := hown
  have hS : va_S (An nM v) s.heap s.heap [] := va_S.rf
  have hl : lv_has ls 2 [(0, .ref (zA v 0))] := hl
  have wb157 : ∀ (y1 : Int32) (g : SM) (hf : x_X8_atom_b157 N rec y1 g = some res) (H : Heap) (locs : List Loc) (ls : Array Slot) (hP : va_P (zD v) vwCl (pM.1 v g) H) (hS : va_S (An nM v) s.heap H locs) (hl : lv_has ls 2 [(0, .ref (zA v 0)), (1, .int y1)]), W p l e (rmG 8 800 60 (d + 1)) s m args below meth c H locs 0 0 Q (F0 m 157 ls []) := by
    intro y1 g hf H locs ls hP hS hl
    unfold x_X8_atom_b157 at hf
    refine lv_aload_n hx hb dX8_atom_157 rfl (lv_at hl 0 rfl) ?_
    obtain ⟨q7, eq7, hf⟩ := bd_e hf
    refine zkv hS (zrV (As := []) (rest := []) okM hx hb hml hown hts hk hP hS (t_X8_fail l v N g _ eq7) vk_X8_fail ml_X8_202 rfl rfl (rmG_lo (Nat.le_of_ble_eq_true rfl) (Nat.le_of_ble_eq_true rfl)) (va_recv (q := (RX8, TX8, 55)) hk.1 hP (q0 := 0) (ci := 7) rfl rfl) rfl hl.1 rfl (Nat.le_of_ble_eq_true rfl) dX8_atom_158) (fun H locs hP hS => ?_)
    refine lv_iload_n hx hb dX8_atom_161 rfl (lv_at hl 1 rfl) ?_
    exact hret _ _ _ _ _ _ (Or.inl rfl) (Option.some.inj hf) hP hS dX8_atom_162
  have wb123 : ∀ (y1 : Int32) (g : SM) (hf : x_X8_atom_b123 N rec y1 g = some res) (H : Heap) (locs : List Loc) (ls : Array Slot) (hP : va_P (zD v) vwCl (pM.1 v g) H) (hS : va_S (An nM v) s.heap H locs) (hl : lv_has ls 2 [(0, .ref (zA v 0)), (1, .int y1)]), W p l e (rmG 8 800 60 (d + 1)) s m args below meth c H locs 0 0 Q (F0 m 123 ls []) := by
    intro y1 g hf H locs ls hP hS hl
    unfold x_X8_atom_b123 at hf
    refine lv_aload_n hx hb dX8_atom_123 rfl (lv_at hl 0 rfl) ?_
    refine va_get (D := zD v) (ci := 7) (v := .int (g.1 0 29)) (C := RX8) (T := TX8) (N := 55) hx hb hts iX8 hown hk.1 hP 0 rfl rfl 29 (by decide) (hts _ fl_X8_188) (fun _ h9 => h9) rfl dX8_atom_124 ?_
    refine lv_if_ne (tgt := 157) hx hb dX8_atom_127 (by decide) (fun c6 => ?_) (fun c6 => ?_)
    · have hf := ite_f c6 hf
      exact wb157 y1 g hf _ _ _ hP hS (lv_sub hl [0, 1] rfl)
    · have hf := ite_t c6 hf
      refine lv_aload_n hx hb dX8_atom_130 rfl (lv_at hl 0 rfl) ?_
      refine va_get (D := zD v) (ci := 7) (v := .int (g.1 0 25)) (C := RX8) (T := TX8) (N := 55) hx hb hts iX8 hown hk.1 hP 0 rfl rfl 25 (by decide) (hts _ fl_X8_171) (fun _ h9 => h9) rfl dX8_atom_131 ?_
      refine lv_iconst (v := 1) hx hb dX8_atom_134 kI_1 ?_
      refine lv_icmp_ne (tgt := 157) hx hb dX8_atom_135 (by decide) (fun c8 => ?_) (fun c8 => ?_)
      · have hf := ite_f c8 hf
        exact wb157 y1 g hf _ _ _ hP hS (lv_sub hl [0, 1] rfl)
      · have hf := ite_t c8 hf
        refine lv_aload_n hx hb dX8_atom_138 rfl (lv_at hl 0 rfl) ?_
        obtain ⟨q9, eq9, hf⟩ := bd_e hf
        refine zki hS (zrV (As := []) (rest := []) okM hx hb hml hown hts hk hP hS (t_X8_name l v N g _ eq9) vk_X8_name ml_X8_244 rfl rfl (rmG_lo (Nat.le_of_ble_eq_true rfl) (Nat.le_of_ble_eq_true rfl)) (va_recv (q := (RX8, TX8, 55)) hk.1 hP (q0 := 0) (ci := 7) rfl rfl) rfl hl.1 rfl (Nat.le_of_ble_eq_true rfl) dX8_atom_139) (fun H locs hP hS => ?_)
        refine lv_istore_n (lv' := [(1, .int q9.1), (0, .ref (zA v 0))]) hx hb dX8_atom_142 rfl hl (by decide) rfl (fun ls hl => ?_)
        refine lv_aload_n hx hb dX8_atom_143 rfl (lv_at hl 1 rfl) ?_
        refine va_get (D := zD v) (ci := 7) (v := .int (q9.2.1 0 29)) (C := RX8) (T := TX8) (N := 55) hx hb hts iX8 hown hk.1 hP 0 rfl rfl 29 (by decide) (hts _ fl_X8_188) (fun _ h9 => h9) rfl dX8_atom_144 ?_
        refine lv_if_ne (tgt := 161) hx hb dX8_atom_147 (by decide) (fun c10 => ?_) (fun c10 => ?_)
        · have hf := ite_f c10 hf
          refine lv_iload_n hx hb dX8_atom_161 rfl (lv_at hl 0 rfl) ?_
          exact hret _ _ _ _ _ _ (Or.inl rfl) (Option.some.inj hf) hP hS dX8_atom_162
        · have hf := ite_t c10 hf
          refine lv_aload_n hx hb dX8_atom_150 rfl (lv_at hl 1 rfl) ?_
          obtain ⟨q11, eq11, hf⟩ := bd_e hf
          refine zkv hS (zrV (As := []) (rest := []) okM hx hb hml hown hts hk hP hS (t_X8_next l v N q9.2 _ eq11) vk_X8_next ml_X8_205 rfl rfl (rmG_lo (Nat.le_of_ble_eq_true rfl) (Nat.le_of_ble_eq_true rfl)) (va_recv (q := (RX8, TX8, 55)) hk.1 hP (q0 := 0) (ci := 7) rfl rfl) rfl hl.1 rfl (Nat.le_of_ble_eq_true rfl) dX8_atom_151) (fun H locs hP hS => ?_)
          refine lv_goto (tgt := 161) hx hb dX8_atom_154 (by decide) ?_
          refine lv_iload_n hx hb dX8_atom_161 rfl (lv_at hl 0 rfl) ?_
          exact hret _ _ _ _ _ _ (Or.inl rfl) (Option.some.inj hf) hP hS dX8_atom_162
  have wb71 : ∀ (y1 : Int32) (g : SM) (hf : x_X8_atom_b71 N rec y1 g = some res) (H : Heap) (locs : List Loc) (ls : Array Slot) (hP : va_P (zD v) vwCl (pM.1 v g) H) (hS : va_S (An nM v) s.heap H locs) (hl : lv_has ls 2 [(0, .ref (zA v 0)), (1, .int y1)]), W p l e (rmG 8 800 60 (d + 1)) s m args below meth c H locs 0 0 Q (F0 m 71 ls []) := by
    intro y1 g hf H locs ls hP hS hl
    unfold x_X8_atom_b71 at hf
    refine lv_aload_n hx hb dX8_atom_71 rfl (lv_at hl 0 rfl) ?_
    refine lv_dup hx hb dX8_atom_72 rfl ?_
    refine va_get (D := zD v) (ci := 7) (v := .int (g.1 0 28)) (C := RX8) (T := TX8) (N := 55) hx hb hts iX8 hown hk.1 hP 0 rfl rfl 28 (by decide) (hts _ fl_X8_199) (fun _ h9 => h9) rfl dX8_atom_73 ?_
    refine lv_iconst (v := 1) hx hb dX8_atom_76 kI_1 ?_
    refine lv_isub hx hb dX8_atom_77 ?_
    refine va_put (D := zD v) (ci := 7) (v := .int ((g.1 0 28) - (1 : Int32))) (ty := .int) (C := RX8) (T := TX8) (N := 55) hx hb hts iX8 tyX8 tyX8_ok nmX8 hown hk.1 hP (zw_D okM hk _) hS 0 rfl rfl 28 (by decide) (hts _ fl_X8_199) (fun _ h9 => h9) rfl pd_I rfl rfl (Nat.le_of_ble_eq_true rfl) dX8_atom_78 (fun H locs hP1 _ hS => ?_)
    have hP : va_P (zD v) vwCl (pM.1 v (up g.1 0 (upd (g.1 0) 28 ((g.1 0 28) - (1 : Int32))), g.2)) H := hP1
    obtain ⟨g20, eg20, hf⟩ := lt_e hf
    rw [← eg20] at hP
    refine lv_aload_n hx hb dX8_atom_81 rfl (lv_at hl 0 rfl) ?_
    refine va_get (D := zD v) (ci := 7) (v := .int (g20.1 0 29)) (C := RX8) (T := TX8) (N := 55) hx hb hts iX8 hown hk.1 hP 0 rfl rfl 29 (by decide) (hts _ fl_X8_188) (fun _ h9 => h9) rfl dX8_atom_82 ?_
    refine lv_if_ne (tgt := 161) hx hb dX8_atom_85 (by decide) (fun c21 => ?_) (fun c21 => ?_)
    · have hf := ite_f c21 hf
      refine lv_iload_n hx hb dX8_atom_161 rfl (lv_at hl 1 rfl) ?_
      exact hret _ _ _ _ _ _ (Or.inl rfl) (Option.some.inj hf) hP hS dX8_atom_162
    · have hf := ite_t c21 hf
      refine lv_aload_n hx hb dX8_atom_88 rfl (lv_at hl 0 rfl) ?_
      obtain ⟨q22, eq22, hf⟩ := bd_e hf
      refine zkv hS (zrV (As := []) (rest := []) okM hx hb hml hown hts hk hP hS (t_X8_next l v N g20 _ eq22) vk_X8_next ml_X8_205 rfl rfl (rmG_lo (Nat.le_of_ble_eq_true rfl) (Nat.le_of_ble_eq_true rfl)) (va_recv (q := (RX8, TX8, 55)) hk.1 hP (q0 := 0) (ci := 7) rfl rfl) rfl hl.1 rfl (Nat.le_of_ble_eq_true rfl) dX8_atom_89) (fun H locs hP hS => ?_)
      refine lv_goto (tgt := 161) hx hb dX8_atom_92 (by decide) ?_
      refine lv_iload_n hx hb dX8_atom_161 rfl (lv_at hl 1 rfl) ?_
      exact hret _ _ _ _ _ _ (Or.inl rfl) (Option.some.inj hf) hP hS dX8_atom_162
  unfold x_X8_atom at hf
  refine lv_iconst (v := 0) hx hb dX8_atom_0 kI_0 ?_
  refine lv_istore_n (lv' := [(1, .int (0 : Int32)), (0, .ref (zA v 0))]) hx hb dX8_atom_1 rfl hl (by decide) rfl (fun ls hl => ?_)
  refine lv_aload_n hx hb dX8_atom_2 rfl (lv_at hl 1 rfl) ?_
  refine lv_bipush (v := 45) hx hb dX8_atom_3 kB_45 ?_
  obtain ⟨q1, eq1, hf⟩ := bd_e hf
  refine zki hS (zrV (As := [.int (45 : Int32)]) (rest := []) okM hx hb hml hown hts hk hP hS (t_X8_isSign l v N (45 : Int32) g _ eq1) vk_X8_isSign ml_X8_230 rfl rfl (rmG_lo (Nat.le_of_ble_eq_true rfl) (Nat.le_of_ble_eq_true rfl)) (va_recv (q := (RX8, TX8, 55)) hk.1 hP (q0 := 0) (ci := 7) rfl rfl) rfl hl.1 rfl (Nat.le_of_ble_eq_true rfl) dX8_atom_5) (fun H locs hP hS => ?_)
  refine lv_if_eq (tgt := 37) hx hb dX8_atom_8 (by decide) (fun c2 => ?_) (fun c2 => ?_)
  · have hf := ite_t c2 hf
    refine lv_aload_n hx hb dX8_atom_37 rfl (lv_at hl 1 rfl) ?_
    refine lv_bipush (v := 40) hx hb dX8_atom_38 kB_40 ?_
    obtain ⟨q3, eq3, hf⟩ := bd_e hf
    refine zki hS (zrV (As := [.int (40 : Int32)]) (rest := []) okM hx hb hml hown hts hk hP hS (t_X8_isSign l v N (40 : Int32) q1.2 _ eq3) vk_X8_isSign ml_X8_230 rfl rfl (rmG_lo (Nat.le_of_ble_eq_true rfl) (Nat.le_of_ble_eq_true rfl)) (va_recv (q := (RX8, TX8, 55)) hk.1 hP (q0 := 0) (ci := 7) rfl rfl) rfl hl.1 rfl (Nat.le_of_ble_eq_true rfl) dX8_atom_40) (fun H locs hP hS => ?_)
    refine lv_if_eq (tgt := 95) hx hb dX8_atom_43 (by decide) (fun c4 => ?_) (fun c4 => ?_)
    · have hf := ite_t c4 hf
      refine lv_aload_n hx hb dX8_atom_95 rfl (lv_at hl 1 rfl) ?_
      refine va_get (D := zD v) (ci := 7) (v := .int (q3.2.1 0 29)) (C := RX8) (T := TX8) (N := 55) hx hb hts iX8 hown hk.1 hP 0 rfl rfl 29 (by decide) (hts _ fl_X8_188) (fun _ h9 => h9) rfl dX8_atom_96 ?_
      refine lv_if_ne (tgt := 123) hx hb dX8_atom_99 (by decide) (fun c5 => ?_) (fun c5 => ?_)
      · have hf := ite_f c5 hf
        exact wb123 (0 : Int32) q3.2 hf _ _ _ hP hS (lv_sub hl [1, 0] rfl)
      · have hf := ite_t c5 hf
        refine lv_aload_n hx hb dX8_atom_102 rfl (lv_at hl 1 rfl) ?_
        refine va_get (D := zD v) (ci := 7) (v := .int (q3.2.1 0 25)) (C := RX8) (T := TX8) (N := 55) hx hb hts iX8 hown hk.1 hP 0 rfl rfl 25 (by decide) (hts _ fl_X8_171) (fun _ h9 => h9) rfl dX8_atom_103 ?_
        refine lv_iconst (v := 2) hx hb dX8_atom_106 kI_2 ?_
        refine lv_icmp_ne (tgt := 123) hx hb dX8_atom_107 (by decide) (fun c12 => ?_) (fun c12 => ?_)
        · have hf := ite_f c12 hf
          exact wb123 (0 : Int32) q3.2 hf _ _ _ hP hS (lv_sub hl [1, 0] rfl)
        · have hf := ite_t c12 hf
          refine lv_aload_n hx hb dX8_atom_110 rfl (lv_at hl 1 rfl) ?_
          refine va_get (D := zD v) (ci := 7) (v := .long q3.2.2) (C := RX8) (T := TX8) (N := 55) hx hb hts iX8 hown hk.1 hP 0 rfl rfl 27 (by decide) (hts _ fl_X8_182) (fun _ h9 => h9) rfl dX8_atom_111 ?_
          refine lv_l2i hx hb dX8_atom_114 rfl ?_
          obtain ⟨x13, ex13, hf⟩ := lt_e hf
          refine lv_nm ex13 ?_
          refine lv_istore_n (lv' := [(1, .int x13), (0, .ref (zA v 0))]) hx hb dX8_atom_115 rfl hl (by decide) rfl (fun ls hl => ?_)
          refine lv_aload_n hx hb dX8_atom_116 rfl (lv_at hl 1 rfl) ?_
          obtain ⟨q14, eq14, hf⟩ := bd_e hf
          refine zkv hS (zrV (As := []) (rest := []) okM hx hb hml hown hts hk hP hS (t_X8_next l v N q3.2 _ eq14) vk_X8_next ml_X8_205 rfl rfl (rmG_lo (Nat.le_of_ble_eq_true rfl) (Nat.le_of_ble_eq_true rfl)) (va_recv (q := (RX8, TX8, 55)) hk.1 hP (q0 := 0) (ci := 7) rfl rfl) rfl hl.1 rfl (Nat.le_of_ble_eq_true rfl) dX8_atom_117) (fun H locs hP hS => ?_)
          refine lv_goto (tgt := 161) hx hb dX8_atom_120 (by decide) ?_
          refine lv_iload_n hx hb dX8_atom_161 rfl (lv_at hl 0 rfl) ?_
          exact hret _ _ _ _ _ _ (Or.inl rfl) (Option.some.inj hf) hP hS dX8_atom_162
    · have hf := ite_f c4 hf
      refine lv_aload_n hx hb dX8_atom_46 rfl (lv_at hl 1 rfl) ?_
      obtain ⟨q15, eq15, hf⟩ := bd_e hf
      refine zki hS (zrV (As := []) (rest := []) okM hx hb hml hown hts hk hP hS (t_X8_opens l v N q3.2 _ eq15) vk_X8_opens ml_X8_233 rfl rfl (rmG_lo (Nat.le_of_ble_eq_true rfl) (Nat.le_of_ble_eq_true rfl)) (va_recv (q := (RX8, TX8, 55)) hk.1 hP (q0 := 0) (ci := 7) rfl rfl) rfl hl.1 rfl (Nat.le_of_ble_eq_true rfl) dX8_atom_47) (fun H locs hP hS => ?_)
      refine lv_if_eq (tgt := 161) hx hb dX8_atom_50 (by decide) (fun c16 => ?_) (fun c16 => ?_)
      · have hf := ite_t c16 hf
        refine lv_iload_n hx hb dX8_atom_161 rfl (lv_at hl 0 rfl) ?_
        exact hret _ _ _ _ _ _ (Or.inl rfl) (Option.some.inj hf) hP hS dX8_atom_162
      · have hf := ite_f c16 hf
        refine lv_aload_n hx hb dX8_atom_53 rfl (lv_at hl 1 rfl) ?_
        obtain ⟨q17, eq17, hf⟩ := bd_e hf
        refine zki hS (zrV (As := []) (rest := []) okM hx hb hml hown hts hk hP hS (hr0 q15.2 _ eq17) vk_X8_either ml_X8_241 rfl rfl (rmG_go (by decide)) (va_recv (q := (RX8, TX8, 55)) hk.1 hP (q0 := 0) (ci := 7) rfl rfl) rfl hl.1 rfl (Nat.le_of_ble_eq_true rfl) dX8_atom_54) (fun H locs hP hS => ?_)
        refine lv_istore_n (lv' := [(1, .int q17.1), (0, .ref (zA v 0))]) hx hb dX8_atom_57 rfl hl (by decide) rfl (fun ls hl => ?_)
        refine lv_aload_n hx hb dX8_atom_58 rfl (lv_at hl 1 rfl) ?_
        refine lv_bipush (v := 41) hx hb dX8_atom_59 kB_41 ?_
        obtain ⟨q18, eq18, hf⟩ := bd_e hf
        refine zki hS (zrV (As := [.int (41 : Int32)]) (rest := []) okM hx hb hml hown hts hk hP hS (t_X8_isSign l v N (41 : Int32) q17.2 _ eq18) vk_X8_isSign ml_X8_230 rfl rfl (rmG_lo (Nat.le_of_ble_eq_true rfl) (Nat.le_of_ble_eq_true rfl)) (va_recv (q := (RX8, TX8, 55)) hk.1 hP (q0 := 0) (ci := 7) rfl rfl) rfl hl.1 rfl (Nat.le_of_ble_eq_true rfl) dX8_atom_61) (fun H locs hP hS => ?_)
        refine lv_if_ne (tgt := 71) hx hb dX8_atom_64 (by decide) (fun c19 => ?_) (fun c19 => ?_)
        · have hf := ite_f c19 hf
          exact wb71 q17.1 q18.2 hf _ _ _ hP hS (lv_sub hl [1, 0] rfl)
        · have hf := ite_t c19 hf
          refine lv_aload_n hx hb dX8_atom_67 rfl (lv_at hl 1 rfl) ?_
          obtain ⟨q23, eq23, hf⟩ := bd_e hf
          refine zkv hS (zrV (As := []) (rest := []) okM hx hb hml hown hts hk hP hS (t_X8_fail l v N q18.2 _ eq23) vk_X8_fail ml_X8_202 rfl rfl (rmG_lo (Nat.le_of_ble_eq_true rfl) (Nat.le_of_ble_eq_true rfl)) (va_recv (q := (RX8, TX8, 55)) hk.1 hP (q0 := 0) (ci := 7) rfl rfl) rfl hl.1 rfl (Nat.le_of_ble_eq_true rfl) dX8_atom_68) (fun H locs hP hS => ?_)
          exact wb71 q17.1 q23 hf _ _ _ hP hS (lv_sub hl [1, 0] rfl)
  · have hf := ite_f c2 hf
    refine lv_aload_n hx hb dX8_atom_11 rfl (lv_at hl 1 rfl) ?_
    obtain ⟨q24, eq24, hf⟩ := bd_e hf
    refine zki hS (zrV (As := []) (rest := []) okM hx hb hml hown hts hk hP hS (t_X8_opens l v N q1.2 _ eq24) vk_X8_opens ml_X8_233 rfl rfl (rmG_lo (Nat.le_of_ble_eq_true rfl) (Nat.le_of_ble_eq_true rfl)) (va_recv (q := (RX8, TX8, 55)) hk.1 hP (q0 := 0) (ci := 7) rfl rfl) rfl hl.1 rfl (Nat.le_of_ble_eq_true rfl) dX8_atom_12) (fun H locs hP hS => ?_)
    refine lv_if_eq (tgt := 161) hx hb dX8_atom_15 (by decide) (fun c25 => ?_) (fun c25 => ?_)
    · have hf := ite_t c25 hf
      refine lv_iload_n hx hb dX8_atom_161 rfl (lv_at hl 0 rfl) ?_
      exact hret _ _ _ _ _ _ (Or.inl rfl) (Option.some.inj hf) hP hS dX8_atom_162
    · have hf := ite_f c25 hf
      refine lv_aload_n hx hb dX8_atom_18 rfl (lv_at hl 1 rfl) ?_
      obtain ⟨q26, eq26, hf⟩ := bd_e hf
      refine zki hS (zrV (As := []) (rest := []) okM hx hb hml hown hts hk hP hS (hr5 q24.2 _ eq26) vk_X8_atom ml_X8_237 rfl rfl (rmG_go (by decide)) (va_recv (q := (RX8, TX8, 55)) hk.1 hP (q0 := 0) (ci := 7) rfl rfl) rfl hl.1 rfl (Nat.le_of_ble_eq_true rfl) dX8_atom_19) (fun H locs hP hS => ?_)
      refine lv_ineg hx hb dX8_atom_22 ?_
      obtain ⟨x27, ex27, hf⟩ := lt_e hf
      refine lv_nm ex27 ?_
      refine lv_istore_n (lv' := [(1, .int x27), (0, .ref (zA v 0))]) hx hb dX8_atom_23 rfl hl (by decide) rfl (fun ls hl => ?_)
      refine lv_aload_n hx hb dX8_atom_24 rfl (lv_at hl 1 rfl) ?_
      refine lv_dup hx hb dX8_atom_25 rfl ?_
      refine va_get (D := zD v) (ci := 7) (v := .int (q26.2.1 0 28)) (C := RX8) (T := TX8) (N := 55) hx hb hts iX8 hown hk.1 hP 0 rfl rfl 28 (by decide) (hts _ fl_X8_199) (fun _ h9 => h9) rfl dX8_atom_26 ?_
      refine lv_iconst (v := 1) hx hb dX8_atom_29 kI_1 ?_
      refine lv_isub hx hb dX8_atom_30 ?_
      refine va_put (D := zD v) (ci := 7) (v := .int ((q26.2.1 0 28) - (1 : Int32))) (ty := .int) (C := RX8) (T := TX8) (N := 55) hx hb hts iX8 tyX8 tyX8_ok nmX8 hown hk.1 hP (zw_D okM hk _) hS 0 rfl rfl 28 (by decide) (hts _ fl_X8_199) (fun _ h9 => h9) rfl pd_I rfl rfl (Nat.le_of_ble_eq_true rfl) dX8_atom_31 (fun H locs hP1 _ hS => ?_)
      have hP : va_P (zD v) vwCl (pM.1 v (up q26.2.1 0 (upd (q26.2.1 0) 28 ((q26.2.1 0 28) - (1 : Int32))), q26.2.2)) H := hP1
      obtain ⟨g28, eg28, hf⟩ := lt_e hf
      rw [← eg28] at hP
      refine lv_goto (tgt := 161) hx hb dX8_atom_34 (by decide) ?_
      refine lv_iload_n hx hb dX8_atom_161 rfl (lv_at hl 0 rfl) ?_
      exact hret _ _ _ _ _ _ (Or.inl rfl) (Option.some.inj hf) hP hS dX8_atom_162
theorem tg_E_all (l : Launch) (v : Ev) (N : Nat) : ∀ d : Nat, (∀ (g : SM) (res : Int32 × SM), gr_E N d 0 0 0 0 g = some res → Ci l yX8_either cX8_either 3 .int (rmG 8 800 60 d) pM v [.ref (zA v 0)] g res) ∧ (∀ (g : SM) (res : Int32 × SM), gr_E N d 1 0 0 0 g = some res → Ci l yX8_both cX8_both 3 .int (rmG 8 800 60 d) pM v [.ref (zA v 0)] g res) ∧ (∀ (g : SM) (res : Int32 × SM), gr_E N d 2 0 0 0 g = some res → Ci l yX8_not cX8_not 4 .int (rmG 8 800 60 d) pM v [.ref (zA v 0)] g res) ∧ (∀ (g : SM) (res : Int32 × SM), gr_E N d 3 0 0 0 g = some res → Ci l yX8_added cX8_added 4 .int (rmG 8 800 60 d) pM v [.ref (zA v 0)] g res) ∧ (∀ (g : SM) (res : Int32 × SM), gr_E N d 4 0 0 0 g = some res → Ci l yX8_term cX8_term 2 .int (rmG 8 800 60 d) pM v [.ref (zA v 0)] g res) ∧ (∀ (g : SM) (res : Int32 × SM), gr_E N d 5 0 0 0 g = some res → Ci l yX8_atom cX8_atom 2 .int (rmG 8 800 60 d) pM v [.ref (zA v 0)] g res) := by
  intro d
  induction d with
  | zero => exact ⟨fun _ _ h => nn_e h, fun _ _ h => nn_e h, fun _ _ h => nn_e h, fun _ _ h => nn_e h, fun _ _ h => nn_e h, fun _ _ h => nn_e h⟩
  | succ d ih => exact ⟨fun g res hf => t_X8_either l v N (gr_E N d) d ih.1 ih.2.1 ih.2.2.1 ih.2.2.2.1 ih.2.2.2.2.1 ih.2.2.2.2.2 g res hf, fun g res hf => t_X8_both l v N (gr_E N d) d ih.1 ih.2.1 ih.2.2.1 ih.2.2.2.1 ih.2.2.2.2.1 ih.2.2.2.2.2 g res hf, fun g res hf => t_X8_not l v N (gr_E N d) d ih.1 ih.2.1 ih.2.2.1 ih.2.2.2.1 ih.2.2.2.2.1 ih.2.2.2.2.2 g res hf, fun g res hf => t_X8_added l v N (gr_E N d) d ih.1 ih.2.1 ih.2.2.1 ih.2.2.2.1 ih.2.2.2.2.1 ih.2.2.2.2.2 g res hf, fun g res hf => t_X8_term l v N (gr_E N d) d ih.1 ih.2.1 ih.2.2.1 ih.2.2.2.1 ih.2.2.2.2.1 ih.2.2.2.2.2 g res hf, fun g res hf => t_X8_atom l v N (gr_E N d) d ih.1 ih.2.1 ih.2.2.1 ih.2.2.2.1 ih.2.2.2.2.1 ih.2.2.2.2.2 g res hf⟩
theorem tg_X8_either (l : Launch) (v : Ev) (N d : Nat) : ∀ (g : SM) (res : Int32 × SM), gr_E N d 0 0 0 0 g = some res → Ci l yX8_either cX8_either 3 .int (rmG 8 800 60 d) pM v [.ref (zA v 0)] g res := (tg_E_all l v N d).1
theorem tg_X8_both (l : Launch) (v : Ev) (N d : Nat) : ∀ (g : SM) (res : Int32 × SM), gr_E N d 1 0 0 0 g = some res → Ci l yX8_both cX8_both 3 .int (rmG 8 800 60 d) pM v [.ref (zA v 0)] g res := (tg_E_all l v N d).2.1
theorem tg_X8_not (l : Launch) (v : Ev) (N d : Nat) : ∀ (g : SM) (res : Int32 × SM), gr_E N d 2 0 0 0 g = some res → Ci l yX8_not cX8_not 4 .int (rmG 8 800 60 d) pM v [.ref (zA v 0)] g res := (tg_E_all l v N d).2.2.1
theorem tg_X8_added (l : Launch) (v : Ev) (N d : Nat) : ∀ (g : SM) (res : Int32 × SM), gr_E N d 3 0 0 0 g = some res → Ci l yX8_added cX8_added 4 .int (rmG 8 800 60 d) pM v [.ref (zA v 0)] g res := (tg_E_all l v N d).2.2.2.1
theorem tg_X8_term (l : Launch) (v : Ev) (N d : Nat) : ∀ (g : SM) (res : Int32 × SM), gr_E N d 4 0 0 0 g = some res → Ci l yX8_term cX8_term 2 .int (rmG 8 800 60 d) pM v [.ref (zA v 0)] g res := (tg_E_all l v N d).2.2.2.2.1
theorem tg_X8_atom (l : Launch) (v : Ev) (N d : Nat) : ∀ (g : SM) (res : Int32 × SM), gr_E N d 5 0 0 0 g = some res → Ci l yX8_atom cX8_atom 2 .int (rmG 8 800 60 d) pM v [.ref (zA v 0)] g res := (tg_E_all l v N d).2.2.2.2.2
