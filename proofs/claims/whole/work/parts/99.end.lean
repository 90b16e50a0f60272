def x_X0_lengthOf (N : Nat) (a0 : Int32) (a1 : Int32) (a2 : Int32) (a3 : Int32) (g : Sg) : Option (Int32 × Sg) := (if (a0).toInt < 1 ∨ 5 < (a0).toInt then some ((((5 : Int32) * a3) + a2), g) else if ((a0).toInt - (1)).toNat = 0 then some (((((5 : Int32) * a3) + a2) - a1), g) else if ((a0).toInt - (1)).toNat = 1 then some ((((5 : Int32) * a3) + a2), g) else if ((a0).toInt - (1)).toNat = 2 then some ((((((5 : Int32) * a3) + a2) - a1) - (3 : Int32)), g) else if ((a0).toInt - (1)).toNat = 3 then some (((((5 : Int32) * a3) + a2) + (2 : Int32)), g) else if ((a0).toInt - (1)).toNat = 4 then some ((((10 : Int32) * (a3 / (2 : Int32))) + a2), g) else none)
def x_X0_giving_b10 (N : Nat) (y1 : Int32) (g : Sg) : Option (Int32 × Sg) := some ((y1 / (3 : Int32)), g)
def x_X0_giving (N : Nat) (a0 : Int32) (a1 : Int32) (g : Sg) : Option (Int32 × Sg) := (if a0 = (2 : Int32) then x_X0_giving_b10 N a1 g else (if a0 = (4 : Int32) then x_X0_giving_b10 N a1 g else some ((0 : Int32), g)))
def x_X0_bound (N : Nat) (a0 : Int32) (a1 : Int32) (g : Sg) : Option (Int32 × Sg) := (if inb ((((4 : Int32) * a0) + a1) + (1 : Int32)) 24 = true then some ((tBOUNDS.getD (((((4 : Int32) * a0) + a1) + (1 : Int32))).toNatClampNeg 0), g) else none)
def x_X0_says_b31 (N : Nat) (h6 : Int32 × Int32 × Int32 × Int32 × Int32 × Sg → Option (Int32 × Sg)) (y0 : Int32) (y1 : Int32) (y2 : Int32) (y3 : Int32) (y4 : Int32) (g : Sg) : Option (Int32 × Sg) := lt (y4 + (1 : Int32)) fun x5 => h6 (y0, y1, y2, y3, x5, g)
def x_X0_says_B6 (N : Nat) (h6 : Int32 × Int32 × Int32 × Int32 × Int32 × Sg → Option (Int32 × Sg)) (x : Int32 × Int32 × Int32 × Int32 × Int32 × Sg) : Option (Int32 × Sg) := (if (2 : Int32) < x.2.2.2.2.1 then some (x.2.2.2.1, x.2.2.2.2.2) else (x_X0_giving N x.1 x.2.1 x.2.2.2.2.2).bind fun q2 => (x_X0_bound N x.1 x.2.2.2.2.1 q2.2).bind fun q3 => (if (x.2.2.1 + q2.1) < q3.1 then x_X0_says_b31 N h6 x.1 x.2.1 x.2.2.1 x.2.2.2.1 x.2.2.2.2.1 q3.2 else x_X0_says_b31 N h6 x.1 x.2.1 x.2.2.1 x.2.2.2.2.1 x.2.2.2.2.1 q3.2))
def x_X0_says (N : Nat) (a0 : Int32) (a1 : Int32) (a2 : Int32) (g : Sg) : Option (Int32 × Sg) := lp (x_X0_says_B6 N) N (a0, a1, a2, (-2 : Int32), (-1 : Int32), g)
def x_X0_reach (N : Nat) (a0 : Int32) (a1 : Int32) (a2 : Int32) (g : Sg) : Option (Int32 × Sg) := (if (-2 : Int32) < a2 then (if a2 ≤ (2 : Int32) then (x_X0_bound N a0 a2 g).bind fun q3 => lt (mnI (99 : Int32) (a1 - q3.1)) fun x4 => lt (mxI (-1 : Int32) x4) fun x5 => some (x5, q3.2) else some ((-1 : Int32), g)) else some ((99 : Int32), g))
def x_X0_isUnder_B4 (N : Nat) (h4 : Int32 × Int32 × Int32 × Sg → Option (Int32 × Sg)) (x : Int32 × Int32 × Int32 × Sg) : Option (Int32 × Sg) := (if (6 : Int32) ≤ x.2.2.1 then some ((0 : Int32), x.2.2.2) else (if x.2.1 = (-1 : Int32) then some ((0 : Int32), x.2.2.2) else (if x.2.1 = x.1 then some ((1 : Int32), x.2.2.2) else (if inb x.2.1 6 = true then lt (tUNDER.getD (x.2.1).toNatClampNeg 0) fun x5 => lt (x.2.2.1 + (1 : Int32)) fun x6 => h4 (x.1, x5, x6, x.2.2.2) else none))))
def x_X0_isUnder (N : Nat) (a0 : Int32) (a1 : Int32) (g : Sg) : Option (Int32 × Sg) := lp (x_X0_isUnder_B4 N) N (a1, a0, (0 : Int32), g)
def x_X1_clear_7 (N : Nat) (g : Sg) : Option (Sg) := lt (up g 7 (upd (g 7) 0 (-1 : Int32))) fun g1 => lt (up g1 7 (upd (g1 7) 1 (2147483647 : Int32))) fun g2 => some g2
def x_X1_clear_8 (N : Nat) (g : Sg) : Option (Sg) := lt (up g 8 (upd (g 8) 0 (-1 : Int32))) fun g1 => lt (up g1 8 (upd (g1 8) 1 (2147483647 : Int32))) fun g2 => some g2
def x_X1_clear_9 (N : Nat) (g : Sg) : Option (Sg) := lt (up g 9 (upd (g 9) 0 (-1 : Int32))) fun g1 => lt (up g1 9 (upd (g1 9) 1 (2147483647 : Int32))) fun g2 => some g2
def x_X1_offer_7 (N : Nat) (a1 : Int32) (a2 : Int32) (g : Sg) : Option (Sg) := (if (g 7 1) ≤ a2 then some g else lt (up g 7 (upd (g 7) 0 a1)) fun g2 => lt (up g2 7 (upd (g2 7) 1 a2)) fun g3 => some g3)
def x_X1_offer_8 (N : Nat) (a1 : Int32) (a2 : Int32) (g : Sg) : Option (Sg) := (if (g 8 1) ≤ a2 then some g else lt (up g 8 (upd (g 8) 0 a1)) fun g2 => lt (up g2 8 (upd (g2 8) 1 a2)) fun g3 => some g3)
def x_X1_offer_9 (N : Nat) (a1 : Int32) (a2 : Int32) (g : Sg) : Option (Sg) := (if (g 9 1) ≤ a2 then some g else lt (up g 9 (upd (g 9) 0 a1)) fun g2 => lt (up g2 9 (upd (g2 9) 1 a2)) fun g3 => some g3)
theorem kI_5 : Int32.ofInt (5) = (5 : Int32) := by decide +kernel
theorem kI_3 : Int32.ofInt (3) = (3 : Int32) := by decide +kernel
theorem kI_2 : Int32.ofInt (2) = (2 : Int32) := by decide +kernel
theorem kB_10 : (Int8.ofInt (10)).toInt32 = (10 : Int32) := by decide +kernel
theorem kz_2 : ¬ (2 : Int32) = 0 := by decide +kernel
theorem kz_3 : ¬ (3 : Int32) = 0 := by decide +kernel
theorem kI_4 : Int32.ofInt (4) = (4 : Int32) := by decide +kernel
theorem kI_0 : Int32.ofInt (0) = (0 : Int32) := by decide +kernel
theorem kI_1 : Int32.ofInt (1) = (1 : Int32) := by decide +kernel
theorem kB_m2 : (Int8.ofInt (-2)).toInt32 = (-2 : Int32) := by decide +kernel
theorem kI_m1 : Int32.ofInt (-1) = (-1 : Int32) := by decide +kernel
theorem sk_X0_giving : SOK yX0_giving cX0_giving 2 (some .int) 2 := sok_of (by decide +kernel)
theorem ml_X0_9 : Cond.methodLink RX0 9 yX0_giving ∈ WL := wl (by decide +kernel) rfl
theorem sk_X0_bound : SOK yX0_bound cX0_bound 2 (some .int) 2 := sok_of (by decide +kernel)
theorem ml_X0_15 : Cond.methodLink RX0 15 yX0_bound ∈ WL := wl (by decide +kernel) rfl
theorem kB_99 : (Int8.ofInt (99)).toInt32 = (99 : Int32) := by decide +kernel
theorem ml_X0_22 : Cond.methodLink RX0 22 Lib.Math.min.name ∈ WL := wl (by decide +kernel) rfl
theorem mS_min : Cond.static Lib.Math.min.name ∈ WL := wl (by decide +kernel) rfl
theorem mI_math : Cond.initialized "java/lang/Math" ∈ WL := wl (by decide +kernel) rfl
theorem mC_min : Cond.code Lib.Math.min.name Lib.Math.min.code 2 (some .int) ∈ WL := wl (by decide +kernel) rfl
theorem ml_X0_27 : Cond.methodLink RX0 27 Lib.Math.max.name ∈ WL := wl (by decide +kernel) rfl
theorem mS_max : Cond.static Lib.Math.max.name ∈ WL := wl (by decide +kernel) rfl
theorem mC_max : Cond.code Lib.Math.max.name Lib.Math.max.code 2 (some .int) ∈ WL := wl (by decide +kernel) rfl
theorem kB_6 : (Int8.ofInt (6)).toInt32 = (6 : Int32) := by decide +kernel
theorem fl_X1_9 : Cond.fieldLink RX1 9 "HalfASize$Least" "what" "I" ∈ WL := wl (by decide +kernel) rfl
theorem pd_I : parseFieldDescriptor "I" = some .int := by decide +kernel
theorem kc_X1_17 : Cond.constant RX1 17 (2147483647) ∈ WL := wl (by decide +kernel) rfl
theorem fl_X1_18 : Cond.fieldLink RX1 18 "HalfASize$Least" "measure" "I" ∈ WL := wl (by decide +kernel) rfl
abbrev rm_X0_lengthOf : Room := { frames := 1, cells := 0, slots := 0, locals := 60 }
set_option maxRecDepth 100000 in
theorem t_X0_lengthOf (l : Launch) (v : Ev) (N : Nat) (a0 : Int32) (a1 : Int32) (a2 : Int32) (a3 : Int32) (g : Sg) (res : Int32 × Sg) (hf : x_X0_lengthOf N a0 a1 a2 a3 g = some res) : Ci l yX0_lengthOf cX0_lengthOf 4 .int rm_X0_lengthOf pX v [.int a0, .int a1, .int a2, .int a3] g res := by
  refine ze_i (by decide +kernel) (Nat.le_of_ble_eq_true rfl) (Or.inl rfl) ?_
  intro p e s m args below meth c Q ls hcx hret hP hl
  obtain ⟨hx, hb, hml, hown, hts, hk⟩ := hcx
  have hown : s.vm.findClass RX0 = some m.cls := hown
  have hS : va_S (An nX v) s.heap s.heap [] := va_S.rf
  have hl : lv_has ls 4 [(0, .int a0), (1, .int a1), (2, .int a2), (3, .int a3)] := hl
  unfold x_X0_lengthOf at hf
  refine lv_iload_n hx hb dX0_lengthOf_0 rfl (lv_at hl 0 rfl) ?_
  by_cases c1 : (a0).toInt < 1 ∨ 5 < (a0).toInt
  · have hf := ite_t c1 hf
    refine lv_tableOut (tgt := 71) hx hb dX0_lengthOf_1 c1 (by decide) ?_
    refine lv_iconst (v := 5) hx hb dX0_lengthOf_71 kI_5 ?_
    refine lv_iload_n hx hb dX0_lengthOf_72 rfl (lv_at hl 3 rfl) ?_
    refine lv_imul hx hb dX0_lengthOf_73 ?_
    refine lv_iload_n hx hb dX0_lengthOf_74 rfl (lv_at hl 2 rfl) ?_
    refine lv_iadd hx hb dX0_lengthOf_75 ?_
    exact hret _ _ _ _ _ _ (Or.inl rfl) (Option.some.inj hf) hP hS dX0_lengthOf_76
  · have hf := ite_f c1 hf
    by_cases c2 : ((a0).toInt - (1)).toNat = 0
    · have hf := ite_t c2 hf
      refine lv_tableIn (tgt := 36) hx hb dX0_lengthOf_1 (fun h => c1 (Or.inl h)) (fun h => c1 (Or.inr h)) (by rw [c2]; rfl) (by decide) ?_
      refine lv_iconst (v := 5) hx hb dX0_lengthOf_36 kI_5 ?_
      refine lv_iload_n hx hb dX0_lengthOf_37 rfl (lv_at hl 3 rfl) ?_
      refine lv_imul hx hb dX0_lengthOf_38 ?_
      refine lv_iload_n hx hb dX0_lengthOf_39 rfl (lv_at hl 2 rfl) ?_
      refine lv_iadd hx hb dX0_lengthOf_40 ?_
      refine lv_iload_n hx hb dX0_lengthOf_41 rfl (lv_at hl 1 rfl) ?_
      refine lv_isub hx hb dX0_lengthOf_42 ?_
      exact hret _ _ _ _ _ _ (Or.inl rfl) (Option.some.inj hf) hP hS dX0_lengthOf_43
    · have hf := ite_f c2 hf
      by_cases c3 : ((a0).toInt - (1)).toNat = 1
      · have hf := ite_t c3 hf
        refine lv_tableIn (tgt := 71) hx hb dX0_lengthOf_1 (fun h => c1 (Or.inl h)) (fun h => c1 (Or.inr h)) (by rw [c3]; rfl) (by decide) ?_
        refine lv_iconst (v := 5) hx hb dX0_lengthOf_71 kI_5 ?_
        refine lv_iload_n hx hb dX0_lengthOf_72 rfl (lv_at hl 3 rfl) ?_
        refine lv_imul hx hb dX0_lengthOf_73 ?_
        refine lv_iload_n hx hb dX0_lengthOf_74 rfl (lv_at hl 2 rfl) ?_
        refine lv_iadd hx hb dX0_lengthOf_75 ?_
        exact hret _ _ _ _ _ _ (Or.inl rfl) (Option.some.inj hf) hP hS dX0_lengthOf_76
      · have hf := ite_f c3 hf
        by_cases c4 : ((a0).toInt - (1)).toNat = 2
        · have hf := ite_t c4 hf
          refine lv_tableIn (tgt := 44) hx hb dX0_lengthOf_1 (fun h => c1 (Or.inl h)) (fun h => c1 (Or.inr h)) (by rw [c4]; rfl) (by decide) ?_
          refine lv_iconst (v := 5) hx hb dX0_lengthOf_44 kI_5 ?_
          refine lv_iload_n hx hb dX0_lengthOf_45 rfl (lv_at hl 3 rfl) ?_
          refine lv_imul hx hb dX0_lengthOf_46 ?_
          refine lv_iload_n hx hb dX0_lengthOf_47 rfl (lv_at hl 2 rfl) ?_
          refine lv_iadd hx hb dX0_lengthOf_48 ?_
          refine lv_iload_n hx hb dX0_lengthOf_49 rfl (lv_at hl 1 rfl) ?_
          refine lv_isub hx hb dX0_lengthOf_50 ?_
          refine lv_iconst (v := 3) hx hb dX0_lengthOf_51 kI_3 ?_
          refine lv_isub hx hb dX0_lengthOf_52 ?_
          exact hret _ _ _ _ _ _ (Or.inl rfl) (Option.some.inj hf) hP hS dX0_lengthOf_53
        · have hf := ite_f c4 hf
          by_cases c5 : ((a0).toInt - (1)).toNat = 3
          · have hf := ite_t c5 hf
            refine lv_tableIn (tgt := 54) hx hb dX0_lengthOf_1 (fun h => c1 (Or.inl h)) (fun h => c1 (Or.inr h)) (by rw [c5]; rfl) (by decide) ?_
            refine lv_iconst (v := 5) hx hb dX0_lengthOf_54 kI_5 ?_
            refine lv_iload_n hx hb dX0_lengthOf_55 rfl (lv_at hl 3 rfl) ?_
            refine lv_imul hx hb dX0_lengthOf_56 ?_
            refine lv_iload_n hx hb dX0_lengthOf_57 rfl (lv_at hl 2 rfl) ?_
            refine lv_iadd hx hb dX0_lengthOf_58 ?_
            refine lv_iconst (v := 2) hx hb dX0_lengthOf_59 kI_2 ?_
            refine lv_iadd hx hb dX0_lengthOf_60 ?_
            exact hret _ _ _ _ _ _ (Or.inl rfl) (Option.some.inj hf) hP hS dX0_lengthOf_61
          · have hf := ite_f c5 hf
            by_cases c6 : ((a0).toInt - (1)).toNat = 4
            · have hf := ite_t c6 hf
              refine lv_tableIn (tgt := 62) hx hb dX0_lengthOf_1 (fun h => c1 (Or.inl h)) (fun h => c1 (Or.inr h)) (by rw [c6]; rfl) (by decide) ?_
              refine lv_bipush (v := 10) hx hb dX0_lengthOf_62 kB_10 ?_
              refine lv_iload_n hx hb dX0_lengthOf_64 rfl (lv_at hl 3 rfl) ?_
              refine lv_iconst (v := 2) hx hb dX0_lengthOf_65 kI_2 ?_
              refine lv_idiv hx hb dX0_lengthOf_66 kz_2 ?_
              refine lv_imul hx hb dX0_lengthOf_67 ?_
              refine lv_iload_n hx hb dX0_lengthOf_68 rfl (lv_at hl 2 rfl) ?_
              refine lv_iadd hx hb dX0_lengthOf_69 ?_
              exact hret _ _ _ _ _ _ (Or.inl rfl) (Option.some.inj hf) hP hS dX0_lengthOf_70
            · have hf := ite_f c6 hf
              exact nn_e hf
abbrev rm_X0_giving : Room := { frames := 1, cells := 0, slots := 0, locals := 60 }
set_option maxRecDepth 100000 in
theorem t_X0_giving (l : Launch) (v : Ev) (N : Nat) (a0 : Int32) (a1 : Int32) (g : Sg) (res : Int32 × Sg) (hf : x_X0_giving N a0 a1 g = some res) : Ci l yX0_giving cX0_giving 2 .int rm_X0_giving pX v [.int a0, .int a1] g res := by
  refine ze_i (by decide +kernel) (Nat.le_of_ble_eq_true rfl) (Or.inl rfl) ?_
  intro p e s m args below meth c Q ls hcx hret hP hl
  obtain ⟨hx, hb, hml, hown, hts, hk⟩ := hcx
  have hown : s.vm.findClass RX0 = some m.cls := hown
  have hS : va_S (An nX v) s.heap s.heap [] := va_S.rf
  have hl : lv_has ls 2 [(0, .int a0), (1, .int a1)] := hl
  have wb10 : ∀ (y1 : Int32) (g : Sg) (hf : x_X0_giving_b10 N y1 g = some res) (H : Heap) (locs : List Loc) (ls : Array Slot) (hP : va_P (zD v) vwCl (pX.1 v g) H) (hS : va_S (An nX v) s.heap H locs) (hl : lv_has ls 2 [(1, .int y1)]), W p l e rm_X0_giving s m args below meth c H locs 0 0 Q (F0 m 10 ls []) := by
    intro y1 g hf H locs ls hP hS hl
    unfold x_X0_giving_b10 at hf
    refine lv_iload_n hx hb dX0_giving_10 rfl (lv_at hl 0 rfl) ?_
    refine lv_iconst (v := 3) hx hb dX0_giving_11 kI_3 ?_
    refine lv_idiv hx hb dX0_giving_12 kz_3 ?_
    refine lv_goto (tgt := 17) hx hb dX0_giving_13 (by decide) ?_
    exact hret _ _ _ _ _ _ (Or.inl rfl) (Option.some.inj hf) hP hS dX0_giving_17
  unfold x_X0_giving at hf
  refine lv_iload_n hx hb dX0_giving_0 rfl (lv_at hl 0 rfl) ?_
  refine lv_iconst (v := 2) hx hb dX0_giving_1 kI_2 ?_
  refine lv_icmp_eq (tgt := 10) hx hb dX0_giving_2 (by decide) (fun c1 => ?_) (fun c1 => ?_)
  · have hf := ite_t c1 hf
    exact wb10 a1 g hf _ _ _ hP hS (lv_sub hl [1] rfl)
  · have hf := ite_f c1 hf
    refine lv_iload_n hx hb dX0_giving_5 rfl (lv_at hl 0 rfl) ?_
    refine lv_iconst (v := 4) hx hb dX0_giving_6 kI_4 ?_
    refine lv_icmp_ne (tgt := 16) hx hb dX0_giving_7 (by decide) (fun c2 => ?_) (fun c2 => ?_)
    · have hf := ite_f c2 hf
      refine lv_iconst (v := 0) hx hb dX0_giving_16 kI_0 ?_
      exact hret _ _ _ _ _ _ (Or.inl rfl) (Option.some.inj hf) hP hS dX0_giving_17
    · have hf := ite_t c2 hf
      exact wb10 a1 g hf _ _ _ hP hS (lv_sub hl [1] rfl)
abbrev rm_X0_bound : Room := { frames := 1, cells := 0, slots := 0, locals := 60 }
set_option maxRecDepth 100000 in
theorem t_X0_bound (l : Launch) (v : Ev) (N : Nat) (a0 : Int32) (a1 : Int32) (g : Sg) (res : Int32 × Sg) (hf : x_X0_bound N a0 a1 g = some res) : Ci l yX0_bound cX0_bound 2 .int rm_X0_bound pX v [.int a0, .int a1] g res := by
  refine ze_i (by decide +kernel) (Nat.le_of_ble_eq_true rfl) (Or.inl rfl) ?_
  intro p e s m args below meth c Q ls hcx hret hP hl
  obtain ⟨hx, hb, hml, hown, hts, hk⟩ := hcx
  have hown : s.vm.findClass RX0 = some m.cls := hown
  have hS : va_S (An nX v) s.heap s.heap [] := va_S.rf
  have hl : lv_has ls 2 [(0, .int a0), (1, .int a1)] := hl
  unfold x_X0_bound at hf
  refine va_getsN hx hb (xs_z3 hk) hS hown (va_Nw.use rfl (xs_n3 hk)) (fun _ h9 => h9) dX0_bound_0 ?_
  refine lv_iconst (v := 4) hx hb dX0_bound_3 kI_4 ?_
  refine lv_iload_n hx hb dX0_bound_4 rfl (lv_at hl 0 rfl) ?_
  refine lv_imul hx hb dX0_bound_5 ?_
  refine lv_iload_n hx hb dX0_bound_6 rfl (lv_at hl 1 rfl) ?_
  refine lv_iadd hx hb dX0_bound_7 ?_
  refine lv_iconst (v := 1) hx hb dX0_bound_8 kI_1 ?_
  refine lv_iadd hx hb dX0_bound_9 ?_
  obtain ⟨c1, hf⟩ := gd_e hf
  refine va_ti hx hb (xs_t3 hk) hS (inb_in c1) rfl dX0_bound_10 ?_
  exact hret _ _ _ _ _ _ (Or.inl rfl) (Option.some.inj hf) hP hS dX0_bound_11
abbrev rm_X0_says : Room := { frames := 2, cells := 0, slots := 0, locals := 81 }
set_option maxRecDepth 100000 in
theorem t_X0_says (l : Launch) (v : Ev) (N : Nat) (a0 : Int32) (a1 : Int32) (a2 : Int32) (g : Sg) (res : Int32 × Sg) (hf : x_X0_says N a0 a1 a2 g = some res) : Ci l yX0_says cX0_says 5 .int rm_X0_says pX v [.int a0, .int a1, .int a2] g res := by
  refine ze_i (by decide +kernel) (Nat.le_of_ble_eq_true rfl) (Or.inl rfl) ?_
  intro p e s m args below meth c Q ls hcx hret hP hl
  obtain ⟨hx, hb, hml, hown, hts, hk⟩ := hcx
  have hown : s.vm.findClass RX0 = some m.cls := hown
  have hS : va_S (An nX v) s.heap s.heap [] := va_S.rf
  have hl : lv_has ls 5 [(0, .int a0), (1, .int a1), (2, .int a2)] := hl
  have wb31 : ∀ (h6 : Int32 × Int32 × Int32 × Int32 × Int32 × Sg → Option (Int32 × Sg)) (hh6 : ∀ x : Int32 × Int32 × Int32 × Int32 × Int32 × Sg, h6 x = some res → ∀ (H : Heap) (locs : List Loc) (ls : Array Slot), va_P (zD v) vwCl (pX.1 v x.2.2.2.2.2) H → va_S (An nX v) s.heap H locs → lv_has ls 5 [(0, .int x.1), (1, .int x.2.1), (2, .int x.2.2.1), (3, .int x.2.2.2.1), (4, .int x.2.2.2.2.1)] → W p l e rm_X0_says s m args below meth c H locs 0 0 Q (F0 m 6 ls [])) (y0 : Int32) (y1 : Int32) (y2 : Int32) (y3 : Int32) (y4 : Int32) (g : Sg) (hf : x_X0_says_b31 N h6 y0 y1 y2 y3 y4 g = some res) (H : Heap) (locs : List Loc) (ls : Array Slot) (hP : va_P (zD v) vwCl (pX.1 v g) H) (hS : va_S (An nX v) s.heap H locs) (hl : lv_has ls 5 [(0, .int y0), (1, .int y1), (2, .int y2), (3, .int y3), (4, .int y4)]), W p l e rm_X0_says s m args below meth c H locs 0 0 Q (F0 m 31 ls []) := by
    intro h6 hh6 y0 y1 y2 y3 y4 g hf H locs ls hP hS hl
    unfold x_X0_says_b31 at hf
    obtain ⟨x5, ex5, hf⟩ := lt_e hf
    refine lv_iinc (v := x5) (lv' := [(4, .int x5), (0, .int y0), (1, .int y1), (2, .int y2), (3, .int y3)]) hx hb dX0_says_31 hl (k := 4) rfl ((congrArg (fun z => y4 + z) kI_1).trans ex5.symm) (by decide) rfl (fun ls hl => ?_)
    refine lv_goto (tgt := 6) hx hb dX0_says_34 (by decide) ?_
    exact hh6 (y0, y1, y2, y3, x5, g) hf _ _ _ hP hS (lv_sub hl [1, 2, 3, 4, 0] rfl)
  have wL6 : ∀ (n : Nat) (x : Int32 × Int32 × Int32 × Int32 × Int32 × Sg), lp (x_X0_says_B6 N) n x = some res → ∀ (H : Heap) (locs : List Loc) (ls : Array Slot), va_P (zD v) vwCl (pX.1 v x.2.2.2.2.2) H → va_S (An nX v) s.heap H locs → lv_has ls 5 [(0, .int x.1), (1, .int x.2.1), (2, .int x.2.2.1), (3, .int x.2.2.2.1), (4, .int x.2.2.2.2.1)] → W p l e rm_X0_says s m args below meth c H locs 0 0 Q (F0 m 6 ls []) := by
    refine lp_w (P := fun x : Int32 × Int32 × Int32 × Int32 × Int32 × Sg => ∀ (H : Heap) (locs : List Loc) (ls : Array Slot), va_P (zD v) vwCl (pX.1 v x.2.2.2.2.2) H → va_S (An nX v) s.heap H locs → lv_has ls 5 [(0, .int x.1), (1, .int x.2.1), (2, .int x.2.2.1), (3, .int x.2.2.2.1), (4, .int x.2.2.2.2.1)] → W p l e rm_X0_says s m args below meth c H locs 0 0 Q (F0 m 6 ls [])) ?_
    intro h6 hh6 x hf H locs ls hP hS hl
    unfold x_X0_says_B6 at hf
    refine lv_iload hx hb dX0_says_6 (lv_at hl 4 rfl) ?_
    refine lv_iconst (v := 2) hx hb dX0_says_8 kI_2 ?_
    refine lv_icmp_gt (tgt := 37) hx hb dX0_says_9 (by decide) (fun c1 => ?_) (fun c1 => ?_)
    · have hf := ite_t c1 hf
      refine lv_iload_n hx hb dX0_says_37 rfl (lv_at hl 3 rfl) ?_
      exact hret _ _ _ _ _ _ (Or.inl rfl) (Option.some.inj hf) hP hS dX0_says_38
    · have hf := ite_f c1 hf
      refine lv_iload_n hx hb dX0_says_12 rfl (lv_at hl 2 rfl) ?_
      refine lv_iload_n hx hb dX0_says_13 rfl (lv_at hl 0 rfl) ?_
      refine lv_iload_n hx hb dX0_says_14 rfl (lv_at hl 1 rfl) ?_
      obtain ⟨q2, eq2, hf⟩ := bd_e hf
      refine zki hS (zrS (As := [.int x.1, .int x.2.1]) (rest := [.int x.2.2.1]) okX hx hb hml hown hts hk hP hS (t_X0_giving l v N x.1 x.2.1 x.2.2.2.2.2 _ eq2) sk_X0_giving ml_X0_9 rfl rfl ⟨(Nat.le_of_ble_eq_true rfl), (Nat.le_of_ble_eq_true rfl)⟩ rfl hl.1 rfl (Nat.le_of_ble_eq_true rfl) dX0_says_15) (fun H locs hP hS => ?_)
      refine lv_iadd hx hb dX0_says_18 ?_
      refine lv_iload_n hx hb dX0_says_19 rfl (lv_at hl 0 rfl) ?_
      refine lv_iload hx hb dX0_says_20 (lv_at hl 4 rfl) ?_
      obtain ⟨q3, eq3, hf⟩ := bd_e hf
      refine zki hS (zrS (As := [.int x.1, .int x.2.2.2.2.1]) (rest := [.int (x.2.2.1 + q2.1)]) okX hx hb hml hown hts hk hP hS (t_X0_bound l v N x.1 x.2.2.2.2.1 q2.2 _ eq3) sk_X0_bound ml_X0_15 rfl rfl ⟨(Nat.le_of_ble_eq_true rfl), (Nat.le_of_ble_eq_true rfl)⟩ rfl hl.1 rfl (Nat.le_of_ble_eq_true rfl) dX0_says_22) (fun H locs hP hS => ?_)
      refine lv_icmp_lt (tgt := 31) hx hb dX0_says_25 (by decide) (fun c4 => ?_) (fun c4 => ?_)
      · have hf := ite_t c4 hf
        exact wb31 h6 hh6 x.1 x.2.1 x.2.2.1 x.2.2.2.1 x.2.2.2.2.1 q3.2 hf _ _ _ hP hS (lv_sub hl [0, 1, 2, 3, 4] rfl)
      · have hf := ite_f c4 hf
        refine lv_iload hx hb dX0_says_28 (lv_at hl 4 rfl) ?_
        refine lv_istore_n (lv' := [(3, .int x.2.2.2.2.1), (0, .int x.1), (1, .int x.2.1), (2, .int x.2.2.1), (4, .int x.2.2.2.2.1)]) hx hb dX0_says_30 rfl hl (by decide) rfl (fun ls hl => ?_)
        exact wb31 h6 hh6 x.1 x.2.1 x.2.2.1 x.2.2.2.2.1 x.2.2.2.2.1 q3.2 hf _ _ _ hP hS (lv_sub hl [1, 2, 3, 0, 4] rfl)
  unfold x_X0_says at hf
  refine lv_bipush (v := -2) hx hb dX0_says_0 kB_m2 ?_
  refine lv_istore_n (lv' := [(3, .int (-2 : Int32)), (0, .int a0), (1, .int a1), (2, .int a2)]) hx hb dX0_says_2 rfl hl (by decide) rfl (fun ls hl => ?_)
  refine lv_iconst (v := -1) hx hb dX0_says_3 kI_m1 ?_
  refine lv_istore (lv' := [(4, .int (-1 : Int32)), (3, .int (-2 : Int32)), (0, .int a0), (1, .int a1), (2, .int a2)]) hx hb dX0_says_4 hl (by decide) rfl (fun ls hl => ?_)
  exact wL6 N (a0, a1, a2, (-2 : Int32), (-1 : Int32), g) hf _ _ _ hP hS (lv_sub hl [2, 3, 4, 1, 0] rfl)
abbrev rm_X0_reach : Room := { frames := 2, cells := 0, slots := 0, locals := 81 }
set_option maxRecDepth 100000 in
theorem t_X0_reach (l : Launch) (v : Ev) (N : Nat) (a0 : Int32) (a1 : Int32) (a2 : Int32) (g : Sg) (res : Int32 × Sg) (hf : x_X0_reach N a0 a1 a2 g = some res) : Ci l yX0_reach cX0_reach 3 .int rm_X0_reach pX v [.int a0, .int a1, .int a2] g res := by
  refine ze_i (by decide +kernel) (Nat.le_of_ble_eq_true rfl) (Or.inl rfl) ?_
  intro p e s m args below meth c Q ls hcx hret hP hl
  obtain ⟨hx, hb, hml, hown, hts, hk⟩ := hcx
  have hown : s.vm.findClass RX0 = some m.cls := hown
  have hS : va_S (An nX v) s.heap s.heap [] := va_S.rf
  have hl : lv_has ls 3 [(0, .int a0), (1, .int a1), (2, .int a2)] := hl
  unfold x_X0_reach at hf
  refine lv_iload_n hx hb dX0_reach_0 rfl (lv_at hl 2 rfl) ?_
  refine lv_bipush (v := -2) hx hb dX0_reach_1 kB_m2 ?_
  refine lv_icmp_gt (tgt := 9) hx hb dX0_reach_3 (by decide) (fun c1 => ?_) (fun c1 => ?_)
  · have hf := ite_t c1 hf
    refine lv_iload_n hx hb dX0_reach_9 rfl (lv_at hl 2 rfl) ?_
    refine lv_iconst (v := 2) hx hb dX0_reach_10 kI_2 ?_
    refine lv_icmp_le (tgt := 16) hx hb dX0_reach_11 (by decide) (fun c2 => ?_) (fun c2 => ?_)
    · have hf := ite_t c2 hf
      refine lv_iconst (v := -1) hx hb dX0_reach_16 kI_m1 ?_
      refine lv_bipush (v := 99) hx hb dX0_reach_17 kB_99 ?_
      refine lv_iload_n hx hb dX0_reach_19 rfl (lv_at hl 1 rfl) ?_
      refine lv_iload_n hx hb dX0_reach_20 rfl (lv_at hl 0 rfl) ?_
      refine lv_iload_n hx hb dX0_reach_21 rfl (lv_at hl 2 rfl) ?_
      obtain ⟨q3, eq3, hf⟩ := bd_e hf
      refine zki hS (zrS (As := [.int a0, .int a2]) (rest := [.int a1, .int (99 : Int32), .int (-1 : Int32)]) okX hx hb hml hown hts hk hP hS (t_X0_bound l v N a0 a2 g _ eq3) sk_X0_bound ml_X0_15 rfl rfl ⟨(Nat.le_of_ble_eq_true rfl), (Nat.le_of_ble_eq_true rfl)⟩ rfl hl.1 rfl (Nat.le_of_ble_eq_true rfl) dX0_reach_22) (fun H locs hP hS => ?_)
      refine lv_isub hx hb dX0_reach_25 ?_
      refine va_mmin hx hb (hml.trans hl.1.symm) hown (hts _ ml_X0_22) (hts _ mS_min) (hts _ mI_math) (hts _ mC_min) (Nat.le_of_ble_eq_true rfl) (Nat.le_of_ble_eq_true rfl) (Nat.zero_le _) (Nat.zero_le _) dX0_reach_26 ?_
      obtain ⟨x4, ex4, hf⟩ := lt_e hf
      refine lv_nm ex4 ?_
      refine va_mmax hx hb (hml.trans hl.1.symm) hown (hts _ ml_X0_27) (hts _ mS_max) (hts _ mI_math) (hts _ mC_max) (Nat.le_of_ble_eq_true rfl) (Nat.le_of_ble_eq_true rfl) (Nat.zero_le _) (Nat.zero_le _) dX0_reach_29 ?_
      obtain ⟨x5, ex5, hf⟩ := lt_e hf
      refine lv_nm ex5 ?_
      exact hret _ _ _ _ _ _ (Or.inl rfl) (Option.some.inj hf) hP hS dX0_reach_32
    · have hf := ite_f c2 hf
      refine lv_iconst (v := -1) hx hb dX0_reach_14 kI_m1 ?_
      exact hret _ _ _ _ _ _ (Or.inl rfl) (Option.some.inj hf) hP hS dX0_reach_15
  · have hf := ite_f c1 hf
    refine lv_bipush (v := 99) hx hb dX0_reach_6 kB_99 ?_
    exact hret _ _ _ _ _ _ (Or.inl rfl) (Option.some.inj hf) hP hS dX0_reach_8
abbrev rm_X0_isUnder : Room := { frames := 1, cells := 0, slots := 0, locals := 60 }
set_option maxRecDepth 100000 in
theorem t_X0_isUnder (l : Launch) (v : Ev) (N : Nat) (a0 : Int32) (a1 : Int32) (g : Sg) (res : Int32 × Sg) (hf : x_X0_isUnder N a0 a1 g = some res) : Ci l yX0_isUnder cX0_isUnder 4 .boolean rm_X0_isUnder pX v [.int a0, .int a1] g res := by
  refine ze_i (by decide +kernel) (Nat.le_of_ble_eq_true rfl) (Or.inr rfl) ?_
  intro p e s m args below meth c Q ls hcx hret hP hl
  obtain ⟨hx, hb, hml, hown, hts, hk⟩ := hcx
  have hown : s.vm.findClass RX0 = some m.cls := hown
  have hS : va_S (An nX v) s.heap s.heap [] := va_S.rf
  have hl : lv_has ls 4 [(0, .int a0), (1, .int a1)] := hl
  have wL4 : ∀ (n : Nat) (x : Int32 × Int32 × Int32 × Sg), lp (x_X0_isUnder_B4 N) n x = some res → ∀ (H : Heap) (locs : List Loc) (ls : Array Slot), va_P (zD v) vwCl (pX.1 v x.2.2.2) H → va_S (An nX v) s.heap H locs → lv_has ls 4 [(1, .int x.1), (2, .int x.2.1), (3, .int x.2.2.1)] → W p l e rm_X0_isUnder s m args below meth c H locs 0 0 Q (F0 m 4 ls []) := by
    refine lp_w (P := fun x : Int32 × Int32 × Int32 × Sg => ∀ (H : Heap) (locs : List Loc) (ls : Array Slot), va_P (zD v) vwCl (pX.1 v x.2.2.2) H → va_S (An nX v) s.heap H locs → lv_has ls 4 [(1, .int x.1), (2, .int x.2.1), (3, .int x.2.2.1)] → W p l e rm_X0_isUnder s m args below meth c H locs 0 0 Q (F0 m 4 ls [])) ?_
    intro h4 hh4 x hf H locs ls hP hS hl
    unfold x_X0_isUnder_B4 at hf
    refine lv_iload_n hx hb dX0_isUnder_4 rfl (lv_at hl 2 rfl) ?_
    refine lv_bipush (v := 6) hx hb dX0_isUnder_5 kB_6 ?_
    refine lv_icmp_ge (tgt := 34) hx hb dX0_isUnder_7 (by decide) (fun c1 => ?_) (fun c1 => ?_)
    · have hf := ite_t c1 hf
      refine lv_iconst (v := 0) hx hb dX0_isUnder_34 kI_0 ?_
      exact hret _ _ _ _ _ _ (Or.inr (Or.inl rfl)) (Option.some.inj hf) hP hS dX0_isUnder_35
    · have hf := ite_f c1 hf
      refine lv_iload_n hx hb dX0_isUnder_10 rfl (lv_at hl 1 rfl) ?_
      refine lv_iconst (v := -1) hx hb dX0_isUnder_11 kI_m1 ?_
      refine lv_icmp_eq (tgt := 34) hx hb dX0_isUnder_12 (by decide) (fun c2 => ?_) (fun c2 => ?_)
      · have hf := ite_t c2 hf
        refine lv_iconst (v := 0) hx hb dX0_isUnder_34 kI_0 ?_
        exact hret _ _ _ _ _ _ (Or.inr (Or.inl rfl)) (Option.some.inj hf) hP hS dX0_isUnder_35
      · have hf := ite_f c2 hf
        refine lv_iload_n hx hb dX0_isUnder_15 rfl (lv_at hl 1 rfl) ?_
        refine lv_iload_n hx hb dX0_isUnder_16 rfl (lv_at hl 0 rfl) ?_
        refine lv_icmp_ne (tgt := 22) hx hb dX0_isUnder_17 (by decide) (fun c3 => ?_) (fun c3 => ?_)
        · have hf := ite_f c3 hf
          refine va_getsN hx hb (xs_z2 hk) hS hown (va_Nw.use rfl (xs_n2 hk)) (fun _ h9 => h9) dX0_isUnder_22 ?_
          refine lv_iload_n hx hb dX0_isUnder_25 rfl (lv_at hl 1 rfl) ?_
          obtain ⟨c4, hf⟩ := gd_e hf
          refine va_ti hx hb (xs_t2 hk) hS (inb_in c4) rfl dX0_isUnder_26 ?_
          obtain ⟨x5, ex5, hf⟩ := lt_e hf
          refine lv_nm ex5 ?_
          refine lv_istore_n (lv' := [(2, .int x5), (1, .int x.1), (3, .int x.2.2.1)]) hx hb dX0_isUnder_27 rfl hl (by decide) rfl (fun ls hl => ?_)
          obtain ⟨x6, ex6, hf⟩ := lt_e hf
          refine lv_iinc (v := x6) (lv' := [(3, .int x6), (2, .int x5), (1, .int x.1)]) hx hb dX0_isUnder_28 hl (k := 2) rfl ((congrArg (fun z => x.2.2.1 + z) kI_1).trans ex6.symm) (by decide) rfl (fun ls hl => ?_)
          refine lv_goto (tgt := 4) hx hb dX0_isUnder_31 (by decide) ?_
          exact hh4 (x.1, x5, x6, x.2.2.2) hf _ _ _ hP hS (lv_sub hl [2, 1, 0] rfl)
        · have hf := ite_t c3 hf
          refine lv_iconst (v := 1) hx hb dX0_isUnder_20 kI_1 ?_
          exact hret _ _ _ _ _ _ (Or.inr (Or.inr rfl)) (Option.some.inj hf) hP hS dX0_isUnder_21
  unfold x_X0_isUnder at hf
  refine lv_iload_n hx hb dX0_isUnder_0 rfl (lv_at hl 0 rfl) ?_
  refine lv_istore_n (lv' := [(2, .int a0), (0, .int a0), (1, .int a1)]) hx hb dX0_isUnder_1 rfl hl (by decide) rfl (fun ls hl => ?_)
  refine lv_iconst (v := 0) hx hb dX0_isUnder_2 kI_0 ?_
  refine lv_istore_n (lv' := [(3, .int (0 : Int32)), (2, .int a0), (0, .int a0), (1, .int a1)]) hx hb dX0_isUnder_3 rfl hl (by decide) rfl (fun ls hl => ?_)
  exact wL4 N (a1, a0, (0 : Int32), g) hf _ _ _ hP hS (lv_sub hl [3, 1, 0] rfl)
abbrev rm_X1_clear_7 : Room := { frames := 1, cells := 0, slots := 0, locals := 60 }
set_option maxRecDepth 100000 in
theorem t_X1_clear_7 (l : Launch) (v : Ev) (N : Nat) (g : Sg) (res : Sg) (hf : x_X1_clear_7 N g = some res) : Cv l yX1_clear cX1_clear 1 rm_X1_clear_7 pX v [.ref (zA v 7)] g res := by
  refine ze_v (by decide +kernel) (Nat.le_of_ble_eq_true rfl) ?_
  intro p e s m args below meth c Q ls hcx hret hP hl
  obtain ⟨hx, hb, hml, hown, hts, hk⟩ := hcx
  have hown : s.vm.findClass RX1 = some m.cls := hown
  have hS : va_S (An nX v) s.heap s.heap [] := va_S.rf
  have hl : lv_has ls 1 [(0, .ref (zA v 7))] := hl
  unfold x_X1_clear_7 at hf
  refine lv_aload_n hx hb dX1_clear_0 rfl (lv_at hl 0 rfl) ?_
  refine lv_iconst (v := -1) hx hb dX1_clear_1 kI_m1 ?_
  refine va_put (D := zD v) (ci := 0) (v := .int (-1 : Int32)) (ty := .int) (C := RX1) (T := TX1) (N := 2) hx hb hts iX1 tyX1 tyX1_ok nmX1 hown hk.1 hP (zw_D okX hk _) hS 7 rfl rfl 0 (by decide) (hts _ fl_X1_9) (fun _ h9 => h9) rfl pd_I rfl rfl (Nat.le_of_ble_eq_true rfl) dX1_clear_2 (fun H locs hP1 _ hS => ?_)
  have hP : va_P (zD v) vwCl (pX.1 v (up g 7 (upd (g 7) 0 (-1 : Int32)))) H := hP1
  obtain ⟨g1, eg1, hf⟩ := lt_e hf
  rw [← eg1] at hP
  refine lv_aload_n hx hb dX1_clear_5 rfl (lv_at hl 0 rfl) ?_
  refine lv_ldc (v := 2147483647) hx hb hown (hts _ kc_X1_17) dX1_clear_6 ?_
  refine va_put (D := zD v) (ci := 0) (v := .int (2147483647 : Int32)) (ty := .int) (C := RX1) (T := TX1) (N := 2) hx hb hts iX1 tyX1 tyX1_ok nmX1 hown hk.1 hP (zw_D okX hk _) hS 7 rfl rfl 1 (by decide) (hts _ fl_X1_18) (fun _ h9 => h9) rfl pd_I rfl rfl (Nat.le_of_ble_eq_true rfl) dX1_clear_8 (fun H locs hP1 _ hS => ?_)
  have hP : va_P (zD v) vwCl (pX.1 v (up g1 7 (upd (g1 7) 1 (2147483647 : Int32)))) H := hP1
  obtain ⟨g2, eg2, hf⟩ := lt_e hf
  rw [← eg2] at hP
  exact hret _ _ _ _ _ (Option.some.inj hf) hP hS dX1_clear_11
abbrev rm_X1_clear_8 : Room := { frames := 1, cells := 0, slots := 0, locals := 60 }
set_option maxRecDepth 100000 in
theorem t_X1_clear_8 (l : Launch) (v : Ev) (N : Nat) (g : Sg) (res : Sg) (hf : x_X1_clear_8 N g = some res) : Cv l yX1_clear cX1_clear 1 rm_X1_clear_8 pX v [.ref (zA v 8)] g res := by
  refine ze_v (by decide +kernel) (Nat.le_of_ble_eq_true rfl) ?_
  intro p e s m args below meth c Q ls hcx hret hP hl
  obtain ⟨hx, hb, hml, hown, hts, hk⟩ := hcx
  have hown : s.vm.findClass RX1 = some m.cls := hown
  have hS : va_S (An nX v) s.heap s.heap [] := va_S.rf
  have hl : lv_has ls 1 [(0, .ref (zA v 8))] := hl
  unfold x_X1_clear_8 at hf
  refine lv_aload_n hx hb dX1_clear_0 rfl (lv_at hl 0 rfl) ?_
  refine lv_iconst (v := -1) hx hb dX1_clear_1 kI_m1 ?_
  refine va_put (D := zD v) (ci := 0) (v := .int (-1 : Int32)) (ty := .int) (C := RX1) (T := TX1) (N := 2) hx hb hts iX1 tyX1 tyX1_ok nmX1 hown hk.1 hP (zw_D okX hk _) hS 8 rfl rfl 0 (by decide) (hts _ fl_X1_9) (fun _ h9 => h9) rfl pd_I rfl rfl (Nat.le_of_ble_eq_true rfl) dX1_clear_2 (fun H locs hP1 _ hS => ?_)
  have hP : va_P (zD v) vwCl (pX.1 v (up g 8 (upd (g 8) 0 (-1 : Int32)))) H := hP1
  obtain ⟨g1, eg1, hf⟩ := lt_e hf
  rw [← eg1] at hP
  refine lv_aload_n hx hb dX1_clear_5 rfl (lv_at hl 0 rfl) ?_
  refine lv_ldc (v := 2147483647) hx hb hown (hts _ kc_X1_17) dX1_clear_6 ?_
  refine va_put (D := zD v) (ci := 0) (v := .int (2147483647 : Int32)) (ty := .int) (C := RX1) (T := TX1) (N := 2) hx hb hts iX1 tyX1 tyX1_ok nmX1 hown hk.1 hP (zw_D okX hk _) hS 8 rfl rfl 1 (by decide) (hts _ fl_X1_18) (fun _ h9 => h9) rfl pd_I rfl rfl (Nat.le_of_ble_eq_true rfl) dX1_clear_8 (fun H locs hP1 _ hS => ?_)
  have hP : va_P (zD v) vwCl (pX.1 v (up g1 8 (upd (g1 8) 1 (2147483647 : Int32)))) H := hP1
  obtain ⟨g2, eg2, hf⟩ := lt_e hf
  rw [← eg2] at hP
  exact hret _ _ _ _ _ (Option.some.inj hf) hP hS dX1_clear_11
abbrev rm_X1_clear_9 : Room := { frames := 1, cells := 0, slots := 0, locals := 60 }
set_option maxRecDepth 100000 in
theorem t_X1_clear_9 (l : Launch) (v : Ev) (N : Nat) (g : Sg) (res : Sg) (hf : x_X1_clear_9 N g = some res) : Cv l yX1_clear cX1_clear 1 rm_X1_clear_9 pX v [.ref (zA v 9)] g res := by
  refine ze_v (by decide +kernel) (Nat.le_of_ble_eq_true rfl) ?_
  intro p e s m args below meth c Q ls hcx hret hP hl
  obtain ⟨hx, hb, hml, hown, hts, hk⟩ := hcx
  have hown : s.vm.findClass RX1 = some m.cls := hown
  have hS : va_S (An nX v) s.heap s.heap [] := va_S.rf
  have hl : lv_has ls 1 [(0, .ref (zA v 9))] := hl
  unfold x_X1_clear_9 at hf
  refine lv_aload_n hx hb dX1_clear_0 rfl (lv_at hl 0 rfl) ?_
  refine lv_iconst (v := -1) hx hb dX1_clear_1 kI_m1 ?_
  refine va_put (D := zD v) (ci := 0) (v := .int (-1 : Int32)) (ty := .int) (C := RX1) (T := TX1) (N := 2) hx hb hts iX1 tyX1 tyX1_ok nmX1 hown hk.1 hP (zw_D okX hk _) hS 9 rfl rfl 0 (by decide) (hts _ fl_X1_9) (fun _ h9 => h9) rfl pd_I rfl rfl (Nat.le_of_ble_eq_true rfl) dX1_clear_2 (fun H locs hP1 _ hS => ?_)
  have hP : va_P (zD v) vwCl (pX.1 v (up g 9 (upd (g 9) 0 (-1 : Int32)))) H := hP1
  obtain ⟨g1, eg1, hf⟩ := lt_e hf
  rw [← eg1] at hP
  refine lv_aload_n hx hb dX1_clear_5 rfl (lv_at hl 0 rfl) ?_
  refine lv_ldc (v := 2147483647) hx hb hown (hts _ kc_X1_17) dX1_clear_6 ?_
  refine va_put (D := zD v) (ci := 0) (v := .int (2147483647 : Int32)) (ty := .int) (C := RX1) (T := TX1) (N := 2) hx hb hts iX1 tyX1 tyX1_ok nmX1 hown hk.1 hP (zw_D okX hk _) hS 9 rfl rfl 1 (by decide) (hts _ fl_X1_18) (fun _ h9 => h9) rfl pd_I rfl rfl (Nat.le_of_ble_eq_true rfl) dX1_clear_8 (fun H locs hP1 _ hS => ?_)
  have hP : va_P (zD v) vwCl (pX.1 v (up g1 9 (upd (g1 9) 1 (2147483647 : Int32)))) H := hP1
  obtain ⟨g2, eg2, hf⟩ := lt_e hf
  rw [← eg2] at hP
  exact hret _ _ _ _ _ (Option.some.inj hf) hP hS dX1_clear_11
abbrev rm_X1_offer_7 : Room := { frames := 1, cells := 0, slots := 0, locals := 60 }
set_option maxRecDepth 100000 in
theorem t_X1_offer_7 (l : Launch) (v : Ev) (N : Nat) (a1 : Int32) (a2 : Int32) (g : Sg) (res : Sg) (hf : x_X1_offer_7 N a1 a2 g = some res) : Cv l yX1_offer cX1_offer 3 rm_X1_offer_7 pX v [.ref (zA v 7), .int a1, .int a2] g res := by
  refine ze_v (by decide +kernel) (Nat.le_of_ble_eq_true rfl) ?_
  intro p e s m args below meth c Q ls hcx hret hP hl
  obtain ⟨hx, hb, hml, hown, hts, hk⟩ := hcx
  have hown : s.vm.findClass RX1 = some m.cls := hown
  have hS : va_S (An nX v) s.heap s.heap [] := va_S.rf
  have hl : lv_has ls 3 [(0, .ref (zA v 7)), (1, .int a1), (2, .int a2)] := hl
  unfold x_X1_offer_7 at hf
  refine lv_iload_n hx hb dX1_offer_0 rfl (lv_at hl 2 rfl) ?_
  refine lv_aload_n hx hb dX1_offer_1 rfl (lv_at hl 0 rfl) ?_
  refine va_get (D := zD v) (ci := 0) (v := .int (g 7 1)) (C := RX1) (T := TX1) (N := 2) hx hb hts iX1 hown hk.1 hP 7 rfl rfl 1 (by decide) (hts _ fl_X1_18) (fun _ h9 => h9) rfl dX1_offer_2 ?_
  refine lv_icmp_ge (tgt := 18) hx hb dX1_offer_5 (by decide) (fun c1 => ?_) (fun c1 => ?_)
  · have hf := ite_t c1 hf
    exact hret _ _ _ _ _ (Option.some.inj hf) hP hS dX1_offer_18
  · have hf := ite_f c1 hf
    refine lv_aload_n hx hb dX1_offer_8 rfl (lv_at hl 0 rfl) ?_
    refine lv_iload_n hx hb dX1_offer_9 rfl (lv_at hl 1 rfl) ?_
    refine va_put (D := zD v) (ci := 0) (v := .int a1) (ty := .int) (C := RX1) (T := TX1) (N := 2) hx hb hts iX1 tyX1 tyX1_ok nmX1 hown hk.1 hP (zw_D okX hk _) hS 7 rfl rfl 0 (by decide) (hts _ fl_X1_9) (fun _ h9 => h9) rfl pd_I rfl rfl (Nat.le_of_ble_eq_true rfl) dX1_offer_10 (fun H locs hP1 _ hS => ?_)
    have hP : va_P (zD v) vwCl (pX.1 v (up g 7 (upd (g 7) 0 a1))) H := hP1
    obtain ⟨g2, eg2, hf⟩ := lt_e hf
    rw [← eg2] at hP
    refine lv_aload_n hx hb dX1_offer_13 rfl (lv_at hl 0 rfl) ?_
    refine lv_iload_n hx hb dX1_offer_14 rfl (lv_at hl 2 rfl) ?_
    refine va_put (D := zD v) (ci := 0) (v := .int a2) (ty := .int) (C := RX1) (T := TX1) (N := 2) hx hb hts iX1 tyX1 tyX1_ok nmX1 hown hk.1 hP (zw_D okX hk _) hS 7 rfl rfl 1 (by decide) (hts _ fl_X1_18) (fun _ h9 => h9) rfl pd_I rfl rfl (Nat.le_of_ble_eq_true rfl) dX1_offer_15 (fun H locs hP1 _ hS => ?_)
    have hP : va_P (zD v) vwCl (pX.1 v (up g2 7 (upd (g2 7) 1 a2))) H := hP1
    obtain ⟨g3, eg3, hf⟩ := lt_e hf
    rw [← eg3] at hP
    exact hret _ _ _ _ _ (Option.some.inj hf) hP hS dX1_offer_18
abbrev rm_X1_offer_8 : Room := { frames := 1, cells := 0, slots := 0, locals := 60 }
set_option maxRecDepth 100000 in
theorem t_X1_offer_8 (l : Launch) (v : Ev) (N : Nat) (a1 : Int32) (a2 : Int32) (g : Sg) (res : Sg) (hf : x_X1_offer_8 N a1 a2 g = some res) : Cv l yX1_offer cX1_offer 3 rm_X1_offer_8 pX v [.ref (zA v 8), .int a1, .int a2] g res := by
  refine ze_v (by decide +kernel) (Nat.le_of_ble_eq_true rfl) ?_
  intro p e s m args below meth c Q ls hcx hret hP hl
  obtain ⟨hx, hb, hml, hown, hts, hk⟩ := hcx
  have hown : s.vm.findClass RX1 = some m.cls := hown
  have hS : va_S (An nX v) s.heap s.heap [] := va_S.rf
  have hl : lv_has ls 3 [(0, .ref (zA v 8)), (1, .int a1), (2, .int a2)] := hl
  unfold x_X1_offer_8 at hf
  refine lv_iload_n hx hb dX1_offer_0 rfl (lv_at hl 2 rfl) ?_
  refine lv_aload_n hx hb dX1_offer_1 rfl (lv_at hl 0 rfl) ?_
  refine va_get (D := zD v) (ci := 0) (v := .int (g 8 1)) (C := RX1) (T := TX1) (N := 2) hx hb hts iX1 hown hk.1 hP 8 rfl rfl 1 (by decide) (hts _ fl_X1_18) (fun _ h9 => h9) rfl dX1_offer_2 ?_
  refine lv_icmp_ge (tgt := 18) hx hb dX1_offer_5 (by decide) (fun c1 => ?_) (fun c1 => ?_)
  · have hf := ite_t c1 hf
    exact hret _ _ _ _ _ (Option.some.inj hf) hP hS dX1_offer_18
  · have hf := ite_f c1 hf
    refine lv_aload_n hx hb dX1_offer_8 rfl (lv_at hl 0 rfl) ?_
    refine lv_iload_n hx hb dX1_offer_9 rfl (lv_at hl 1 rfl) ?_
    refine va_put (D := zD v) (ci := 0) (v := .int a1) (ty := .int) (C := RX1) (T := TX1) (N := 2) hx hb hts iX1 tyX1 tyX1_ok nmX1 hown hk.1 hP (zw_D okX hk _) hS 8 rfl rfl 0 (by decide) (hts _ fl_X1_9) (fun _ h9 => h9) rfl pd_I rfl rfl (Nat.le_of_ble_eq_true rfl) dX1_offer_10 (fun H locs hP1 _ hS => ?_)
    have hP : va_P (zD v) vwCl (pX.1 v (up g 8 (upd (g 8) 0 a1))) H := hP1
    obtain ⟨g2, eg2, hf⟩ := lt_e hf
    rw [← eg2] at hP
    refine lv_aload_n hx hb dX1_offer_13 rfl (lv_at hl 0 rfl) ?_
    refine lv_iload_n hx hb dX1_offer_14 rfl (lv_at hl 2 rfl) ?_
    refine va_put (D := zD v) (ci := 0) (v := .int a2) (ty := .int) (C := RX1) (T := TX1) (N := 2) hx hb hts iX1 tyX1 tyX1_ok nmX1 hown hk.1 hP (zw_D okX hk _) hS 8 rfl rfl 1 (by decide) (hts _ fl_X1_18) (fun _ h9 => h9) rfl pd_I rfl rfl (Nat.le_of_ble_eq_true rfl) dX1_offer_15 (fun H locs hP1 _ hS => ?_)
    have hP : va_P (zD v) vwCl (pX.1 v (up g2 8 (upd (g2 8) 1 a2))) H := hP1
    obtain ⟨g3, eg3, hf⟩ := lt_e hf
    rw [← eg3] at hP
    exact hret _ _ _ _ _ (Option.some.inj hf) hP hS dX1_offer_18
abbrev rm_X1_offer_9 : Room := { frames := 1, cells := 0, slots := 0, locals := 60 }
set_option maxRecDepth 100000 in
theorem t_X1_offer_9 (l : Launch) (v : Ev) (N : Nat) (a1 : Int32) (a2 : Int32) (g : Sg) (res : Sg) (hf : x_X1_offer_9 N a1 a2 g = some res) : Cv l yX1_offer cX1_offer 3 rm_X1_offer_9 pX v [.ref (zA v 9), .int a1, .int a2] g res := by
  refine ze_v (by decide +kernel) (Nat.le_of_ble_eq_true rfl) ?_
  intro p e s m args below meth c Q ls hcx hret hP hl
  obtain ⟨hx, hb, hml, hown, hts, hk⟩ := hcx
  have hown : s.vm.findClass RX1 = some m.cls := hown
  have hS : va_S (An nX v) s.heap s.heap [] := va_S.rf
  have hl : lv_has ls 3 [(0, .ref (zA v 9)), (1, .int a1), (2, .int a2)] := hl
  unfold x_X1_offer_9 at hf
  refine lv_iload_n hx hb dX1_offer_0 rfl (lv_at hl 2 rfl) ?_
  refine lv_aload_n hx hb dX1_offer_1 rfl (lv_at hl 0 rfl) ?_
  refine va_get (D := zD v) (ci := 0) (v := .int (g 9 1)) (C := RX1) (T := TX1) (N := 2) hx hb hts iX1 hown hk.1 hP 9 rfl rfl 1 (by decide) (hts _ fl_X1_18) (fun _ h9 => h9) rfl dX1_offer_2 ?_
  refine lv_icmp_ge (tgt := 18) hx hb dX1_offer_5 (by decide) (fun c1 => ?_) (fun c1 => ?_)
  · have hf := ite_t c1 hf
    exact hret _ _ _ _ _ (Option.some.inj hf) hP hS dX1_offer_18
  · have hf := ite_f c1 hf
    refine lv_aload_n hx hb dX1_offer_8 rfl (lv_at hl 0 rfl) ?_
    refine lv_iload_n hx hb dX1_offer_9 rfl (lv_at hl 1 rfl) ?_
    refine va_put (D := zD v) (ci := 0) (v := .int a1) (ty := .int) (C := RX1) (T := TX1) (N := 2) hx hb hts iX1 tyX1 tyX1_ok nmX1 hown hk.1 hP (zw_D okX hk _) hS 9 rfl rfl 0 (by decide) (hts _ fl_X1_9) (fun _ h9 => h9) rfl pd_I rfl rfl (Nat.le_of_ble_eq_true rfl) dX1_offer_10 (fun H locs hP1 _ hS => ?_)
    have hP : va_P (zD v) vwCl (pX.1 v (up g 9 (upd (g 9) 0 a1))) H := hP1
    obtain ⟨g2, eg2, hf⟩ := lt_e hf
    rw [← eg2] at hP
    refine lv_aload_n hx hb dX1_offer_13 rfl (lv_at hl 0 rfl) ?_
    refine lv_iload_n hx hb dX1_offer_14 rfl (lv_at hl 2 rfl) ?_
    refine va_put (D := zD v) (ci := 0) (v := .int a2) (ty := .int) (C := RX1) (T := TX1) (N := 2) hx hb hts iX1 tyX1 tyX1_ok nmX1 hown hk.1 hP (zw_D okX hk _) hS 9 rfl rfl 1 (by decide) (hts _ fl_X1_18) (fun _ h9 => h9) rfl pd_I rfl rfl (Nat.le_of_ble_eq_true rfl) dX1_offer_15 (fun H locs hP1 _ hS => ?_)
    have hP : va_P (zD v) vwCl (pX.1 v (up g2 9 (upd (g2 9) 1 a2))) H := hP1
    obtain ⟨g3, eg3, hf⟩ := lt_e hf
    rw [← eg3] at hP
    exact hret _ _ _ _ _ (Option.some.inj hf) hP hS dX1_offer_18
