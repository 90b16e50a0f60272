/-! THE CLAIM OUT OF ONE WALK OF THE LAW'S BODY. Your part is whole_start (and what it stands on); all else here is the same for every law, but numbers. -/
def R_law : String := "HalfASizeLaw"
def lw_P (b : Addr) (xs : List Int32) (args : Array Value) (s : State) : Prop := args = #[.ref b] ∧ s.IntsAt b xs ∧ xs.length ≤ 3072 ∧ (Jvm.Cond.and given_1 narrow_1).before args s = true
def lw_Q (_ : Array Value) (s : State) (o : Outcome) (t : State) : Prop := o = .returned (some (.int 1)) ∧ Framed s o t [] 600000 7302250
def lw_Z (below : List Frame) (a : Array Value) (s : State) : State → Prop := fun t => ∃ o, t.status = .running ∧ Ended t below o ∧ lw_Q a s o t
/-- the law's own end, with 1 on the stack, nothing written that was there before, its room as the claim has it -/
theorem lw_ret {p : Program} {l : Launch} {e : Env} {s : State} {m : MethodId} {below : List Frame} {meth : Method} {c : Code} {b : Nat} (hx : p.tables.exec = Jvm.exec) (hb : c.code = code) (hr : meth.sig.returnType = ret) (hlocks : meth.locks = false) {pc : Nat} {H : Heap} {ls : Array Slot} (hdg : decode code pc = .ok (.ireturn, 1)) : W p l e room_1 s m #[Value.ref b] below meth c H [] 600000 7302250 (lw_Z below #[Value.ref b] s) (F0 m pc ls [.int 1]) := by
  intro T hT X
  obtain ⟨fs, hret, hrun, hended, hW, hframe⟩ := X.leave (v := some (.int 1)) (hlocks := hlocks) (fun h => by rw [hr] at h; cases h)
  have hmeth' : T.vm.method? m = some meth := X.method'
  refine ⟨T.setFrames fs, ?_, .returned (some (.int 1)), hrun, hended, rfl, ⟨_, rfl⟩, hW, hframe⟩
  jvm_step X.here [X.here.top, hx, hb, hdg, hmeth', hr, ret, narrow_b1]
  (try refine ⟨rfl, ?_⟩); (try refine ⟨rfl, ?_⟩)
  first | (intro acts; rw [hret _ acts rfl rfl rfl]) | rw [hret _ _ rfl rfl rfl]
  exact Steps.refl _
/-- what holds at the law's entry: the machine, the code, the tables' words (any of lw_tbl by 'hts w (by decide +kernel)'), the script of L ints xs at the cell b, what the Statement gives of the start (any of its parts by flat_of_before) -/
def lw_At (p : Program) (s : State) (m : MethodId) (meth : Method) (c : Code) (b L : Nat) (xs : Nat → Int32) : Prop :=
  p.tables.exec = Jvm.exec ∧ c.code = code ∧ meth.sig.returnType = ret ∧ c.maxLocals = 4 ∧ s.vm.findClass R_law = some m.cls ∧ (∀ w ∈ lw_tbl, w.before #[Value.ref b] s = true) ∧ va_X b L xs s s.heap ∧ b < s.heap.size ∧ meth.locks = false ∧ (Jvm.Cond.and given_1 narrow_1).before #[Value.ref b] s = true
theorem ins_X7 : Cond.instantiable RX7 11 ∈ WL := wl (by decide +kernel) rfl
theorem ins_X8 : Cond.instantiable RX8 55 ∈ WL := wl (by decide +kernel) rfl
theorem df_X7 : ∀ j, j < 11 → defaultValue (tyX7 j) = vp_V [.null, .null, .int 0, .null, .null, .null, .null, .null, .null, .null, .null] j := by decide +kernel
theorem ini_X7 : Cond.initialized RX7 ∈ WL := wl (by decide +kernel) rfl
theorem lim_X7 : Cond.instanceMethod yX7_init ∈ WL := wl (by decide +kernel) rfl
theorem df_X8 : ∀ j, j < 55 → defaultValue (tyX8 j) = vp_V [.int 0, .null, .null, .int 0, .int 0, .null, .int 0, .int 0, .int 0, .int 0, .null, .null, .null, .null, .null, .int 0, .int 0, .int 0, .int 0, .int 0, .int 0, .int 0, .int 0, .int 0, .int 0, .int 0, .int 0, .long 0, .int 0, .int 0, .int 0, .null, .null, .null, .int 0, .null, .null, .int 0, .int 0, .null, .int 0, .int 0, .null, .int 0, .null, .null, .int 0, .int 0, .int 0, .int 0, .int 0, .null, .null, .null, .null] j := by decide +kernel
theorem ini_X8 : Cond.initialized RX8 ∈ WL := wl (by decide +kernel) rfl
theorem lim_X8 : Cond.instanceMethod yX8_init ∈ WL := wl (by decide +kernel) rfl
theorem lgi_X7 : ∀ w ∈ (.code yX7_init cX7_init 2 none :: WL), w ∈ WL := fun w hw => (List.mem_cons.mp hw).elim (fun e => e ▸ wl (by decide +kernel) rfl) id
theorem lgh_X7 : (yX7_init.cls ≠ "java/lang/invoke/MethodHandle" ∧ yX7_init.cls ≠ "java/lang/invoke/VarHandle" ∧ (parseMethodDescriptor yX7_init.desc).map (fun d => d.parameters.length) = some 0) := by decide +kernel
theorem lgi_X8 : ∀ w ∈ (.code yX8_init cX8_init 1 none :: WL), w ∈ WL := fun w hw => (List.mem_cons.mp hw).elim (fun e => e ▸ wl (by decide +kernel) rfl) id
theorem lgh_X8 : (yX8_init.cls ≠ "java/lang/invoke/MethodHandle" ∧ yX8_init.cls ≠ "java/lang/invoke/VarHandle" ∧ (parseMethodDescriptor yX8_init.desc).map (fun d => d.parameters.length) = some 0) := by decide +kernel
theorem lcl_7 : Cond.classLink RL 7 RX7 ∈ WL := wl (by decide +kernel) rfl
theorem lcl_10 : Cond.classLink RL 10 RX8 ∈ WL := wl (by decide +kernel) rfl
theorem lml_9 : Cond.methodLink RL 9 yX7_init ∈ WL := wl (by decide +kernel) rfl
theorem lml_12 : Cond.methodLink RL 12 yX8_init ∈ WL := wl (by decide +kernel) rfl
def fc_g : List Cond := flatC (Jvm.Cond.and given_1 narrow_1)
theorem fa_LOW : Cond.arrayOf (Term.static "HalfASize" "LOW" "[I") .int ∈ fc_g := by decide +kernel
theorem fb_LOW : Cond.eq (.length (Term.static "HalfASize" "LOW" "[I")) (.int (Int32.ofNat 7)) ∈ fc_g := by decide +kernel
theorem fe_LOW : ∀ j, j < 7 → Cond.eq (.elem (Term.static "HalfASize" "LOW" "[I") (.int (Int32.ofNat j))) (.int (tLOW.getD j 0)) ∈ fc_g := by decide +kernel
theorem fs_LOW : Cond.laysStatic "HalfASize" "LOW" "[I" ∈ lw_tbl := by decide +kernel
theorem fa_HIGH : Cond.arrayOf (Term.static "HalfASize" "HIGH" "[I") .int ∈ fc_g := by decide +kernel
theorem fb_HIGH : Cond.eq (.length (Term.static "HalfASize" "HIGH" "[I")) (.int (Int32.ofNat 7)) ∈ fc_g := by decide +kernel
theorem fe_HIGH : ∀ j, j < 7 → Cond.eq (.elem (Term.static "HalfASize" "HIGH" "[I") (.int (Int32.ofNat j))) (.int (tHIGH.getD j 0)) ∈ fc_g := by decide +kernel
theorem fs_HIGH : Cond.laysStatic "HalfASize" "HIGH" "[I" ∈ lw_tbl := by decide +kernel
theorem fa_UNDER : Cond.arrayOf (Term.static "HalfASize" "UNDER" "[I") .int ∈ fc_g := by decide +kernel
theorem fb_UNDER : Cond.eq (.length (Term.static "HalfASize" "UNDER" "[I")) (.int (Int32.ofNat 6)) ∈ fc_g := by decide +kernel
theorem fe_UNDER : ∀ j, j < 6 → Cond.eq (.elem (Term.static "HalfASize" "UNDER" "[I") (.int (Int32.ofNat j))) (.int (tUNDER.getD j 0)) ∈ fc_g := by decide +kernel
theorem fs_UNDER : Cond.laysStatic "HalfASize" "UNDER" "[I" ∈ lw_tbl := by decide +kernel
theorem fa_BOUNDS : Cond.arrayOf (Term.static "HalfASize" "BOUNDS" "[I") .int ∈ fc_g := by decide +kernel
theorem fb_BOUNDS : Cond.eq (.length (Term.static "HalfASize" "BOUNDS" "[I")) (.int (Int32.ofNat 24)) ∈ fc_g := by decide +kernel
theorem fe_BOUNDS : ∀ j, j < 24 → Cond.eq (.elem (Term.static "HalfASize" "BOUNDS" "[I") (.int (Int32.ofNat j))) (.int (tBOUNDS.getD j 0)) ∈ fc_g := by decide +kernel
theorem fs_BOUNDS : Cond.laysStatic "HalfASize" "BOUNDS" "[I" ∈ lw_tbl := by decide +kernel
theorem fs_cs : Cond.laysStatic "java/lang/String" "COMPACT_STRINGS" "Z" ∈ lw_tbl := by decide +kernel
theorem fs_si : Cond.laysStatic "jdk/internal/util/Preconditions" "SIOOBE_FORMATTER" "Ljava/util/function/BiFunction;" ∈ lw_tbl := by decide +kernel
theorem fe_cs : Cond.eq (.static "java/lang/String" "COMPACT_STRINGS" "Z") (.int 1) ∈ fc_g := by decide +kernel
theorem fe_si : Cond.isRef (.static "jdk/internal/util/Preconditions" "SIOOBE_FORMATTER" "Ljava/util/function/BiFunction;") ∈ fc_g := by decide +kernel
theorem fi_h : Cond.initialized "HalfASize" ∈ lw_tbl := by decide +kernel
theorem fi_s : Cond.initialized "java/lang/String" ∈ lw_tbl := by decide +kernel
theorem fi_p : Cond.initialized "jdk/internal/util/Preconditions" ∈ lw_tbl := by decide +kernel
def tmS : Nat → Term := fun i => match i with
  | 0 => .string "HalfASize" 64
  | 1 => .string "HalfASize$Reader" 60
  | _ => .string "HalfASize$Reader" 73
theorem ft_len : ∀ i, i < 3 → ([57, 8, 72] : List Nat).getD i 0 < 2 ^ 31 := by decide +kernel
theorem ft_ex : ∀ i, i < 3 → Cond.exactly (tmS i) "java/lang/String" ∈ fc_g := by decide +kernel
theorem ft_co : ∀ i, i < 3 → Cond.eq (.field (tmS i) "java/lang/String" "coder" "B") (.int 0) ∈ fc_g := by decide +kernel
theorem ft_ar : ∀ i, i < 3 → Cond.arrayOf (.field (tmS i) "java/lang/String" "value" "[B") .byte ∈ fc_g := by decide +kernel
theorem ft_le : ∀ i, i < 3 → Cond.eq (.length (.field (tmS i) "java/lang/String" "value" "[B")) (.int (Int32.ofNat (([57, 8, 72] : List Nat).getD i 0))) ∈ fc_g := by decide +kernel
theorem ft_e0 : ∀ j, j < 57 → fc_g[69 + j]? = some (Cond.eq (.elem (.field (tmS 0) "java/lang/String" "value" "[B") (.int (Int32.ofNat j))) (.int (byRULE.getD j 0))) := by decide +kernel
theorem ft_e1 : ∀ j, j < 8 → fc_g[130 + j]? = some (Cond.eq (.elem (.field (tmS 1) "java/lang/String" "value" "[B") (.int (Int32.ofNat j))) (.int (bySIGNS.getD j 0))) := by decide +kernel
theorem ft_e2 : ∀ j, j < 72 → fc_g[143 + j]? = some (Cond.eq (.elem (.field (tmS 2) "java/lang/String" "value" "[B") (.int (Int32.ofNat j))) (.int (byWORDS.getD j 0))) := by decide +kernel
theorem ft_el : ∀ i, i < 3 → ∀ j, j < ([57, 8, 72] : List Nat).getD i 0 → Cond.eq (.elem (.field (tmS i) "java/lang/String" "value" "[B") (.int (Int32.ofNat j))) (.int ((([byRULE, bySIGNS, byWORDS] : List (List Int32)).getD i []).getD j 0)) ∈ fc_g := by
  intro i hi j hj
  match i, hi with
  | 0, _ => exact List.mem_of_getElem? (ft_e0 j hj)
  | 1, _ => exact List.mem_of_getElem? (ft_e1 j hj)
  | 2, _ => exact List.mem_of_getElem? (ft_e2 j hj)
  | n + 3, h => omega
theorem ft_ne : ∀ i, i < 3 → ∀ j, j < 3 → i ≠ j → (Cond.not (Cond.eq (tmS i) (tmS j)) ∈ fc_g ∨ Cond.not (Cond.eq (tmS j) (tmS i)) ∈ fc_g) := by decide +kernel
theorem ft_r0 : Cond.stringRef "HalfASize" 64 txRULE ∈ lw_tbl := by decide +kernel
theorem ft_r1 : Cond.stringRef "HalfASize$Reader" 60 txSIGNS ∈ lw_tbl := by decide +kernel
theorem ft_r2 : Cond.stringRef "HalfASize$Reader" 73 txWORDS ∈ lw_tbl := by decide +kernel
theorem fn_0 : Cond.methodLinkNest "HalfASize" 9 yX5_init "HalfASize" ∈ lw_tbl := by decide +kernel
theorem fn_1 : Cond.methodLinkNest "HalfASize" 21 yX2_init "HalfASize" ∈ lw_tbl := by decide +kernel
theorem fn_2 : Cond.methodLinkNest "HalfASize" 28 yX6_init "HalfASize" ∈ lw_tbl := by decide +kernel
theorem fn_3 : Cond.methodLinkNest "HalfASize" 35 yX3_init "HalfASize" ∈ lw_tbl := by decide +kernel
theorem fn_4 : Cond.methodLinkNest "HalfASize" 42 yX4_init "HalfASize" ∈ lw_tbl := by decide +kernel
theorem fn_5 : Cond.methodLinkNest "HalfASize" 53 yX1_init "HalfASize" ∈ lw_tbl := by decide +kernel
theorem fn_6 : Cond.fieldLinkNest "HalfASize$Kinds" 18 "HalfASize" "BOUNDS" "[I" "HalfASize" ∈ lw_tbl := by decide +kernel
theorem fn_7 : Cond.fieldLinkNest "HalfASize$Kinds" 30 "HalfASize" "UNDER" "[I" "HalfASize" ∈ lw_tbl := by decide +kernel
theorem fo_a : Cond.arrayOver (.array .int) ∈ lw_tbl := by decide +kernel
theorem vk_S_cong {N : Nat} {len : List Nat} {byt : List (List Int32)} {k1 k2 v1 v2 : Nat → Nat} {A : Nat → Prop} {U : State} {H : Heap} (h : vk_S N len byt k1 v1 A U H) (e1 : ∀ i, i < N → k2 i = k1 i) (e2 : ∀ i, i < N → v2 i = v1 i) : vk_S N len byt k2 v2 A U H :=
  ⟨fun i hi => by rw [e1 i hi, e2 i hi]; exact h.1 i hi, fun i j hi hj e => h.2 i j hi hj (by rw [← e1 i hi, ← e1 j hj]; exact e)⟩
set_option maxRecDepth 100000 in
theorem whole_start {p : Program} {e : Env} {s : State} {m : MethodId} {below : List Frame} {meth : Method} {c : Code} (l : Launch) (hflags : l.flags = flags0) {b L : Nat} {xs : Nat → Int32} (hL : L ≤ 3072) (C0 : lw_At p s m meth c b L xs) : W p l e room_1 s m #[Value.ref b] below meth c s.heap [] 0 0 (lw_Z below #[Value.ref b] s) (entryFrame m ([Value.ref b] : List Value).toArray 4) := by
  obtain ⟨hx, hb, hr, hml, hown, hts0, hX, hbl, hlocks, hgv⟩ := id C0
  obtain ⟨gX, SM0, hfX, hfM, hfL⟩ := pure_main L xs hL
  have hts := zl_hts hts0
  have hfl : ∀ q ∈ fc_g, q.before #[Value.ref b] s = true := flat_of_before _ hgv
  have hA0 : ∀ a : Nat, a < s.heap.size → ¬ (fun q : Nat => s.heap.size ≤ q) a := fun a h => Nat.not_le.mpr h
  obtain ⟨c1, i1, k1⟩ := u_known (C := RX1) (T := TX1) (N := 2) (n := 2) hts iX1 (hts _ ins_X1)
  obtain ⟨c2, i2, k2⟩ := u_known (C := RX2) (T := TX2) (N := 8) (n := 8) hts iX2 (hts _ ins_X2)
  obtain ⟨c3, i3, k3⟩ := u_known (C := RX3) (T := TX3) (N := 3) (n := 3) hts iX3 (hts _ ins_X3)
  obtain ⟨c4, i4, k4⟩ := u_known (C := RX4) (T := TX4) (N := 2) (n := 2) hts iX4 (hts _ ins_X4)
  obtain ⟨c5, i5, k5⟩ := u_known (C := RX5) (T := TX5) (N := 10) (n := 10) hts iX5 (hts _ ins_X5)
  obtain ⟨c6, i6, k6⟩ := u_known (C := RX6) (T := TX6) (N := 5) (n := 5) hts iX6 (hts _ ins_X6)
  obtain ⟨c7, i7, k7⟩ := u_known (C := RX7) (T := TX7) (N := 11) (n := 11) hts iX7 (hts _ ins_X7)
  obtain ⟨c8, i8, k8⟩ := u_known (C := RX8) (T := TX8) (N := 55) (n := 55) hts iX8 (hts _ ins_X8)
  obtain ⟨dC, dI, hKc⟩ : ∃ (dC : Nat → ClassId) (dI : Nat → Nat → Nat), ∀ (k : Nat) (q : vw_C), vwCl[k]? = some q → u_Kn s q.1 q.2.1 q.2.2 (dC k) (dI k) := by
    refine ⟨fun k => match k with | 0 => c1 | 1 => c2 | 2 => c3 | 3 => c4 | 4 => c5 | 5 => c6 | 6 => c7 | _ => c8, fun k => match k with | 0 => i1 | 1 => i2 | 2 => i3 | 3 => i4 | 4 => i5 | 5 => i6 | 6 => i7 | _ => i8, ?_⟩
    intro k q hq
    match k, hq with
    | 0, hq => cases hq; exact k1
    | 1, hq => cases hq; exact k2
    | 2, hq => cases hq; exact k3
    | 3, hq => cases hq; exact k4
    | 4, hq => cases hq; exact k5
    | 5, hq => cases hq; exact k6
    | 6, hq => cases hq; exact k7
    | 7, hq => cases hq; exact k8
    | k + 8, hq => simp [vwCl] at hq
  obtain ⟨cI, kI9, pI, fI, gI, tI⟩ := Cond.arrayClass_spec (hts _ zn_wI)
  obtain ⟨cZ, kZ9, pZ, fZ, gZ, tZ⟩ := Cond.arrayClass_spec (hts _ zn_wZ)
  have hao : AOk s := arrayOver_alikeB (Vm.Alike.refl _) (hts0 _ fo_a)
  obtain ⟨pO, cO, kO9, -, -, gO, tO, fO⟩ := arrayOver_specB (hts0 _ fo_a)
  obtain ⟨tLOW9, evLOW, TLOW⟩ := va_Tof (f := fun j => .int (tLOW.getD j 0)) (N := 7) (by decide) (hfl _ fa_LOW) (va_eqt (hfl _ fb_LOW)) (fun j hj => va_eqt (hfl _ (fe_LOW j hj))) hA0
  have ZLOW := va_Zof (hts0 _ fs_LOW) (hts0 _ fi_h) evLOW hA0
  obtain ⟨tHIGH9, evHIGH, THIGH⟩ := va_Tof (f := fun j => .int (tHIGH.getD j 0)) (N := 7) (by decide) (hfl _ fa_HIGH) (va_eqt (hfl _ fb_HIGH)) (fun j hj => va_eqt (hfl _ (fe_HIGH j hj))) hA0
  have ZHIGH := va_Zof (hts0 _ fs_HIGH) (hts0 _ fi_h) evHIGH hA0
  obtain ⟨tUNDER9, evUNDER, TUNDER⟩ := va_Tof (f := fun j => .int (tUNDER.getD j 0)) (N := 6) (by decide) (hfl _ fa_UNDER) (va_eqt (hfl _ fb_UNDER)) (fun j hj => va_eqt (hfl _ (fe_UNDER j hj))) hA0
  have ZUNDER := va_Zof (hts0 _ fs_UNDER) (hts0 _ fi_h) evUNDER hA0
  obtain ⟨tBOUNDS9, evBOUNDS, TBOUNDS⟩ := va_Tof (f := fun j => .int (tBOUNDS.getD j 0)) (N := 24) (by decide) (hfl _ fa_BOUNDS) (va_eqt (hfl _ fb_BOUNDS)) (fun j hj => va_eqt (hfl _ (fe_BOUNDS j hj))) hA0
  have ZBOUNDS := va_Zof (hts0 _ fs_BOUNDS) (hts0 _ fi_h) evBOUNDS hA0
  have Zcs := va_Zof (hts0 _ fs_cs) (hts0 _ fi_s) (va_eqi (hfl _ fe_cs)) hA0
  have Zsi := va_Zqof (hts0 _ fs_si) (hts0 _ fi_p) (hfl _ fe_si) hA0
  obtain ⟨adK, adV, hSS, hSe⟩ := vk_Sof (tm := tmS) (len := [57, 8, 72]) (byt := [byRULE, bySIGNS, byWORDS]) (N := 3) ft_len (fun i hi => hfl _ (ft_ex i hi)) (fun i hi => hfl _ (ft_co i hi)) (fun i hi => hfl _ (ft_ar i hi)) (fun i hi => hfl _ (ft_le i hi)) (fun i hi j hj => hfl _ (ft_el i hi j hj)) (fun i j hi hj hij => (ft_ne i hi j hj hij).imp (fun h => hfl _ h) (fun h => hfl _ h)) hA0
  obtain ⟨zt, hzt⟩ : ∃ zt : Nat → Nat, zt = fun k => if k < 10 then ([tLOW9, tHIGH9, tUNDER9, tBOUNDS9] : List Nat).getD k 0 else if k < 20 then adK (k - 10) else adV (k - 20) := ⟨_, rfl⟩
  have hxst : XST ((dC, dI), (fun k => if k = 0 then cI else if k = 1 then cZ else cO), (fun _ => 0), zt) (fun q : Nat => s.heap.size ≤ q) s s.heap := by
    have z0 : zt 0 = tLOW9 := by rw [hzt]; rfl
    have z1 : zt 1 = tHIGH9 := by rw [hzt]; rfl
    have z2 : zt 2 = tUNDER9 := by rw [hzt]; rfl
    have z3 : zt 3 = tBOUNDS9 := by rw [hzt]; rfl
    have zK : ∀ i, i < 3 → zt (10 + i) = adK i := fun i hi => by rw [hzt]; show (if 10 + i < 10 then _ else if 10 + i < 20 then adK (10 + i - 10) else _) = _; rw [if_neg (by omega), if_pos (by omega), Nat.add_sub_cancel_left]
    have zV : ∀ i, i < 3 → zt (20 + i) = adV i := fun i hi => by rw [hzt]; show (if 20 + i < 10 then _ else if 20 + i < 20 then _ else adV (20 + i - 20)) = _; rw [if_neg (by omega), if_neg (by omega), Nat.add_sub_cancel_left]
    refine ⟨by show va_Z _ _ _ (.ref (zt 0)) _ _ _; rw [z0]; exact ZLOW, by show va_T _ (zt 0) _ _ _ _ _; rw [z0]; exact TLOW, by show va_Z _ _ _ (.ref (zt 1)) _ _ _; rw [z1]; exact ZHIGH, by show va_T _ (zt 1) _ _ _ _ _; rw [z1]; exact THIGH, by show va_Z _ _ _ (.ref (zt 2)) _ _ _; rw [z2]; exact ZUNDER, by show va_T _ (zt 2) _ _ _ _ _; rw [z2]; exact TUNDER, by show va_Z _ _ _ (.ref (zt 3)) _ _ _; rw [z3]; exact ZBOUNDS, by show va_T _ (zt 3) _ _ _ _ _; rw [z3]; exact TBOUNDS, Zcs, Zsi, vk_S_cong hSS zK zV, ?_, ?_, ?_, va_Nw.of rfl (hts0 _ fn_6), va_Nw.of rfl (hts0 _ fn_7)⟩
    · show vk_R _ _ _ (zt 10) _; rw [show zt 10 = adK 0 from zK 0 (by decide)]; exact vk_R.of (hts0 _ ft_r0) (hSe 0 (by decide))
    · show vk_R _ _ _ (zt 11) _; rw [show zt 11 = adK 1 from zK 1 (by decide)]; exact vk_R.of (hts0 _ ft_r1) (hSe 1 (by decide))
    · show vk_R _ _ _ (zt 12) _; rw [show zt 12 = adK 2 from zK 2 (by decide)]; exact vk_R.of (hts0 _ ft_r2) (hSe 2 (by decide))
  obtain ⟨v0, hv0⟩ : ∃ v0 : Ev, v0 = ((dC, dI), (fun k => if k = 0 then cI else if k = 1 then cZ else cO), (fun _ => 0), zt) := ⟨_, rfl⟩
  rw [← hv0] at hxst
  have hK : va_K (zD v0) vwCl (zY v0) s := by
    rw [hv0]
    refine ⟨hKc, fun k q hq => ?_⟩
    match k, hq with
    | 0, hq => cases hq; exact ⟨fun n z => ⟨fun k h => (by cases h), kI9, gI, pI, tI⟩, fI⟩
    | 1, hq => cases hq; exact ⟨fun n z => ⟨fun k h => (by cases h), kZ9, gZ, pZ, tZ⟩, fZ⟩
    | 2, hq => cases hq; exact ⟨fun n z => ⟨fun k h => (by cases h), kO9, gO, pO, tO⟩, fO⟩
    | k + 3, hq => simp at hq
  have hkn : Kx7 s := ⟨va_Nw.of rfl (hts0 _ fn_0), va_Nw.of rfl (hts0 _ fn_1), va_Nw.of rfl (hts0 _ fn_2), va_Nw.of rfl (hts0 _ fn_3), va_Nw.of rfl (hts0 _ fn_4), va_Nw.of rfl (hts0 _ fn_5), hao⟩
  have hA : ∀ q : Nat, s.heap.size ≤ q → (fun q : Nat => s.heap.size ≤ q) q := fun _ h => h
  have hbA : ¬ (fun q : Nat => s.heap.size ≤ q) b := Nat.not_le.mpr hbl
  have hS : va_S (fun q : Nat => s.heap.size ≤ q) s.heap s.heap [] := va_S.rf
  have hP : va_P (zD v0) vwCl [] s.heap := fun k q h => by simp at h
  have hD : va_D (fun q : Nat => s.heap.size ≤ q) [] := ⟨fun i j p q h => by simp at h, fun k q h => by simp at h⟩
  have hb : c.code = cL_law := hb
  have hown : s.vm.findClass RL = some m.cls := hown
  have hl := lv_entry ([.ref b]) (n := 4) (Nat.le_of_ble_eq_true rfl)
  rw [lg_entry_eq]
  generalize (lg_sl ([.ref b]) ++ List.replicate (4 - (lg_sl ([.ref b])).length) Slot.unset).toArray = ls at hl ⊢
  have hl : lv_has ls 4 [(0, .ref b)] := hl
  refine va_new (ci := 6) (fs := [.null, .null, .int 0, .null, .null, .null, .null, .null, .null, .null, .null]) (C := RX7) (T := TX7) (N := 11) hx hb hts iX7 tyX7 tyX7_ok hown (hts _ lcl_7) (hts _ ins_X7) (hts _ ini_X7) hK hP hD hS hA rfl df_X7 (Nat.le_of_ble_eq_true rfl) (Nat.le_of_ble_eq_true rfl) dL_law_0 (fun h0 H hP hD hS => ?_)
  have hP : va_P (zD v0) vwCl [(h0, .inr (6, [.null, .null, .int 0, .null, .null, .null, .null, .null, .null, .null, .null]))] H := hP
  have hD : va_D (fun q : Nat => s.heap.size ≤ q) [(h0, .inr (6, [.null, .null, .int 0, .null, .null, .null, .null, .null, .null, .null, .null]))] := hD
  refine lv_dup hx hb dL_law_3 rfl ?_
  have hFc := va_free (wc := [(h0, .inr (6, [.null, .null, .int 0, .null, .null, .null, .null, .null, .null, .null, .null]))]) hD hS hA [0] rfl
  have hh0 : s.heap.size ≤ h0 := hD.2 0 _ rfl
  refine va_callv (va_runI (As := []) (rest := [.ref h0]) ⟨hx, hb, hml, hown, hts⟩ (k_X7_init l v0 h0 H.size 1200 gX hfX) (cwI 0 hts (wl_gi lgi_X7) rfl rfl rfl (hts _ ini_X7) (hts _ lml_9) (hts _ lim_X7) rfl lgh_X7 ⟨(Nat.le_of_ble_eq_true rfl), (Nat.le_of_ble_eq_true rfl)⟩) ⟨fun a U g mk q => ⟨q.1, Kc_call q.2.1, ⟨va_Nw.same rfl rfl q.2.2.1.1, va_Nw.same rfl rfl q.2.2.1.2.1, va_Nw.same rfl rfl q.2.2.1.2.2.1, va_Nw.same rfl rfl q.2.2.1.2.2.2.1, va_Nw.same rfl rfl q.2.2.1.2.2.2.2.1, va_Nw.same rfl rfl q.2.2.1.2.2.2.2.2.1, AOk_mv (Vm.Alike.refl U.vm) q.2.2.1.2.2.2.2.2.2⟩, XST_ok.2 _ _ _ _ _ _ _ q.2.2.2⟩, fun U hU hW => ⟨rfl, ⟨by rw [hU], va_K.moved hW.alike hK, by rw [hU]; exact hP, hD.weaken (fun _ _ _ _ => trivial)⟩, ⟨va_Nw.warmM hW hkn.1, va_Nw.warmM hW hkn.2.1, va_Nw.warmM hW hkn.2.2.1, va_Nw.warmM hW hkn.2.2.2.1, va_Nw.warmM hW hkn.2.2.2.2.1, va_Nw.warmM hW hkn.2.2.2.2.2.1, AOk_mv hW.alike hao⟩, by
      rw [hU]
      exact XST_nar (v := v0) (v2 := v0) rfl (fun q hq => hq.elim (fun z => by rw [z]; exact hh0) (fun z => Nat.le_trans hS.1 z)) (XST_ok.1 v0 _ s U _ _ hW hS.2.1 hxst)⟩⟩ rfl rfl hl.1 rfl (lv_room (Nat.le_of_ble_eq_true rfl)) dL_law_4 ⟨(Nat.le_of_ble_eq_true rfl), (Nat.le_of_ble_eq_true rfl)⟩) hS (fun q _ h => hFc q h) hFc (fun u9 t9 H1 locs ht9 hvm9 hw9 hB9 hz9 hk9 hS1 => ?_)
  obtain ⟨aa, ha0, hainj, hain, hPX⟩ := hB9
  rw [ht9] at hPX
  obtain ⟨v, hv⟩ : ∃ v : Ev, v = (zD v0, zC v0, aa, zT v0) := ⟨_, rfl⟩
  rw [← hv] at hPX
  have hDv : zD v = zD v0 := by rw [hv]
  have hCv : zC v = zC v0 := by rw [hv]; rfl
  have hTv : zT v = zT v0 := by rw [hv]; rfl
  have hAv : zA v = aa := by rw [hv]; rfl
  have hKv : va_K (zD v) vwCl (zY v) s := by rw [hv]; exact hK
  have hPX : va_P (zD v) vwCl (zW v gX) H1 := by rw [hDv]; exact hPX
  have hnew : ∀ i, i < 37 → s.heap.size ≤ zA v i := fun i hi => by rw [hAv]; exact hFc _ (hain i hi)
  have hkX : KG pX v s s.heap := ⟨hKv, fun i j hi hj h => hainj i j hi hj (by rw [← hAv]; exact h), XST_nar (v := v0) (v2 := v) hTv (fun q ⟨k, h1, h2⟩ => by rw [h2]; exact hnew k h1) hxst⟩
  have hDX : va_D (fun q : Nat => s.heap.size ≤ q) (zW v gX) := (zw_D okX hkX gX).weaken (fun _ _ _ ⟨k, h1, h2⟩ => by rw [h2]; exact hnew k h1)
  refine lv_astore_n (lv' := [(1, .ref h0), (0, .ref b)]) hx hb dL_law_7 rfl hl (by decide) rfl (fun ls hl => ?_)
  refine va_new (D := zD v) (ci := 7) (fs := [.int 0, .null, .null, .int 0, .int 0, .null, .int 0, .int 0, .int 0, .int 0, .null, .null, .null, .null, .null, .int 0, .int 0, .int 0, .int 0, .int 0, .int 0, .int 0, .int 0, .int 0, .int 0, .int 0, .int 0, .long 0, .int 0, .int 0, .int 0, .null, .null, .null, .int 0, .null, .null, .int 0, .int 0, .null, .int 0, .int 0, .null, .int 0, .null, .null, .int 0, .int 0, .int 0, .int 0, .int 0, .null, .null, .null, .null]) (C := RX8) (T := TX8) (N := 55) hx hb hts iX8 tyX8 tyX8_ok hown (hts _ lcl_10) (hts _ ins_X8) (hts _ ini_X8) hKv hPX hDX hS1 hA rfl df_X8 (Nat.le_of_ble_eq_true rfl) (Nat.le_of_ble_eq_true rfl) dL_law_8 (fun h1 H hP hD hS => ?_)
  have hPX := va_P_l hP
  have hP1 : va_P (zD v) vwCl [(h1, .inr (7, [.int 0, .null, .null, .int 0, .int 0, .null, .int 0, .int 0, .int 0, .int 0, .null, .null, .null, .null, .null, .int 0, .int 0, .int 0, .int 0, .int 0, .int 0, .int 0, .int 0, .int 0, .int 0, .int 0, .int 0, .long 0, .int 0, .int 0, .int 0, .null, .null, .null, .int 0, .null, .null, .int 0, .int 0, .null, .int 0, .int 0, .null, .int 0, .null, .null, .int 0, .int 0, .int 0, .int 0, .int 0, .null, .null, .null, .null]))] H := va_P_r hP
  have hD1 : va_D (fun q : Nat => s.heap.size ≤ q) [(h1, .inr (7, [.int 0, .null, .null, .int 0, .int 0, .null, .int 0, .int 0, .int 0, .int 0, .null, .null, .null, .null, .null, .int 0, .int 0, .int 0, .int 0, .int 0, .int 0, .int 0, .int 0, .int 0, .int 0, .int 0, .int 0, .long 0, .int 0, .int 0, .int 0, .null, .null, .null, .int 0, .null, .null, .int 0, .int 0, .null, .int 0, .int 0, .null, .int 0, .null, .null, .int 0, .int 0, .int 0, .int 0, .int 0, .null, .null, .null, .null]))] := hD.sub [37] (by decide) rfl
  have hlen : (zW v gX).length = 37 := rfl
  have hne : ∀ i, i < 37 → zA v i ≠ h1 := fun i hi h => by
    have e1 := zw_at okX (v := v) (u := gX) (List.getElem?_eq_getElem (l := zW v gX) (i := i) (by rw [hlen]; exact hi))
    have e2 := hD.1 i 37 _ _ (by rw [List.getElem?_append_left (by rw [hlen]; exact hi)]; exact List.getElem?_eq_getElem (by rw [hlen]; exact hi)) rfl (e1.2.trans h)
    omega
  have hltX : ∀ i, i < 37 → zA v i < H.size := fun i hi => by
    have e1 := zw_at okX (v := v) (u := gX) (List.getElem?_eq_getElem (l := zW v gX) (i := i) (by rw [hlen]; exact hi))
    rw [← e1.2]; exact (hPX i _ (List.getElem?_eq_getElem (by rw [hlen]; exact hi))).lt
  refine lv_dup hx hb dL_law_11 rfl ?_
  have hFc := va_free (wc := [(h1, .inr (7, [.int 0, .null, .null, .int 0, .int 0, .null, .int 0, .int 0, .int 0, .int 0, .null, .null, .null, .null, .null, .int 0, .int 0, .int 0, .int 0, .int 0, .int 0, .int 0, .int 0, .int 0, .int 0, .int 0, .int 0, .long 0, .int 0, .int 0, .int 0, .null, .null, .null, .int 0, .null, .null, .int 0, .int 0, .null, .int 0, .int 0, .null, .int 0, .null, .null, .int 0, .int 0, .int 0, .int 0, .int 0, .null, .null, .null, .null]))]) hD hS hA [37] rfl
  refine va_callv (va_runI (As := []) (rest := [.ref h1]) ⟨hx, hb, hml, hown, hts⟩ (k_X8_init l v h1 H.size 1200 SM0 hfM) (cwI 0 hts (wl_gi lgi_X8) rfl rfl rfl (hts _ ini_X8) (hts _ lml_12) (hts _ lim_X8) rfl lgh_X8 ⟨(Nat.le_of_ble_eq_true rfl), (Nat.le_of_ble_eq_true rfl)⟩) ⟨fun a U g mk q => ⟨q.1, Kc_call q.2⟩, fun U hU hW => ⟨rfl, by rw [hU], va_K.moved hW.alike hKv, by rw [hU]; exact hP1, hD1.weaken (fun _ _ _ _ => trivial)⟩⟩ rfl rfl hl.1 rfl (lv_room (Nat.le_of_ble_eq_true rfl)) dL_law_12 ⟨(Nat.le_of_ble_eq_true rfl), (Nat.le_of_ble_eq_true rfl)⟩) hS (fun q _ h => hFc q h) hFc (fun u8 t8 H2 locs ht8 hvm8 hw8 hB8 hz8 hk8 hS2 => ?_)
  obtain ⟨ab, hb0, hbinj, hbin, hPM⟩ := hB8
  rw [ht8] at hPM
  have hPM : va_P (zD v) vwCl (zM (vb v ab) SM0) H2 := hPM
  have hna : ∀ i, i < 37 → ¬ va_A [(h1, .inr (7, [.int 0, .null, .null, .int 0, .int 0, .null, .int 0, .int 0, .int 0, .int 0, .null, .null, .null, .null, .null, .int 0, .int 0, .int 0, .int 0, .int 0, .int 0, .int 0, .int 0, .int 0, .int 0, .int 0, .int 0, .long 0, .int 0, .int 0, .int 0, .null, .null, .null, .int 0, .null, .null, .int 0, .int 0, .null, .int 0, .int 0, .null, .int 0, .null, .null, .int 0, .int 0, .int 0, .int 0, .int 0, .null, .null, .null, .null]))] H.size (zA v i) := fun i hi h => by
    rcases h with ⟨k, e9, h2⟩ | h2
    · match k, h2 with
      | 0, h2 => exact hne i hi (congrArg Prod.fst (Option.some.inj h2)).symm
      | k + 1, h2 => simp at h2
    · exact absurd (hltX i hi) (Nat.not_lt.mpr h2)
  have hPX2 : va_P (zD v) vwCl (zW v gX) H2 := hPX.kept (fun k q hq => by
    have e1 := zw_at okX (v := v) (u := gX) hq
    rw [e1.2]; exact hk8 _ (hltX k e1.1) (hna k e1.1))
  have hcl : CL v ab s := by
    refine ⟨hkX, ⟨hKv, fun i j hi hj h => hbinj i j hi hj h, trivial⟩, fun i j hi hj h => hna i hi (by rw [h]; exact hbin j hj), hnew, fun i hi => hFc _ (hbin i hi)⟩
  have hPL : va_P (zD v) vwCl (zL ab v (gX, SM0)) H2 := hPX2.app hPM
  refine lv_astore_n (lv' := [(2, .ref h1), (1, .ref h0), (0, .ref b)]) hx hb dL_law_15 rfl hl (by decide) rfl (fun ls hl => ?_)
  refine lv_iconst (v := 0) hx hb dL_law_16 kI_0 ?_
  refine lv_istore_n (lv' := [(3, .int 0), (2, .ref h1), (1, .ref h0), (0, .ref b)]) hx hb dL_law_17 rfl hl (by decide) rfl (fun ls hl => ?_)
  have hl2 := lv_sub (l' := [(0, .ref b), (1, .ref (zA v 0)), (2, .ref (zA (vb v ab) 0)), (3, .int 0)]) hl [3, 2, 1, 0] (by rw [show zA v 0 = h0 by rw [hAv]; exact ha0, show zA (vb v ab) 0 = h1 from hb0]; rfl)
  refine b_law l v ab 1200 L xs 0 (gX, SM0) () hfL hx hb hml hown hts hX hbl hbA hcl ?_ hPL hS2 hl2
  intro H locs ls hS
  refine lv_iconst (v := 1) hx hb dL_law_1071 kI_1 ?_
  refine va_forget (fun q hq => hS.2.2 q hq) ?_
  refine W.widen (k := 600000) (n := 7302250) (Nat.le_of_ble_eq_true rfl) (Nat.le_of_ble_eq_true rfl) ?_
  exact lw_ret hx hb hr hlocks dL_law_1072
set_option maxHeartbeats 4000000 in
theorem lw_walk (l : Launch) (hflags : l.flags = flags0) (b : Addr) (xs : List Int32) : MetFree l x (headSpec (Jvm.Cond.code x code maxLocals ret :: tables_1) room_1) (lw_P b xs) (fun _ _ _ _ _ => True) lw_Q := by
  refine MetFree.of_bodyS (code := code) (maxLocals := maxLocals) (ret := ret) (by decide) ?_ ?_
  · intro args s m h hn
    obtain ⟨meth, c, h1, h2, h3, h4, h5, h6, -, -⟩ := Cond.code_spec hn (atoms_spec (ws := Jvm.Cond.code x code maxLocals ret :: tables_1) h _ List.mem_cons_self)
    exact ⟨meth, c, h1, h2, h3, h4, h5, h6⟩
  · intro p e s m args below meth c s₁ B hml0 hP _
    obtain ⟨rfl, hx, hbd, hgv⟩ := hP
    obtain ⟨scr, harrAt, hlist, hof, hsmall⟩ := hx
    obtain ⟨hcb, hkn, -, -⟩ := State.arrayAt?_spec harrAt
    have hown : s.vm.findClass R_law = some m.cls := findClass_of_methodNamed B.named
    have hts0 : ∀ c ∈ (Jvm.Cond.code x code maxLocals ret :: tables_1), c.before #[Value.ref b] s = true := atoms_spec (ws := Jvm.Cond.code x code maxLocals ret :: tables_1) B.pre
    have hts : ∀ w ∈ lw_tbl, w.before #[Value.ref b] s = true := k2_hts_sels lw_privs (fun w hw => hts0 w (List.mem_cons_of_mem _ hw)) lw_privs_ok
    have hml : c.maxLocals = 4 := B.maxLocals_eq (hts0 _ List.mem_cons_self)
    have X₀ : Stand p l e room_1 s m #[Value.ref b] below meth c s₁ [] 0 0 := Stand.of_body B
    have hh0 : s₁.heap = s.heap := by rw [B.state]; rfl
    have hsz : scr.slots.size = xs.length := by rw [← Array.length_toList, hlist, List.length_map]
    have hval : ∀ j : Nat, j < xs.length → scr.slots[j]? = some (.int (xs.getD j 0)) := fun j hj => by
      rw [← Array.getElem?_toList, hlist]
      simp [hj]
    have hbl : b < s.heap.size := (Array.getElem?_eq_some_iff.mp hcb).1
    have hX : va_X b xs.length (fun j => xs.getD j 0) s s.heap := ⟨scr, hcb, hof, hkn, hsz, hval⟩
    have K : W p l e room_1 s m #[Value.ref b] below meth c s₁.heap [] 0 0 (lw_Z below #[Value.ref b] s) (entryFrame m ([Value.ref b] : List Value).toArray 4) := by
      rw [hh0]
      exact whole_start l hflags hbd ⟨B.exec, B.bytes, B.returns, hml, hown, hts, hX, hbl, B.notSynchronized, hgv⟩
    obtain ⟨t, a1, o, b1, b2, b3⟩ := K s₁ rfl X₀
    exact ⟨t, o, a1, b1, b2, b3⟩
theorem lw_pre_spec {args : Array Value} {s : State} (h : (Jvm.Cond.and given_1 narrow_1).before args s = true) (hr : rest_1_c.before args s = true) : ∃ (b : Addr) (xs : List Int32), lw_P b xs args s := by
  have hs := flat_of_before _ h
  have hq := flat_of_before _ hr
  have hc : (Cond.count 1).before args s = true := hs _ (by decide +kernel)
  have harr : (Cond.arrayOf (.arg 0) .int).before args s = true := hs _ (by decide +kernel)
  have hle : (Cond.le (.length (.arg 0)) (.int 3072)).before args s = true := hs _ (by decide +kernel)
  have hlen : (Cond.isInt (.length (.arg 0))).before args s = true := hq _ (by decide +kernel)
  have hall : (Cond.all (.arg 0) (.isInt (.elem (.arg 0) (.index 0)))).before args s = true := hq _ (by decide +kernel)
  obtain ⟨b, xs, hb, hx⟩ := State.ints_of_pre rfl harr hlen hall
  have hsm : xs.length < 2 ^ 31 := hx.choose_spec.2.2.2
  have hev : (Term.length (.arg 0)).eval args s none [] s = some (.int xs.length.toInt32) := hx.length_eval hb
  have hv := Cond.le_ints hev (show (Term.int 3072).eval args s none [] s = some (.int 3072) from rfl)
  have hd : xs.length.toInt32 ≤ 3072 := by
    simpa [Cond.before, Cond.holds, hv] using hle
  have hN : xs.length ≤ 3072 := (Int32.ofNat_le_ofNat hsm (by decide)).mp (show Int32.ofNat xs.length ≤ Int32.ofNat 3072 from hd)
  exact ⟨b, xs, Cond.one_arg hc (show args[0]? = some (.ref b) from hb), hx, hN, h⟩
theorem lw_comes (l : Launch) (hflags : l.flags = flags0) : Comes l x (Jvm.Cond.code x code maxLocals ret :: tables_1) room_1 (fun tb e args s => Calls_1 tb e args s ∧ rest_1 tb e args s ∧ Pre_1 tb e args s)
    (fun _ _ args s o t => lw_Q args s o t) := by
  intro p e ha hc hk s m args below hf hfit hheap happ hpre
  obtain ⟨b, xs, hP⟩ := lw_pre_spec hpre.2.2 hpre.2.1
  obtain ⟨k, o, h1, h2, h3, hQ⟩ := lw_walk l hflags b xs p e ha hc hk s m args below hf ((Spec.applies_iff_loose hf).mp happ).1 hP trivial
  exact ⟨k, o, h1, h2, h3, hQ⟩
theorem lw_frame {s t : State} {o : Outcome} {args : Array Value} (h : Framed s o t [] 600000 7302250) :
    Framed s o t (fieldLocs frame_1_writes args s ++ arrayLocs frame_1_arrays args s ++ staticLocs frame_1_statics s) 600000 7302250 := h
theorem lw_limb (L : Cond) (hL : ∀ (args : Array Value) (s t : State), L.after args s (.returned (some (.int 1))) t = true) :
    ArmFor flags0 classFile x code maxLocals ret World_1 tables_1 room_1 Calls_1 rest_1 Pre_1
      (fun tb e a s o t => postC L tb e a s o t ∧ Framed s o t (fieldLocs frame_1_writes a s ++ arrayLocs frame_1_arrays a s ++ staticLocs frame_1_statics s) 600000 7302250) := by
  intro l hflags _ _ p e ha hc hk s m args below hf hfit hheap happ hpre
  obtain ⟨k, o, h1, h2, h3, rfl, hF⟩ := lw_comes l hflags p e ha hc hk s m args below hf hfit hheap happ hpre
  exact ⟨k, _, h1, h2, h3, hL args s _, lw_frame hF⟩
theorem i_vc : Claimed_1_1 ∧ Claimed_1_2 := ⟨lw_limb limb_1_1 (fun args s t => by simp [limb_1_1, Cond.after, Cond.holds, Cond.value]), lw_limb limb_1_2 (fun args s t => Cond.after_iff.mpr (by
  first | (rw [show limb_1_2 = Cond.eq .result (.int 1) from rfl, Cond.eq_ints (x := 1) (y := 1) rfl rfl]; simp; done) | (simp [limb_1_2, Cond.value, Term.eval]; done)))⟩
