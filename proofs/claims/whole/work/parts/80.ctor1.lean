/-! worlds within a larger one, or within a constructor: A holds the world's cells; of old cells none but the world's -/
theorem zk_go2 {St : Type} {w : Wp St} (hw : okW w) {v : Ev} {s U : State} {H : Heap} (hk : KG w v s s.heap) (hq : ∀ a : Nat, a < s.heap.size → ¬ An w.2.1 v a → H[a]? = s.heap[a]?) (hU : U.heap = H) (hW : s.WarmedH U.vm) : KG w v U U.heap := by
  subst hU
  exact ⟨va_K.moved hW.alike hk.1, hk.2.1, hw.2.1 v _ s U _ _ hW hq hk.2.2⟩
section GCC
variable {p : Program} {l : Launch} {e : Env} {R : Room} {s : State} {m : MethodId} {args : Array Value} {below : List Frame} {meth : Method} {c : Code} {H : Heap} {locs : List Loc} {Q : State → Prop}
variable {St : Type} {w : Wp St} {v : Ev} {u : St} {cc bytes : ByteArray} {nL maxL n index pc cells slots : Nat} {own : String} {y : MethodName} {rt : FieldType} {rm : Room} {As rest st0 : List Value} {b : Nat} {ls : Array Slot} {A : Nat → Prop}
theorem zrVc {ret : Option FieldType} {Qc : Array Value → State → Outcome → State → Prop} (hw : okW w) (hx : p.tables.exec = Jvm.exec) (hb : c.code = cc) (hml : c.maxLocals = nL) (hown : s.vm.findClass own = some m.cls) (hts : ∀ w ∈ WL, w.before args s = true) (hk : KG w v s s.heap) (hP : va_P (zD v) vwCl (w.1 v u) H) (hS : va_S A s.heap H locs) (hAo : ∀ q, q < s.heap.size → A q → An w.2.1 v q)
    (hM : Met l y (.code y bytes maxL ret :: WL) rm (va_Pc (.ref b :: As) (Pg w v u)) Qc 0 0 (An w.2.1 v)) (hV : VOK y bytes maxL ret n) (hL : Cond.methodLink own index y ∈ WL) (hrc : rm.cells = 0) (hrs : rm.slots = 0) (hR : rm.frames + 1 ≤ R.frames ∧ 8 + (maxL + 11) + rm.locals ≤ R.locals)
    (hrv : ∃ cellB : Cell, H[b]? = some cellB ∧ cellB.vm.isStatics = false ∧ s.vm.findClass y.cls = some cellB.cls) (hn : As.length = n) (hsz : ls.size = nL) (hst : st0 = As.reverse ++ .ref b :: rest) (hroom : (rest.map fun v => v.category).sum ≤ 8) (hdg : decode cc pc = .ok (.invokevirtual index, 3)) (hcz : cells + 0 ≤ R.cells ∧ slots + 0 ≤ R.slots) :
    va_Run p l e R s m args below meth c H locs cells slots 0 0 (F0 m pc ls st0) rest (Qc (Value.ref b :: As).toArray) (An w.2.1 v) := by
  subst hst
  exact va_runV (C := y.cls) (As := As) (rest := rest) ⟨hx, hb, hml, hown, hts⟩ hM (zcV hts hV hL hrc hrs hR) ⟨fun a U g mk q => ⟨q.1, zk_call hw q.2⟩, hrv, fun U hU hW => ⟨rfl, zk_go2 hw hk (fun q h1 h2 => hS.2.1 q h1 (fun z => h2 (hAo q h1 z))) hU hW, by rw [hU]; exact hP⟩⟩ rfl hn hsz rfl (lv_room hroom) hdg hcz
theorem zkic {A1 : Array Value} {res : Int32 × St} (hAn : ∀ q, An w.2.1 v q → A q) (hS : va_S A s.heap H locs) (hr : va_Run p l e R s m args below meth c H locs cells slots 0 0 (F0 m pc ls st0) rest (va_Qi (fun r u2 => (r, u2) = res) (fun u2 t => va_P (zD v) vwCl (w.1 v u2) t.heap) (An w.2.1 v) A1) (An w.2.1 v))
    (kk : ∀ (H1 : Heap) (locs1 : List Loc), va_P (zD v) vwCl (w.1 v res.2) H1 → va_S A s.heap H1 locs1 → (∀ q : Nat, q < H.size → ¬ An w.2.1 v q → H1[q]? = H[q]?) → W p l e R s m args below meth c H1 locs1 cells slots Q (F0 m (pc + 3) ls (.int res.1 :: rest))) : W p l e R s m args below meth c H locs cells slots Q (F0 m pc ls st0) := by
  refine va_calli hr hS (fun q _ h => hAn q h) (fun q h => hAn q h) (fun r u2 t H1 locs1 ht hvm hp hB hz hk1 hS1 => ?_)
  subst hp
  exact kk H1 locs1 (ht ▸ hB) hS1 hk1
theorem zklc {A1 : Array Value} {res : Int64 × St} (hAn : ∀ q, An w.2.1 v q → A q) (hS : va_S A s.heap H locs) (hr : va_Run p l e R s m args below meth c H locs cells slots 0 0 (F0 m pc ls st0) rest (va_Ql (fun r u2 => (r, u2) = res) (fun u2 t => va_P (zD v) vwCl (w.1 v u2) t.heap) (An w.2.1 v) A1) (An w.2.1 v))
    (kk : ∀ (H1 : Heap) (locs1 : List Loc), va_P (zD v) vwCl (w.1 v res.2) H1 → va_S A s.heap H1 locs1 → (∀ q : Nat, q < H.size → ¬ An w.2.1 v q → H1[q]? = H[q]?) → W p l e R s m args below meth c H1 locs1 cells slots Q (F0 m (pc + 3) ls (.long res.1 :: rest))) : W p l e R s m args below meth c H locs cells slots Q (F0 m pc ls st0) := by
  refine va_calll hr hS (fun q _ h => hAn q h) (fun q h => hAn q h) (fun r u2 t H1 locs1 ht hvm hp hB hz hk1 hS1 => ?_)
  subst hp
  exact kk H1 locs1 (ht ▸ hB) hS1 hk1
theorem zkvc {A1 : Array Value} {res : St} (hAn : ∀ q, An w.2.1 v q → A q) (hS : va_S A s.heap H locs) (hr : va_Run p l e R s m args below meth c H locs cells slots 0 0 (F0 m pc ls st0) rest (va_Qv (fun u2 => u2 = res) (fun u2 t => va_P (zD v) vwCl (w.1 v u2) t.heap) (An w.2.1 v) A1) (An w.2.1 v))
    (kk : ∀ (H1 : Heap) (locs1 : List Loc), va_P (zD v) vwCl (w.1 v res) H1 → va_S A s.heap H1 locs1 → (∀ q : Nat, q < H.size → ¬ An w.2.1 v q → H1[q]? = H[q]?) → W p l e R s m args below meth c H1 locs1 cells slots Q (F0 m (pc + 3) ls rest)) : W p l e R s m args below meth c H locs cells slots Q (F0 m pc ls st0) := by
  refine va_callv hr hS (fun q _ h => hAn q h) (fun q h => hAn q h) (fun u2 t H1 locs1 ht hvm hp hB hz hk1 hS1 => ?_)
  subst hp
  exact kk H1 locs1 (ht ▸ hB) hS1 hk1
theorem zk_cI {U : State} {cA : ClassId} (h : va_K (zD v) vwCl (zY v ++ [(cA, .int)]) U) : cA = zC v 0 := by
  have a : U.vm.findClass ("[" ++ FieldType.int.toString) = some (zC v 0) := (h.2 0 _ rfl).2
  have b : U.vm.findClass ("[" ++ FieldType.int.toString) = some cA := (h.2 3 _ rfl).2
  exact Option.some.inj (b.symm.trans a)
theorem zk_cZ {U : State} {cA : ClassId} (h : va_K (zD v) vwCl (zY v ++ [(cA, .boolean)]) U) : cA = zC v 1 := by
  have a : U.vm.findClass ("[" ++ FieldType.boolean.toString) = some (zC v 1) := (h.2 1 _ rfl).2
  have b : U.vm.findClass ("[" ++ FieldType.boolean.toString) = some cA := (h.2 3 _ rfl).2
  exact Option.some.inj (b.symm.trans a)
theorem zn_wI : Cond.arrayClass .int ∈ WL := wl (by decide +kernel) rfl
theorem zn_wZ : Cond.arrayClass .boolean ∈ WL := wl (by decide +kernel) rfl
theorem zn_i {ws : va_W} (hexec : p.tables.exec = Jvm.exec) (hb : c.code = cc) (hts : ∀ w ∈ WL, w.before args s = true) (hK : va_K (zD v) vwCl (zY v) s) (hP : va_P (zD v) vwCl ws H) (hD : va_D A ws) (hS : va_S A s.heap H locs) (hA : ∀ q : Nat, s.heap.size ≤ q → A q) {n : Int32} {N' : Nat} (hn : ¬ n < 0) (hN : n.toNatClampNeg = N') (hbytes : N' * componentBytes .int ≤ 536870912) (hcells : cells + 1 ≤ R.cells) (hslots : slots + N' ≤ R.slots) (hdg : decode cc pc = .ok (.newarray .int, 2))
    (kk : ∀ (q : Nat) (H1 : Heap), va_P (zD v) vwCl (ws ++ [(q, .inl (zC v 0, N', .inl (fun _ => 0)))]) H1 → va_D A (ws ++ [(q, .inl (zC v 0, N', .inl (fun _ => 0)))]) → va_S A s.heap H1 locs → W p l e R s m args below meth c H1 locs (cells + 1) (slots + N') Q (F0 m (pc + 2) ls (.ref q :: rest))) : W p l e R s m args below meth c H locs cells slots Q (F0 m pc ls (.int n :: rest)) := by
  refine va_newa (atype := .int) (ty := .int) hexec hb (hts _ zn_wI) rfl hK hP hD hS hA (a0 := (N', .inl (fun _ => 0))) (fun cA => rfl) hn hN hbytes hcells hslots hdg (fun q cA H1 hK1 hP1 hD1 hS1 => ?_)
  have e := zk_cI hK1
  subst e
  exact kk q H1 hP1 hD1 hS1
theorem zn_z {ws : va_W} (hexec : p.tables.exec = Jvm.exec) (hb : c.code = cc) (hts : ∀ w ∈ WL, w.before args s = true) (hK : va_K (zD v) vwCl (zY v) s) (hP : va_P (zD v) vwCl ws H) (hD : va_D A ws) (hS : va_S A s.heap H locs) (hA : ∀ q : Nat, s.heap.size ≤ q → A q) {n : Int32} {N' : Nat} (hn : ¬ n < 0) (hN : n.toNatClampNeg = N') (hbytes : N' * componentBytes .boolean ≤ 536870912) (hcells : cells + 1 ≤ R.cells) (hslots : slots + N' ≤ R.slots) (hdg : decode cc pc = .ok (.newarray .boolean, 2))
    (kk : ∀ (q : Nat) (H1 : Heap), va_P (zD v) vwCl (ws ++ [(q, .inl (zC v 1, N', .inl (fun _ => 0)))]) H1 → va_D A (ws ++ [(q, .inl (zC v 1, N', .inl (fun _ => 0)))]) → va_S A s.heap H1 locs → W p l e R s m args below meth c H1 locs (cells + 1) (slots + N') Q (F0 m (pc + 2) ls (.ref q :: rest))) : W p l e R s m args below meth c H locs cells slots Q (F0 m pc ls (.int n :: rest)) := by
  refine va_newa (atype := .boolean) (ty := .boolean) hexec hb (hts _ zn_wZ) rfl hK hP hD hS hA (a0 := (N', .inl (fun _ => 0))) (fun cA => rfl) hn hN hbytes hcells hslots hdg (fun q cA H1 hK1 hP1 hD1 hS1 => ?_)
  have e := zk_cZ hK1
  subst e
  exact kk q H1 hP1 hD1 hS1
end GCC
theorem zo_i : Cond.instanceMethod objectInit ∈ WL := wl (by decide +kernel) rfl
theorem zo_c : Cond.code objectInit ⟨#[0xb1]⟩ 1 none ∈ WL := wl (by decide +kernel) rfl
def srt0 : Nat → Int32 := upd (upd (upd (upd (fun _ => 0) (0 : Int32).toNatClampNeg (-1)) (1 : Int32).toNatClampNeg (-1)) (2 : Int32).toNatClampNeg (-1)) (3 : Int32).toNatClampNeg (-1)
/-- what a constructor's start asks: the tables, its own cell -/
def Kc (v : Ev) (PRE : va_W) (sz : Nat) (U : State) : Prop := U.heap.size = sz ∧ va_K (zD v) vwCl (zY v) U ∧ va_P (zD v) vwCl PRE U.heap ∧ va_D (fun _ => True) PRE
theorem Kc_call {v : Ev} {PRE : va_W} {sz : Nat} {U : State} {g : JFrame} {mk : MethodId} {a : Array Value} (h : Kc v PRE sz U) : Kc v PRE sz (U.calling g mk a) := ⟨h.1, va_K.moved (u := U) (U := U.calling g mk a) (Vm.Alike.refl U.vm) h.2.1, h.2.2⟩
theorem ml_X5_3 : Cond.methodLink RX5 3 objectInit ∈ WL := wl (by decide +kernel) rfl
theorem kn_100 : ¬ (100 : Int32) < 0 := by decide +kernel
theorem kt_100 : (100 : Int32).toNatClampNeg = 100 := by decide +kernel
theorem kn_5 : ¬ (5 : Int32) < 0 := by decide +kernel
theorem kt_5 : (5 : Int32).toNatClampNeg = 5 := by decide +kernel
theorem ml_X2_3 : Cond.methodLink RX2 3 objectInit ∈ WL := wl (by decide +kernel) rfl
theorem kn_160 : ¬ (160 : Int32) < 0 := by decide +kernel
theorem kt_160 : (160 : Int32).toNatClampNeg = 160 := by decide +kernel
theorem kS_161 : (Int16.ofInt (161)).toInt32 = (161 : Int32) := by decide +kernel
theorem kn_161 : ¬ (161 : Int32) < 0 := by decide +kernel
theorem kt_161 : (161 : Int32).toNatClampNeg = 161 := by decide +kernel
theorem kn_4 : ¬ (4 : Int32) < 0 := by decide +kernel
theorem kt_4 : (4 : Int32).toNatClampNeg = 4 := by decide +kernel
theorem ml_X6_3 : Cond.methodLink RX6 3 objectInit ∈ WL := wl (by decide +kernel) rfl
theorem kS_960 : (Int16.ofInt (960)).toInt32 = (960 : Int32) := by decide +kernel
theorem kn_960 : ¬ (960 : Int32) < 0 := by decide +kernel
theorem kt_960 : (960 : Int32).toNatClampNeg = 960 := by decide +kernel
theorem kB_24 : (Int8.ofInt (24)).toInt32 = (24 : Int32) := by decide +kernel
theorem kn_24 : ¬ (24 : Int32) < 0 := by decide +kernel
theorem kt_24 : (24 : Int32).toNatClampNeg = 24 := by decide +kernel
theorem kn_6 : ¬ (6 : Int32) < 0 := by decide +kernel
theorem kt_6 : (6 : Int32).toNatClampNeg = 6 := by decide +kernel
theorem ml_X4_3 : Cond.methodLink RX4 3 objectInit ∈ WL := wl (by decide +kernel) rfl
theorem ml_X1_3 : Cond.methodLink RX1 3 objectInit ∈ WL := wl (by decide +kernel) rfl
theorem ml_X3_3 : Cond.methodLink RX3 3 objectInit ∈ WL := wl (by decide +kernel) rfl
abbrev rm_X5_init : Room := { frames := 1, cells := 5, slots := 120, locals := 60 }
set_option maxRecDepth 100000 in
theorem k_X5_init (l : Launch) (v : Ev) (h0 sz : Nat) : Met l yX5_init (.code yX5_init cX5_init 1 none :: WL) rm_X5_init (va_Pc [.ref h0] (Kc v [(h0, .inr (4, [.int 0, .int 0, .int 0, .int 0, .int 0, .null, .null, .null, .null, .null]))] sz)) (va_Qv (fun _ : Unit => True) (fun _ t => ∃ q0 : Nat, ∃ q1 : Nat, ∃ q2 : Nat, ∃ q3 : Nat, ∃ q4 : Nat, va_P (zD v) vwCl [(h0, .inr (4, [.int (40), .int (40), .int (9), .int 0, .int 0, .ref q0, .ref q1, .ref q2, .ref q3, .ref q4])), (q0, .inl (zC v 0, 100, .inl (fun _ => 0))), (q1, .inl (zC v 0, 5, .inl (fun _ => 0))), (q2, .inl (zC v 0, 5, .inl (fun _ => 0))), (q3, .inl (zC v 0, 5, .inl (fun _ => 0))), (q4, .inl (zC v 0, 5, .inl (fun _ => 0)))] t.heap ∧ va_D (va_A [(h0, .inr (4, [.int 0, .int 0, .int 0, .int 0, .int 0, .null, .null, .null, .null, .null]))] sz) [(h0, .inr (4, [.int (40), .int (40), .int (9), .int 0, .int 0, .ref q0, .ref q1, .ref q2, .ref q3, .ref q4])), (q0, .inl (zC v 0, 100, .inl (fun _ => 0))), (q1, .inl (zC v 0, 5, .inl (fun _ => 0))), (q2, .inl (zC v 0, 5, .inl (fun _ => 0))), (q3, .inl (zC v 0, 5, .inl (fun _ => 0))), (q4, .inl (zC v 0, 5, .inl (fun _ => 0)))]) (va_A [(h0, .inr (4, [.int 0, .int 0, .int 0, .int 0, .int 0, .null, .null, .null, .null, .null]))] sz)) 5 120 (va_A [(h0, .inr (4, [.int 0, .int 0, .int 0, .int 0, .int 0, .null, .null, .null, .null, .null]))] sz) := by
  refine Met.ofW (cc := cX5_init) (maxL := 1) (ret := none) (by decide +kernel) rfl ?_
  intro p e s m args below meth c s₁ B hml hv
  obtain ⟨rfl, hsz, hK, hP, hD0⟩ := hv
  have hx := B.exec
  have hb := B.bytes
  have hr := B.returns
  have hts0 := atoms_spec (ws := .code yX5_init cX5_init 1 none :: WL) B.pre
  have hts : ∀ w ∈ WL, w.before #[Value.ref h0] s = true := fun w hw => hts0 w (List.mem_cons_of_mem _ hw)
  have hown : s.vm.findClass RX5 = some m.cls := findClass_of_methodNamed B.named
  have hlocks := B.notSynchronized
  have hin : meth.name = "<init>" := (name_of_methodNamed B.named B.method).1
  subst hsz
  have hD := hD0.self (sz := s.heap.size)
  generalize hAe : va_A [(h0, .inr (4, [.int 0, .int 0, .int 0, .int 0, .int 0, .null, .null, .null, .null, .null]))] s.heap.size = A at hD ⊢
  have hA : ∀ q : Nat, s.heap.size ≤ q → A q := fun q h => by rw [← hAe]; exact Or.inr h
  have hS : va_S A s.heap s.heap [] := va_S.rf
  have hP : va_P (zD v) vwCl [(h0, .inr (4, [.int 0, .int 0, .int 0, .int 0, .int 0, .null, .null, .null, .null, .null]))] s.heap := hP
  have hl := lv_entry ([.ref h0]) (n := 1) (Nat.le_of_ble_eq_true rfl)
  rw [lg_entry_eq]
  generalize (lg_sl ([.ref h0]) ++ List.replicate (1 - (lg_sl ([.ref h0])).length) Slot.unset).toArray = ls at hl ⊢
  have hl : lv_has ls 1 [(0, .ref h0)] := hl
  refine lv_aload_n hx hb dX5_init_0 rfl (lv_at hl 0 rfl) ?_
  refine W.objInit hx hb hown (hts _ ml_X5_3) (hts _ zo_i) (hts _ zo_c) rfl (by rw [hml]; exact hl.1) rfl dX5_init_1 (Nat.le_of_ble_eq_true rfl) (Nat.le_of_ble_eq_true rfl) ?_
  refine W.eq (g2 := F0 m 4 ls []) rfl ?_
  refine lv_aload_n hx hb dX5_init_4 rfl (lv_at hl 0 rfl) ?_
  refine lv_bipush (v := 40) hx hb dX5_init_5 kB_40 ?_
  refine va_put (D := zD v) (ci := 4) (v := .int (40)) (ty := .int) (C := RX5) (T := TX5) (N := 10) hx hb hts iX5 tyX5 tyX5_ok nmX5 hown hK hP hD hS 0 rfl rfl 0 (by decide) (hts _ fl_X5_9) (fun _ h9 => h9) rfl pd_I rfl rfl (Nat.le_of_ble_eq_true rfl) dX5_init_7 (fun H locs hP hD hS => ?_)
  have hP : va_P (zD v) vwCl [(h0, .inr (4, [.int (40), .int 0, .int 0, .int 0, .int 0, .null, .null, .null, .null, .null]))] H := hP
  have hD : va_D A [(h0, .inr (4, [.int (40), .int 0, .int 0, .int 0, .int 0, .null, .null, .null, .null, .null]))] := hD
  refine lv_aload_n hx hb dX5_init_10 rfl (lv_at hl 0 rfl) ?_
  refine lv_bipush (v := 40) hx hb dX5_init_11 kB_40 ?_
  refine va_put (D := zD v) (ci := 4) (v := .int (40)) (ty := .int) (C := RX5) (T := TX5) (N := 10) hx hb hts iX5 tyX5 tyX5_ok nmX5 hown hK hP hD hS 0 rfl rfl 1 (by decide) (hts _ fl_X5_15) (fun _ h9 => h9) rfl pd_I rfl rfl (Nat.le_of_ble_eq_true rfl) dX5_init_13 (fun H locs hP hD hS => ?_)
  have hP : va_P (zD v) vwCl [(h0, .inr (4, [.int (40), .int (40), .int 0, .int 0, .int 0, .null, .null, .null, .null, .null]))] H := hP
  have hD : va_D A [(h0, .inr (4, [.int (40), .int (40), .int 0, .int 0, .int 0, .null, .null, .null, .null, .null]))] := hD
  refine lv_aload_n hx hb dX5_init_16 rfl (lv_at hl 0 rfl) ?_
  refine lv_bipush (v := 9) hx hb dX5_init_17 kB_9 ?_
  refine va_put (D := zD v) (ci := 4) (v := .int (9)) (ty := .int) (C := RX5) (T := TX5) (N := 10) hx hb hts iX5 tyX5 tyX5_ok nmX5 hown hK hP hD hS 0 rfl rfl 2 (by decide) (hts _ fl_X5_18) (fun _ h9 => h9) rfl pd_I rfl rfl (Nat.le_of_ble_eq_true rfl) dX5_init_19 (fun H locs hP hD hS => ?_)
  have hP : va_P (zD v) vwCl [(h0, .inr (4, [.int (40), .int (40), .int (9), .int 0, .int 0, .null, .null, .null, .null, .null]))] H := hP
  have hD : va_D A [(h0, .inr (4, [.int (40), .int (40), .int (9), .int 0, .int 0, .null, .null, .null, .null, .null]))] := hD
  refine lv_aload_n hx hb dX5_init_22 rfl (lv_at hl 0 rfl) ?_
  refine lv_bipush (v := 100) hx hb dX5_init_23 kB_100 ?_
  refine zn_i hx hb hts hK hP hD hS hA kn_100 kt_100 (Nat.le_of_ble_eq_true rfl) (Nat.le_of_ble_eq_true rfl) (Nat.le_of_ble_eq_true rfl) dX5_init_25 (fun q0 H hP hD hS => ?_)
  have hP : va_P (zD v) vwCl [(h0, .inr (4, [.int (40), .int (40), .int (9), .int 0, .int 0, .null, .null, .null, .null, .null])), (q0, .inl (zC v 0, 100, .inl (fun _ => 0)))] H := hP
  have hD : va_D A [(h0, .inr (4, [.int (40), .int (40), .int (9), .int 0, .int 0, .null, .null, .null, .null, .null])), (q0, .inl (zC v 0, 100, .inl (fun _ => 0)))] := hD
  refine va_putF (D := zD v) (ci := 4) (v := .ref q0) (ty := (.array .int)) (C := RX5) (T := TX5) (N := 10) hx hb hts iX5 tyX5 tyX5_ok nmX5 hown hK hP hD hS 0 rfl rfl 5 (by decide) (hts _ fl_X5_21) (fun _ h9 => h9) rfl hin rfl (by decide +kernel) rfl rfl (Nat.le_of_ble_eq_true rfl) dX5_init_27 (fun H locs hP hD hS => ?_)
  have hP : va_P (zD v) vwCl [(h0, .inr (4, [.int (40), .int (40), .int (9), .int 0, .int 0, .ref q0, .null, .null, .null, .null])), (q0, .inl (zC v 0, 100, .inl (fun _ => 0)))] H := hP
  have hD : va_D A [(h0, .inr (4, [.int (40), .int (40), .int (9), .int 0, .int 0, .ref q0, .null, .null, .null, .null])), (q0, .inl (zC v 0, 100, .inl (fun _ => 0)))] := hD
  refine lv_aload_n hx hb dX5_init_30 rfl (lv_at hl 0 rfl) ?_
  refine lv_iconst (v := 5) hx hb dX5_init_31 kI_5 ?_
  refine zn_i hx hb hts hK hP hD hS hA kn_5 kt_5 (Nat.le_of_ble_eq_true rfl) (Nat.le_of_ble_eq_true rfl) (Nat.le_of_ble_eq_true rfl) dX5_init_32 (fun q1 H hP hD hS => ?_)
  have hP : va_P (zD v) vwCl [(h0, .inr (4, [.int (40), .int (40), .int (9), .int 0, .int 0, .ref q0, .null, .null, .null, .null])), (q0, .inl (zC v 0, 100, .inl (fun _ => 0))), (q1, .inl (zC v 0, 5, .inl (fun _ => 0)))] H := hP
  have hD : va_D A [(h0, .inr (4, [.int (40), .int (40), .int (9), .int 0, .int 0, .ref q0, .null, .null, .null, .null])), (q0, .inl (zC v 0, 100, .inl (fun _ => 0))), (q1, .inl (zC v 0, 5, .inl (fun _ => 0)))] := hD
  refine va_putF (D := zD v) (ci := 4) (v := .ref q1) (ty := (.array .int)) (C := RX5) (T := TX5) (N := 10) hx hb hts iX5 tyX5 tyX5_ok nmX5 hown hK hP hD hS 0 rfl rfl 6 (by decide) (hts _ fl_X5_25) (fun _ h9 => h9) rfl hin rfl (by decide +kernel) rfl rfl (Nat.le_of_ble_eq_true rfl) dX5_init_34 (fun H locs hP hD hS => ?_)
  have hP : va_P (zD v) vwCl [(h0, .inr (4, [.int (40), .int (40), .int (9), .int 0, .int 0, .ref q0, .ref q1, .null, .null, .null])), (q0, .inl (zC v 0, 100, .inl (fun _ => 0))), (q1, .inl (zC v 0, 5, .inl (fun _ => 0)))] H := hP
  have hD : va_D A [(h0, .inr (4, [.int (40), .int (40), .int (9), .int 0, .int 0, .ref q0, .ref q1, .null, .null, .null])), (q0, .inl (zC v 0, 100, .inl (fun _ => 0))), (q1, .inl (zC v 0, 5, .inl (fun _ => 0)))] := hD
  refine lv_aload_n hx hb dX5_init_37 rfl (lv_at hl 0 rfl) ?_
  refine lv_iconst (v := 5) hx hb dX5_init_38 kI_5 ?_
  refine zn_i hx hb hts hK hP hD hS hA kn_5 kt_5 (Nat.le_of_ble_eq_true rfl) (Nat.le_of_ble_eq_true rfl) (Nat.le_of_ble_eq_true rfl) dX5_init_39 (fun q2 H hP hD hS => ?_)
  have hP : va_P (zD v) vwCl [(h0, .inr (4, [.int (40), .int (40), .int (9), .int 0, .int 0, .ref q0, .ref q1, .null, .null, .null])), (q0, .inl (zC v 0, 100, .inl (fun _ => 0))), (q1, .inl (zC v 0, 5, .inl (fun _ => 0))), (q2, .inl (zC v 0, 5, .inl (fun _ => 0)))] H := hP
  have hD : va_D A [(h0, .inr (4, [.int (40), .int (40), .int (9), .int 0, .int 0, .ref q0, .ref q1, .null, .null, .null])), (q0, .inl (zC v 0, 100, .inl (fun _ => 0))), (q1, .inl (zC v 0, 5, .inl (fun _ => 0))), (q2, .inl (zC v 0, 5, .inl (fun _ => 0)))] := hD
  refine va_putF (D := zD v) (ci := 4) (v := .ref q2) (ty := (.array .int)) (C := RX5) (T := TX5) (N := 10) hx hb hts iX5 tyX5 tyX5_ok nmX5 hown hK hP hD hS 0 rfl rfl 7 (by decide) (hts _ fl_X5_28) (fun _ h9 => h9) rfl hin rfl (by decide +kernel) rfl rfl (Nat.le_of_ble_eq_true rfl) dX5_init_41 (fun H locs hP hD hS => ?_)
  have hP : va_P (zD v) vwCl [(h0, .inr (4, [.int (40), .int (40), .int (9), .int 0, .int 0, .ref q0, .ref q1, .ref q2, .null, .null])), (q0, .inl (zC v 0, 100, .inl (fun _ => 0))), (q1, .inl (zC v 0, 5, .inl (fun _ => 0))), (q2, .inl (zC v 0, 5, .inl (fun _ => 0)))] H := hP
  have hD : va_D A [(h0, .inr (4, [.int (40), .int (40), .int (9), .int 0, .int 0, .ref q0, .ref q1, .ref q2, .null, .null])), (q0, .inl (zC v 0, 100, .inl (fun _ => 0))), (q1, .inl (zC v 0, 5, .inl (fun _ => 0))), (q2, .inl (zC v 0, 5, .inl (fun _ => 0)))] := hD
  refine lv_aload_n hx hb dX5_init_44 rfl (lv_at hl 0 rfl) ?_
  refine lv_iconst (v := 5) hx hb dX5_init_45 kI_5 ?_
  refine zn_i hx hb hts hK hP hD hS hA kn_5 kt_5 (Nat.le_of_ble_eq_true rfl) (Nat.le_of_ble_eq_true rfl) (Nat.le_of_ble_eq_true rfl) dX5_init_46 (fun q3 H hP hD hS => ?_)
  have hP : va_P (zD v) vwCl [(h0, .inr (4, [.int (40), .int (40), .int (9), .int 0, .int 0, .ref q0, .ref q1, .ref q2, .null, .null])), (q0, .inl (zC v 0, 100, .inl (fun _ => 0))), (q1, .inl (zC v 0, 5, .inl (fun _ => 0))), (q2, .inl (zC v 0, 5, .inl (fun _ => 0))), (q3, .inl (zC v 0, 5, .inl (fun _ => 0)))] H := hP
  have hD : va_D A [(h0, .inr (4, [.int (40), .int (40), .int (9), .int 0, .int 0, .ref q0, .ref q1, .ref q2, .null, .null])), (q0, .inl (zC v 0, 100, .inl (fun _ => 0))), (q1, .inl (zC v 0, 5, .inl (fun _ => 0))), (q2, .inl (zC v 0, 5, .inl (fun _ => 0))), (q3, .inl (zC v 0, 5, .inl (fun _ => 0)))] := hD
  refine va_putF (D := zD v) (ci := 4) (v := .ref q3) (ty := (.array .int)) (C := RX5) (T := TX5) (N := 10) hx hb hts iX5 tyX5 tyX5_ok nmX5 hown hK hP hD hS 0 rfl rfl 8 (by decide) (hts _ fl_X5_31) (fun _ h9 => h9) rfl hin rfl (by decide +kernel) rfl rfl (Nat.le_of_ble_eq_true rfl) dX5_init_48 (fun H locs hP hD hS => ?_)
  have hP : va_P (zD v) vwCl [(h0, .inr (4, [.int (40), .int (40), .int (9), .int 0, .int 0, .ref q0, .ref q1, .ref q2, .ref q3, .null])), (q0, .inl (zC v 0, 100, .inl (fun _ => 0))), (q1, .inl (zC v 0, 5, .inl (fun _ => 0))), (q2, .inl (zC v 0, 5, .inl (fun _ => 0))), (q3, .inl (zC v 0, 5, .inl (fun _ => 0)))] H := hP
  have hD : va_D A [(h0, .inr (4, [.int (40), .int (40), .int (9), .int 0, .int 0, .ref q0, .ref q1, .ref q2, .ref q3, .null])), (q0, .inl (zC v 0, 100, .inl (fun _ => 0))), (q1, .inl (zC v 0, 5, .inl (fun _ => 0))), (q2, .inl (zC v 0, 5, .inl (fun _ => 0))), (q3, .inl (zC v 0, 5, .inl (fun _ => 0)))] := hD
  refine lv_aload_n hx hb dX5_init_51 rfl (lv_at hl 0 rfl) ?_
  refine lv_iconst (v := 5) hx hb dX5_init_52 kI_5 ?_
  refine zn_i hx hb hts hK hP hD hS hA kn_5 kt_5 (Nat.le_of_ble_eq_true rfl) (Nat.le_of_ble_eq_true rfl) (Nat.le_of_ble_eq_true rfl) dX5_init_53 (fun q4 H hP hD hS => ?_)
  have hP : va_P (zD v) vwCl [(h0, .inr (4, [.int (40), .int (40), .int (9), .int 0, .int 0, .ref q0, .ref q1, .ref q2, .ref q3, .null])), (q0, .inl (zC v 0, 100, .inl (fun _ => 0))), (q1, .inl (zC v 0, 5, .inl (fun _ => 0))), (q2, .inl (zC v 0, 5, .inl (fun _ => 0))), (q3, .inl (zC v 0, 5, .inl (fun _ => 0))), (q4, .inl (zC v 0, 5, .inl (fun _ => 0)))] H := hP
  have hD : va_D A [(h0, .inr (4, [.int (40), .int (40), .int (9), .int 0, .int 0, .ref q0, .ref q1, .ref q2, .ref q3, .null])), (q0, .inl (zC v 0, 100, .inl (fun _ => 0))), (q1, .inl (zC v 0, 5, .inl (fun _ => 0))), (q2, .inl (zC v 0, 5, .inl (fun _ => 0))), (q3, .inl (zC v 0, 5, .inl (fun _ => 0))), (q4, .inl (zC v 0, 5, .inl (fun _ => 0)))] := hD
  refine va_putF (D := zD v) (ci := 4) (v := .ref q4) (ty := (.array .int)) (C := RX5) (T := TX5) (N := 10) hx hb hts iX5 tyX5 tyX5_ok nmX5 hown hK hP hD hS 0 rfl rfl 9 (by decide) (hts _ fl_X5_34) (fun _ h9 => h9) rfl hin rfl (by decide +kernel) rfl rfl (Nat.le_of_ble_eq_true rfl) dX5_init_55 (fun H locs hP hD hS => ?_)
  have hP : va_P (zD v) vwCl [(h0, .inr (4, [.int (40), .int (40), .int (9), .int 0, .int 0, .ref q0, .ref q1, .ref q2, .ref q3, .ref q4])), (q0, .inl (zC v 0, 100, .inl (fun _ => 0))), (q1, .inl (zC v 0, 5, .inl (fun _ => 0))), (q2, .inl (zC v 0, 5, .inl (fun _ => 0))), (q3, .inl (zC v 0, 5, .inl (fun _ => 0))), (q4, .inl (zC v 0, 5, .inl (fun _ => 0)))] H := hP
  have hD : va_D A [(h0, .inr (4, [.int (40), .int (40), .int (9), .int 0, .int 0, .ref q0, .ref q1, .ref q2, .ref q3, .ref q4])), (q0, .inl (zC v 0, 100, .inl (fun _ => 0))), (q1, .inl (zC v 0, 5, .inl (fun _ => 0))), (q2, .inl (zC v 0, 5, .inl (fun _ => 0))), (q3, .inl (zC v 0, 5, .inl (fun _ => 0))), (q4, .inl (zC v 0, 5, .inl (fun _ => 0)))] := hD
  exact W.vret hx hb hr (fun t ht hW => ⟨⟨(), rfl, trivial, q0, q1, q2, q3, q4, by rw [ht]; exact hP, hD⟩, hS.F ht⟩) hS.2.2 dX5_init_58
abbrev rm_X2_init : Room := { frames := 1, cells := 5, slots := 646, locals := 60 }
set_option maxRecDepth 100000 in
theorem k_X2_init (l : Launch) (v : Ev) (h0 sz : Nat) : Met l yX2_init (.code yX2_init cX2_init 1 none :: WL) rm_X2_init (va_Pc [.ref h0] (Kc v [(h0, .inr (1, [.null, .int 0, .null, .null, .int 0, .null, .null, .int 0]))] sz)) (va_Qv (fun _ : Unit => True) (fun _ t => ∃ q0 : Nat, ∃ q1 : Nat, ∃ q2 : Nat, ∃ q3 : Nat, ∃ q4 : Nat, va_P (zD v) vwCl [(h0, .inr (1, [.ref q0, .int 0, .ref q1, .ref q2, .int 0, .ref q3, .ref q4, .int 0])), (q0, .inl (zC v 0, 160, .inl (fun _ => 0))), (q1, .inl (zC v 0, 161, .inl (fun _ => 0))), (q2, .inl (zC v 0, 161, .inl (fun _ => 0))), (q3, .inl (zC v 0, 160, .inl (fun _ => 0))), (q4, .inl (zC v 0, 4, .inl (fun _ => 0)))] t.heap ∧ va_D (va_A [(h0, .inr (1, [.null, .int 0, .null, .null, .int 0, .null, .null, .int 0]))] sz) [(h0, .inr (1, [.ref q0, .int 0, .ref q1, .ref q2, .int 0, .ref q3, .ref q4, .int 0])), (q0, .inl (zC v 0, 160, .inl (fun _ => 0))), (q1, .inl (zC v 0, 161, .inl (fun _ => 0))), (q2, .inl (zC v 0, 161, .inl (fun _ => 0))), (q3, .inl (zC v 0, 160, .inl (fun _ => 0))), (q4, .inl (zC v 0, 4, .inl (fun _ => 0)))]) (va_A [(h0, .inr (1, [.null, .int 0, .null, .null, .int 0, .null, .null, .int 0]))] sz)) 5 646 (va_A [(h0, .inr (1, [.null, .int 0, .null, .null, .int 0, .null, .null, .int 0]))] sz) := by
  refine Met.ofW (cc := cX2_init) (maxL := 1) (ret := none) (by decide +kernel) rfl ?_
  intro p e s m args below meth c s₁ B hml hv
  obtain ⟨rfl, hsz, hK, hP, hD0⟩ := hv
  have hx := B.exec
  have hb := B.bytes
  have hr := B.returns
  have hts0 := atoms_spec (ws := .code yX2_init cX2_init 1 none :: WL) B.pre
  have hts : ∀ w ∈ WL, w.before #[Value.ref h0] s = true := fun w hw => hts0 w (List.mem_cons_of_mem _ hw)
  have hown : s.vm.findClass RX2 = some m.cls := findClass_of_methodNamed B.named
  have hlocks := B.notSynchronized
  have hin : meth.name = "<init>" := (name_of_methodNamed B.named B.method).1
  subst hsz
  have hD := hD0.self (sz := s.heap.size)
  generalize hAe : va_A [(h0, .inr (1, [.null, .int 0, .null, .null, .int 0, .null, .null, .int 0]))] s.heap.size = A at hD ⊢
  have hA : ∀ q : Nat, s.heap.size ≤ q → A q := fun q h => by rw [← hAe]; exact Or.inr h
  have hS : va_S A s.heap s.heap [] := va_S.rf
  have hP : va_P (zD v) vwCl [(h0, .inr (1, [.null, .int 0, .null, .null, .int 0, .null, .null, .int 0]))] s.heap := hP
  have hl := lv_entry ([.ref h0]) (n := 1) (Nat.le_of_ble_eq_true rfl)
  rw [lg_entry_eq]
  generalize (lg_sl ([.ref h0]) ++ List.replicate (1 - (lg_sl ([.ref h0])).length) Slot.unset).toArray = ls at hl ⊢
  have hl : lv_has ls 1 [(0, .ref h0)] := hl
  refine lv_aload_n hx hb dX2_init_0 rfl (lv_at hl 0 rfl) ?_
  refine W.objInit hx hb hown (hts _ ml_X2_3) (hts _ zo_i) (hts _ zo_c) rfl (by rw [hml]; exact hl.1) rfl dX2_init_1 (Nat.le_of_ble_eq_true rfl) (Nat.le_of_ble_eq_true rfl) ?_
  refine W.eq (g2 := F0 m 4 ls []) rfl ?_
  refine lv_aload_n hx hb dX2_init_4 rfl (lv_at hl 0 rfl) ?_
  refine lv_sipush (v := 160) hx hb dX2_init_5 kS_160 ?_
  refine zn_i hx hb hts hK hP hD hS hA kn_160 kt_160 (Nat.le_of_ble_eq_true rfl) (Nat.le_of_ble_eq_true rfl) (Nat.le_of_ble_eq_true rfl) dX2_init_8 (fun q0 H hP hD hS => ?_)
  have hP : va_P (zD v) vwCl [(h0, .inr (1, [.null, .int 0, .null, .null, .int 0, .null, .null, .int 0])), (q0, .inl (zC v 0, 160, .inl (fun _ => 0)))] H := hP
  have hD : va_D A [(h0, .inr (1, [.null, .int 0, .null, .null, .int 0, .null, .null, .int 0])), (q0, .inl (zC v 0, 160, .inl (fun _ => 0)))] := hD
  refine va_putF (D := zD v) (ci := 1) (v := .ref q0) (ty := (.array .int)) (C := RX2) (T := TX2) (N := 8) hx hb hts iX2 tyX2 tyX2_ok nmX2 hown hK hP hD hS 0 rfl rfl 0 (by decide) (hts _ fl_X2_9) (fun _ h9 => h9) rfl hin rfl (by decide +kernel) rfl rfl (Nat.le_of_ble_eq_true rfl) dX2_init_10 (fun H locs hP hD hS => ?_)
  have hP : va_P (zD v) vwCl [(h0, .inr (1, [.ref q0, .int 0, .null, .null, .int 0, .null, .null, .int 0])), (q0, .inl (zC v 0, 160, .inl (fun _ => 0)))] H := hP
  have hD : va_D A [(h0, .inr (1, [.ref q0, .int 0, .null, .null, .int 0, .null, .null, .int 0])), (q0, .inl (zC v 0, 160, .inl (fun _ => 0)))] := hD
  refine lv_aload_n hx hb dX2_init_13 rfl (lv_at hl 0 rfl) ?_
  refine lv_sipush (v := 161) hx hb dX2_init_14 kS_161 ?_
  refine zn_i hx hb hts hK hP hD hS hA kn_161 kt_161 (Nat.le_of_ble_eq_true rfl) (Nat.le_of_ble_eq_true rfl) (Nat.le_of_ble_eq_true rfl) dX2_init_17 (fun q1 H hP hD hS => ?_)
  have hP : va_P (zD v) vwCl [(h0, .inr (1, [.ref q0, .int 0, .null, .null, .int 0, .null, .null, .int 0])), (q0, .inl (zC v 0, 160, .inl (fun _ => 0))), (q1, .inl (zC v 0, 161, .inl (fun _ => 0)))] H := hP
  have hD : va_D A [(h0, .inr (1, [.ref q0, .int 0, .null, .null, .int 0, .null, .null, .int 0])), (q0, .inl (zC v 0, 160, .inl (fun _ => 0))), (q1, .inl (zC v 0, 161, .inl (fun _ => 0)))] := hD
  refine va_putF (D := zD v) (ci := 1) (v := .ref q1) (ty := (.array .int)) (C := RX2) (T := TX2) (N := 8) hx hb hts iX2 tyX2 tyX2_ok nmX2 hown hK hP hD hS 0 rfl rfl 2 (by decide) (hts _ fl_X2_15) (fun _ h9 => h9) rfl hin rfl (by decide +kernel) rfl rfl (Nat.le_of_ble_eq_true rfl) dX2_init_19 (fun H locs hP hD hS => ?_)
  have hP : va_P (zD v) vwCl [(h0, .inr (1, [.ref q0, .int 0, .ref q1, .null, .int 0, .null, .null, .int 0])), (q0, .inl (zC v 0, 160, .inl (fun _ => 0))), (q1, .inl (zC v 0, 161, .inl (fun _ => 0)))] H := hP
  have hD : va_D A [(h0, .inr (1, [.ref q0, .int 0, .ref q1, .null, .int 0, .null, .null, .int 0])), (q0, .inl (zC v 0, 160, .inl (fun _ => 0))), (q1, .inl (zC v 0, 161, .inl (fun _ => 0)))] := hD
  refine lv_aload_n hx hb dX2_init_22 rfl (lv_at hl 0 rfl) ?_
  refine lv_sipush (v := 161) hx hb dX2_init_23 kS_161 ?_
  refine zn_i hx hb hts hK hP hD hS hA kn_161 kt_161 (Nat.le_of_ble_eq_true rfl) (Nat.le_of_ble_eq_true rfl) (Nat.le_of_ble_eq_true rfl) dX2_init_26 (fun q2 H hP hD hS => ?_)
  have hP : va_P (zD v) vwCl [(h0, .inr (1, [.ref q0, .int 0, .ref q1, .null, .int 0, .null, .null, .int 0])), (q0, .inl (zC v 0, 160, .inl (fun _ => 0))), (q1, .inl (zC v 0, 161, .inl (fun _ => 0))), (q2, .inl (zC v 0, 161, .inl (fun _ => 0)))] H := hP
  have hD : va_D A [(h0, .inr (1, [.ref q0, .int 0, .ref q1, .null, .int 0, .null, .null, .int 0])), (q0, .inl (zC v 0, 160, .inl (fun _ => 0))), (q1, .inl (zC v 0, 161, .inl (fun _ => 0))), (q2, .inl (zC v 0, 161, .inl (fun _ => 0)))] := hD
  refine va_putF (D := zD v) (ci := 1) (v := .ref q2) (ty := (.array .int)) (C := RX2) (T := TX2) (N := 8) hx hb hts iX2 tyX2 tyX2_ok nmX2 hown hK hP hD hS 0 rfl rfl 3 (by decide) (hts _ fl_X2_18) (fun _ h9 => h9) rfl hin rfl (by decide +kernel) rfl rfl (Nat.le_of_ble_eq_true rfl) dX2_init_28 (fun H locs hP hD hS => ?_)
  have hP : va_P (zD v) vwCl [(h0, .inr (1, [.ref q0, .int 0, .ref q1, .ref q2, .int 0, .null, .null, .int 0])), (q0, .inl (zC v 0, 160, .inl (fun _ => 0))), (q1, .inl (zC v 0, 161, .inl (fun _ => 0))), (q2, .inl (zC v 0, 161, .inl (fun _ => 0)))] H := hP
  have hD : va_D A [(h0, .inr (1, [.ref q0, .int 0, .ref q1, .ref q2, .int 0, .null, .null, .int 0])), (q0, .inl (zC v 0, 160, .inl (fun _ => 0))), (q1, .inl (zC v 0, 161, .inl (fun _ => 0))), (q2, .inl (zC v 0, 161, .inl (fun _ => 0)))] := hD
  refine lv_aload_n hx hb dX2_init_31 rfl (lv_at hl 0 rfl) ?_
  refine lv_sipush (v := 160) hx hb dX2_init_32 kS_160 ?_
  refine zn_i hx hb hts hK hP hD hS hA kn_160 kt_160 (Nat.le_of_ble_eq_true rfl) (Nat.le_of_ble_eq_true rfl) (Nat.le_of_ble_eq_true rfl) dX2_init_35 (fun q3 H hP hD hS => ?_)
  have hP : va_P (zD v) vwCl [(h0, .inr (1, [.ref q0, .int 0, .ref q1, .ref q2, .int 0, .null, .null, .int 0])), (q0, .inl (zC v 0, 160, .inl (fun _ => 0))), (q1, .inl (zC v 0, 161, .inl (fun _ => 0))), (q2, .inl (zC v 0, 161, .inl (fun _ => 0))), (q3, .inl (zC v 0, 160, .inl (fun _ => 0)))] H := hP
  have hD : va_D A [(h0, .inr (1, [.ref q0, .int 0, .ref q1, .ref q2, .int 0, .null, .null, .int 0])), (q0, .inl (zC v 0, 160, .inl (fun _ => 0))), (q1, .inl (zC v 0, 161, .inl (fun _ => 0))), (q2, .inl (zC v 0, 161, .inl (fun _ => 0))), (q3, .inl (zC v 0, 160, .inl (fun _ => 0)))] := hD
  refine va_putF (D := zD v) (ci := 1) (v := .ref q3) (ty := (.array .int)) (C := RX2) (T := TX2) (N := 8) hx hb hts iX2 tyX2 tyX2_ok nmX2 hown hK hP hD hS 0 rfl rfl 5 (by decide) (hts _ fl_X2_21) (fun _ h9 => h9) rfl hin rfl (by decide +kernel) rfl rfl (Nat.le_of_ble_eq_true rfl) dX2_init_37 (fun H locs hP hD hS => ?_)
  have hP : va_P (zD v) vwCl [(h0, .inr (1, [.ref q0, .int 0, .ref q1, .ref q2, .int 0, .ref q3, .null, .int 0])), (q0, .inl (zC v 0, 160, .inl (fun _ => 0))), (q1, .inl (zC v 0, 161, .inl (fun _ => 0))), (q2, .inl (zC v 0, 161, .inl (fun _ => 0))), (q3, .inl (zC v 0, 160, .inl (fun _ => 0)))] H := hP
  have hD : va_D A [(h0, .inr (1, [.ref q0, .int 0, .ref q1, .ref q2, .int 0, .ref q3, .null, .int 0])), (q0, .inl (zC v 0, 160, .inl (fun _ => 0))), (q1, .inl (zC v 0, 161, .inl (fun _ => 0))), (q2, .inl (zC v 0, 161, .inl (fun _ => 0))), (q3, .inl (zC v 0, 160, .inl (fun _ => 0)))] := hD
  refine lv_aload_n hx hb dX2_init_40 rfl (lv_at hl 0 rfl) ?_
  refine lv_iconst (v := 4) hx hb dX2_init_41 kI_4 ?_
  refine zn_i hx hb hts hK hP hD hS hA kn_4 kt_4 (Nat.le_of_ble_eq_true rfl) (Nat.le_of_ble_eq_true rfl) (Nat.le_of_ble_eq_true rfl) dX2_init_42 (fun q4 H hP hD hS => ?_)
  have hP : va_P (zD v) vwCl [(h0, .inr (1, [.ref q0, .int 0, .ref q1, .ref q2, .int 0, .ref q3, .null, .int 0])), (q0, .inl (zC v 0, 160, .inl (fun _ => 0))), (q1, .inl (zC v 0, 161, .inl (fun _ => 0))), (q2, .inl (zC v 0, 161, .inl (fun _ => 0))), (q3, .inl (zC v 0, 160, .inl (fun _ => 0))), (q4, .inl (zC v 0, 4, .inl (fun _ => 0)))] H := hP
  have hD : va_D A [(h0, .inr (1, [.ref q0, .int 0, .ref q1, .ref q2, .int 0, .ref q3, .null, .int 0])), (q0, .inl (zC v 0, 160, .inl (fun _ => 0))), (q1, .inl (zC v 0, 161, .inl (fun _ => 0))), (q2, .inl (zC v 0, 161, .inl (fun _ => 0))), (q3, .inl (zC v 0, 160, .inl (fun _ => 0))), (q4, .inl (zC v 0, 4, .inl (fun _ => 0)))] := hD
  refine va_putF (D := zD v) (ci := 1) (v := .ref q4) (ty := (.array .int)) (C := RX2) (T := TX2) (N := 8) hx hb hts iX2 tyX2 tyX2_ok nmX2 hown hK hP hD hS 0 rfl rfl 6 (by decide) (hts _ fl_X2_24) (fun _ h9 => h9) rfl hin rfl (by decide +kernel) rfl rfl (Nat.le_of_ble_eq_true rfl) dX2_init_44 (fun H locs hP hD hS => ?_)
  have hP : va_P (zD v) vwCl [(h0, .inr (1, [.ref q0, .int 0, .ref q1, .ref q2, .int 0, .ref q3, .ref q4, .int 0])), (q0, .inl (zC v 0, 160, .inl (fun _ => 0))), (q1, .inl (zC v 0, 161, .inl (fun _ => 0))), (q2, .inl (zC v 0, 161, .inl (fun _ => 0))), (q3, .inl (zC v 0, 160, .inl (fun _ => 0))), (q4, .inl (zC v 0, 4, .inl (fun _ => 0)))] H := hP
  have hD : va_D A [(h0, .inr (1, [.ref q0, .int 0, .ref q1, .ref q2, .int 0, .ref q3, .ref q4, .int 0])), (q0, .inl (zC v 0, 160, .inl (fun _ => 0))), (q1, .inl (zC v 0, 161, .inl (fun _ => 0))), (q2, .inl (zC v 0, 161, .inl (fun _ => 0))), (q3, .inl (zC v 0, 160, .inl (fun _ => 0))), (q4, .inl (zC v 0, 4, .inl (fun _ => 0)))] := hD
  exact W.vret hx hb hr (fun t ht hW => ⟨⟨(), rfl, trivial, q0, q1, q2, q3, q4, by rw [ht]; exact hP, hD⟩, hS.F ht⟩) hS.2.2 dX2_init_47
abbrev rm_X6_init : Room := { frames := 1, cells := 4, slots := 1150, locals := 60 }
set_option maxRecDepth 100000 in
theorem k_X6_init (l : Launch) (v : Ev) (h0 sz : Nat) : Met l yX6_init (.code yX6_init cX6_init 1 none :: WL) rm_X6_init (va_Pc [.ref h0] (Kc v [(h0, .inr (5, [.int 0, .null, .null, .null, .null]))] sz)) (va_Qv (fun _ : Unit => True) (fun _ t => ∃ q0 : Nat, ∃ q1 : Nat, ∃ q2 : Nat, ∃ q3 : Nat, va_P (zD v) vwCl [(h0, .inr (5, [.int 0, .ref q0, .ref q1, .ref q2, .ref q3])), (q0, .inl (zC v 0, 960, .inl (fun _ => 0))), (q1, .inl (zC v 0, 24, .inl (fun _ => 0))), (q2, .inl (zC v 0, 6, .inl (fun _ => 0))), (q3, .inl (zC v 0, 160, .inl (fun _ => 0)))] t.heap ∧ va_D (va_A [(h0, .inr (5, [.int 0, .null, .null, .null, .null]))] sz) [(h0, .inr (5, [.int 0, .ref q0, .ref q1, .ref q2, .ref q3])), (q0, .inl (zC v 0, 960, .inl (fun _ => 0))), (q1, .inl (zC v 0, 24, .inl (fun _ => 0))), (q2, .inl (zC v 0, 6, .inl (fun _ => 0))), (q3, .inl (zC v 0, 160, .inl (fun _ => 0)))]) (va_A [(h0, .inr (5, [.int 0, .null, .null, .null, .null]))] sz)) 4 1150 (va_A [(h0, .inr (5, [.int 0, .null, .null, .null, .null]))] sz) := by
  refine Met.ofW (cc := cX6_init) (maxL := 1) (ret := none) (by decide +kernel) rfl ?_
  intro p e s m args below meth c s₁ B hml hv
  obtain ⟨rfl, hsz, hK, hP, hD0⟩ := hv
  have hx := B.exec
  have hb := B.bytes
  have hr := B.returns
  have hts0 := atoms_spec (ws := .code yX6_init cX6_init 1 none :: WL) B.pre
  have hts : ∀ w ∈ WL, w.before #[Value.ref h0] s = true := fun w hw => hts0 w (List.mem_cons_of_mem _ hw)
  have hown : s.vm.findClass RX6 = some m.cls := findClass_of_methodNamed B.named
  have hlocks := B.notSynchronized
  have hin : meth.name = "<init>" := (name_of_methodNamed B.named B.method).1
  subst hsz
  have hD := hD0.self (sz := s.heap.size)
  generalize hAe : va_A [(h0, .inr (5, [.int 0, .null, .null, .null, .null]))] s.heap.size = A at hD ⊢
  have hA : ∀ q : Nat, s.heap.size ≤ q → A q := fun q h => by rw [← hAe]; exact Or.inr h
  have hS : va_S A s.heap s.heap [] := va_S.rf
  have hP : va_P (zD v) vwCl [(h0, .inr (5, [.int 0, .null, .null, .null, .null]))] s.heap := hP
  have hl := lv_entry ([.ref h0]) (n := 1) (Nat.le_of_ble_eq_true rfl)
  rw [lg_entry_eq]
  generalize (lg_sl ([.ref h0]) ++ List.replicate (1 - (lg_sl ([.ref h0])).length) Slot.unset).toArray = ls at hl ⊢
  have hl : lv_has ls 1 [(0, .ref h0)] := hl
  refine lv_aload_n hx hb dX6_init_0 rfl (lv_at hl 0 rfl) ?_
  refine W.objInit hx hb hown (hts _ ml_X6_3) (hts _ zo_i) (hts _ zo_c) rfl (by rw [hml]; exact hl.1) rfl dX6_init_1 (Nat.le_of_ble_eq_true rfl) (Nat.le_of_ble_eq_true rfl) ?_
  refine W.eq (g2 := F0 m 4 ls []) rfl ?_
  refine lv_aload_n hx hb dX6_init_4 rfl (lv_at hl 0 rfl) ?_
  refine lv_sipush (v := 960) hx hb dX6_init_5 kS_960 ?_
  refine zn_i hx hb hts hK hP hD hS hA kn_960 kt_960 (Nat.le_of_ble_eq_true rfl) (Nat.le_of_ble_eq_true rfl) (Nat.le_of_ble_eq_true rfl) dX6_init_8 (fun q0 H hP hD hS => ?_)
  have hP : va_P (zD v) vwCl [(h0, .inr (5, [.int 0, .null, .null, .null, .null])), (q0, .inl (zC v 0, 960, .inl (fun _ => 0)))] H := hP
  have hD : va_D A [(h0, .inr (5, [.int 0, .null, .null, .null, .null])), (q0, .inl (zC v 0, 960, .inl (fun _ => 0)))] := hD
  refine va_putF (D := zD v) (ci := 5) (v := .ref q0) (ty := (.array .int)) (C := RX6) (T := TX6) (N := 5) hx hb hts iX6 tyX6 tyX6_ok nmX6 hown hK hP hD hS 0 rfl rfl 1 (by decide) (hts _ fl_X6_9) (fun _ h9 => h9) rfl hin rfl (by decide +kernel) rfl rfl (Nat.le_of_ble_eq_true rfl) dX6_init_10 (fun H locs hP hD hS => ?_)
  have hP : va_P (zD v) vwCl [(h0, .inr (5, [.int 0, .ref q0, .null, .null, .null])), (q0, .inl (zC v 0, 960, .inl (fun _ => 0)))] H := hP
  have hD : va_D A [(h0, .inr (5, [.int 0, .ref q0, .null, .null, .null])), (q0, .inl (zC v 0, 960, .inl (fun _ => 0)))] := hD
  refine lv_aload_n hx hb dX6_init_13 rfl (lv_at hl 0 rfl) ?_
  refine lv_bipush (v := 24) hx hb dX6_init_14 kB_24 ?_
  refine zn_i hx hb hts hK hP hD hS hA kn_24 kt_24 (Nat.le_of_ble_eq_true rfl) (Nat.le_of_ble_eq_true rfl) (Nat.le_of_ble_eq_true rfl) dX6_init_16 (fun q1 H hP hD hS => ?_)
  have hP : va_P (zD v) vwCl [(h0, .inr (5, [.int 0, .ref q0, .null, .null, .null])), (q0, .inl (zC v 0, 960, .inl (fun _ => 0))), (q1, .inl (zC v 0, 24, .inl (fun _ => 0)))] H := hP
  have hD : va_D A [(h0, .inr (5, [.int 0, .ref q0, .null, .null, .null])), (q0, .inl (zC v 0, 960, .inl (fun _ => 0))), (q1, .inl (zC v 0, 24, .inl (fun _ => 0)))] := hD
  refine va_putF (D := zD v) (ci := 5) (v := .ref q1) (ty := (.array .int)) (C := RX6) (T := TX6) (N := 5) hx hb hts iX6 tyX6 tyX6_ok nmX6 hown hK hP hD hS 0 rfl rfl 2 (by decide) (hts _ fl_X6_15) (fun _ h9 => h9) rfl hin rfl (by decide +kernel) rfl rfl (Nat.le_of_ble_eq_true rfl) dX6_init_18 (fun H locs hP hD hS => ?_)
  have hP : va_P (zD v) vwCl [(h0, .inr (5, [.int 0, .ref q0, .ref q1, .null, .null])), (q0, .inl (zC v 0, 960, .inl (fun _ => 0))), (q1, .inl (zC v 0, 24, .inl (fun _ => 0)))] H := hP
  have hD : va_D A [(h0, .inr (5, [.int 0, .ref q0, .ref q1, .null, .null])), (q0, .inl (zC v 0, 960, .inl (fun _ => 0))), (q1, .inl (zC v 0, 24, .inl (fun _ => 0)))] := hD
  refine lv_aload_n hx hb dX6_init_21 rfl (lv_at hl 0 rfl) ?_
  refine lv_bipush (v := 6) hx hb dX6_init_22 kB_6 ?_
  refine zn_i hx hb hts hK hP hD hS hA kn_6 kt_6 (Nat.le_of_ble_eq_true rfl) (Nat.le_of_ble_eq_true rfl) (Nat.le_of_ble_eq_true rfl) dX6_init_24 (fun q2 H hP hD hS => ?_)
  have hP : va_P (zD v) vwCl [(h0, .inr (5, [.int 0, .ref q0, .ref q1, .null, .null])), (q0, .inl (zC v 0, 960, .inl (fun _ => 0))), (q1, .inl (zC v 0, 24, .inl (fun _ => 0))), (q2, .inl (zC v 0, 6, .inl (fun _ => 0)))] H := hP
  have hD : va_D A [(h0, .inr (5, [.int 0, .ref q0, .ref q1, .null, .null])), (q0, .inl (zC v 0, 960, .inl (fun _ => 0))), (q1, .inl (zC v 0, 24, .inl (fun _ => 0))), (q2, .inl (zC v 0, 6, .inl (fun _ => 0)))] := hD
  refine va_putF (D := zD v) (ci := 5) (v := .ref q2) (ty := (.array .int)) (C := RX6) (T := TX6) (N := 5) hx hb hts iX6 tyX6 tyX6_ok nmX6 hown hK hP hD hS 0 rfl rfl 3 (by decide) (hts _ fl_X6_18) (fun _ h9 => h9) rfl hin rfl (by decide +kernel) rfl rfl (Nat.le_of_ble_eq_true rfl) dX6_init_26 (fun H locs hP hD hS => ?_)
  have hP : va_P (zD v) vwCl [(h0, .inr (5, [.int 0, .ref q0, .ref q1, .ref q2, .null])), (q0, .inl (zC v 0, 960, .inl (fun _ => 0))), (q1, .inl (zC v 0, 24, .inl (fun _ => 0))), (q2, .inl (zC v 0, 6, .inl (fun _ => 0)))] H := hP
  have hD : va_D A [(h0, .inr (5, [.int 0, .ref q0, .ref q1, .ref q2, .null])), (q0, .inl (zC v 0, 960, .inl (fun _ => 0))), (q1, .inl (zC v 0, 24, .inl (fun _ => 0))), (q2, .inl (zC v 0, 6, .inl (fun _ => 0)))] := hD
  refine lv_aload_n hx hb dX6_init_29 rfl (lv_at hl 0 rfl) ?_
  refine lv_sipush (v := 160) hx hb dX6_init_30 kS_160 ?_
  refine zn_i hx hb hts hK hP hD hS hA kn_160 kt_160 (Nat.le_of_ble_eq_true rfl) (Nat.le_of_ble_eq_true rfl) (Nat.le_of_ble_eq_true rfl) dX6_init_33 (fun q3 H hP hD hS => ?_)
  have hP : va_P (zD v) vwCl [(h0, .inr (5, [.int 0, .ref q0, .ref q1, .ref q2, .null])), (q0, .inl (zC v 0, 960, .inl (fun _ => 0))), (q1, .inl (zC v 0, 24, .inl (fun _ => 0))), (q2, .inl (zC v 0, 6, .inl (fun _ => 0))), (q3, .inl (zC v 0, 160, .inl (fun _ => 0)))] H := hP
  have hD : va_D A [(h0, .inr (5, [.int 0, .ref q0, .ref q1, .ref q2, .null])), (q0, .inl (zC v 0, 960, .inl (fun _ => 0))), (q1, .inl (zC v 0, 24, .inl (fun _ => 0))), (q2, .inl (zC v 0, 6, .inl (fun _ => 0))), (q3, .inl (zC v 0, 160, .inl (fun _ => 0)))] := hD
  refine va_putF (D := zD v) (ci := 5) (v := .ref q3) (ty := (.array .int)) (C := RX6) (T := TX6) (N := 5) hx hb hts iX6 tyX6 tyX6_ok nmX6 hown hK hP hD hS 0 rfl rfl 4 (by decide) (hts _ fl_X6_21) (fun _ h9 => h9) rfl hin rfl (by decide +kernel) rfl rfl (Nat.le_of_ble_eq_true rfl) dX6_init_35 (fun H locs hP hD hS => ?_)
  have hP : va_P (zD v) vwCl [(h0, .inr (5, [.int 0, .ref q0, .ref q1, .ref q2, .ref q3])), (q0, .inl (zC v 0, 960, .inl (fun _ => 0))), (q1, .inl (zC v 0, 24, .inl (fun _ => 0))), (q2, .inl (zC v 0, 6, .inl (fun _ => 0))), (q3, .inl (zC v 0, 160, .inl (fun _ => 0)))] H := hP
  have hD : va_D A [(h0, .inr (5, [.int 0, .ref q0, .ref q1, .ref q2, .ref q3])), (q0, .inl (zC v 0, 960, .inl (fun _ => 0))), (q1, .inl (zC v 0, 24, .inl (fun _ => 0))), (q2, .inl (zC v 0, 6, .inl (fun _ => 0))), (q3, .inl (zC v 0, 160, .inl (fun _ => 0)))] := hD
  exact W.vret hx hb hr (fun t ht hW => ⟨⟨(), rfl, trivial, q0, q1, q2, q3, by rw [ht]; exact hP, hD⟩, hS.F ht⟩) hS.2.2 dX6_init_38
abbrev rm_X4_init : Room := { frames := 1, cells := 0, slots := 0, locals := 60 }
set_option maxRecDepth 100000 in
theorem k_X4_init (l : Launch) (v : Ev) (h0 sz : Nat) : Met l yX4_init (.code yX4_init cX4_init 1 none :: WL) rm_X4_init (va_Pc [.ref h0] (Kc v [(h0, .inr (3, [.int 0, .int 0]))] sz)) (va_Qv (fun _ : Unit => True) (fun _ t => va_P (zD v) vwCl [(h0, .inr (3, [.int 0, .int 0]))] t.heap ∧ va_D (va_A [(h0, .inr (3, [.int 0, .int 0]))] sz) [(h0, .inr (3, [.int 0, .int 0]))]) (va_A [(h0, .inr (3, [.int 0, .int 0]))] sz)) 0 0 (va_A [(h0, .inr (3, [.int 0, .int 0]))] sz) := by
  refine Met.ofW (cc := cX4_init) (maxL := 1) (ret := none) (by decide +kernel) rfl ?_
  intro p e s m args below meth c s₁ B hml hv
  obtain ⟨rfl, hsz, hK, hP, hD0⟩ := hv
  have hx := B.exec
  have hb := B.bytes
  have hr := B.returns
  have hts0 := atoms_spec (ws := .code yX4_init cX4_init 1 none :: WL) B.pre
  have hts : ∀ w ∈ WL, w.before #[Value.ref h0] s = true := fun w hw => hts0 w (List.mem_cons_of_mem _ hw)
  have hown : s.vm.findClass RX4 = some m.cls := findClass_of_methodNamed B.named
  have hlocks := B.notSynchronized
  have hin : meth.name = "<init>" := (name_of_methodNamed B.named B.method).1
  subst hsz
  have hD := hD0.self (sz := s.heap.size)
  generalize hAe : va_A [(h0, .inr (3, [.int 0, .int 0]))] s.heap.size = A at hD ⊢
  have hA : ∀ q : Nat, s.heap.size ≤ q → A q := fun q h => by rw [← hAe]; exact Or.inr h
  have hS : va_S A s.heap s.heap [] := va_S.rf
  have hP : va_P (zD v) vwCl [(h0, .inr (3, [.int 0, .int 0]))] s.heap := hP
  have hl := lv_entry ([.ref h0]) (n := 1) (Nat.le_of_ble_eq_true rfl)
  rw [lg_entry_eq]
  generalize (lg_sl ([.ref h0]) ++ List.replicate (1 - (lg_sl ([.ref h0])).length) Slot.unset).toArray = ls at hl ⊢
  have hl : lv_has ls 1 [(0, .ref h0)] := hl
  refine lv_aload_n hx hb dX4_init_0 rfl (lv_at hl 0 rfl) ?_
  refine W.objInit hx hb hown (hts _ ml_X4_3) (hts _ zo_i) (hts _ zo_c) rfl (by rw [hml]; exact hl.1) rfl dX4_init_1 (Nat.le_of_ble_eq_true rfl) (Nat.le_of_ble_eq_true rfl) ?_
  refine W.eq (g2 := F0 m 4 ls []) rfl ?_
  exact W.vret hx hb hr (fun t ht hW => ⟨⟨(), rfl, trivial, by rw [ht]; exact hP, hD⟩, hS.F ht⟩) hS.2.2 dX4_init_4
abbrev rm_X1_init : Room := { frames := 1, cells := 0, slots := 0, locals := 60 }
set_option maxRecDepth 100000 in
theorem k_X1_init (l : Launch) (v : Ev) (h0 sz : Nat) : Met l yX1_init (.code yX1_init cX1_init 1 none :: WL) rm_X1_init (va_Pc [.ref h0] (Kc v [(h0, .inr (0, [.int 0, .int 0]))] sz)) (va_Qv (fun _ : Unit => True) (fun _ t => va_P (zD v) vwCl [(h0, .inr (0, [.int 0, .int 0]))] t.heap ∧ va_D (va_A [(h0, .inr (0, [.int 0, .int 0]))] sz) [(h0, .inr (0, [.int 0, .int 0]))]) (va_A [(h0, .inr (0, [.int 0, .int 0]))] sz)) 0 0 (va_A [(h0, .inr (0, [.int 0, .int 0]))] sz) := by
  refine Met.ofW (cc := cX1_init) (maxL := 1) (ret := none) (by decide +kernel) rfl ?_
  intro p e s m args below meth c s₁ B hml hv
  obtain ⟨rfl, hsz, hK, hP, hD0⟩ := hv
  have hx := B.exec
  have hb := B.bytes
  have hr := B.returns
  have hts0 := atoms_spec (ws := .code yX1_init cX1_init 1 none :: WL) B.pre
  have hts : ∀ w ∈ WL, w.before #[Value.ref h0] s = true := fun w hw => hts0 w (List.mem_cons_of_mem _ hw)
  have hown : s.vm.findClass RX1 = some m.cls := findClass_of_methodNamed B.named
  have hlocks := B.notSynchronized
  have hin : meth.name = "<init>" := (name_of_methodNamed B.named B.method).1
  subst hsz
  have hD := hD0.self (sz := s.heap.size)
  generalize hAe : va_A [(h0, .inr (0, [.int 0, .int 0]))] s.heap.size = A at hD ⊢
  have hA : ∀ q : Nat, s.heap.size ≤ q → A q := fun q h => by rw [← hAe]; exact Or.inr h
  have hS : va_S A s.heap s.heap [] := va_S.rf
  have hP : va_P (zD v) vwCl [(h0, .inr (0, [.int 0, .int 0]))] s.heap := hP
  have hl := lv_entry ([.ref h0]) (n := 1) (Nat.le_of_ble_eq_true rfl)
  rw [lg_entry_eq]
  generalize (lg_sl ([.ref h0]) ++ List.replicate (1 - (lg_sl ([.ref h0])).length) Slot.unset).toArray = ls at hl ⊢
  have hl : lv_has ls 1 [(0, .ref h0)] := hl
  refine lv_aload_n hx hb dX1_init_0 rfl (lv_at hl 0 rfl) ?_
  refine W.objInit hx hb hown (hts _ ml_X1_3) (hts _ zo_i) (hts _ zo_c) rfl (by rw [hml]; exact hl.1) rfl dX1_init_1 (Nat.le_of_ble_eq_true rfl) (Nat.le_of_ble_eq_true rfl) ?_
  refine W.eq (g2 := F0 m 4 ls []) rfl ?_
  exact W.vret hx hb hr (fun t ht hW => ⟨⟨(), rfl, trivial, by rw [ht]; exact hP, hD⟩, hS.F ht⟩) hS.2.2 dX1_init_4
