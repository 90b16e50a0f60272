def zW (v : Ev) (g : Sg) : va_W := [(zA v 0, .inr (6, [.ref (zA v 1), .ref (zA v 2), .int (g 0 2), .ref (zA v 3), .ref (zA v 4), .ref (zA v 5), .ref (zA v 6), .ref (zA v 10), .ref (zA v 7), .ref (zA v 8), .ref (zA v 9)])), (zA v 1, .inr (4, [.int (g 1 0), .int (g 1 1), .int (g 1 2), .int (g 1 3), .int (g 1 4), .ref (zA v 11), .ref (zA v 12), .ref (zA v 13), .ref (zA v 14), .ref (zA v 15)])), (zA v 2, .inr (4, [.int (g 2 0), .int (g 2 1), .int (g 2 2), .int (g 2 3), .int (g 2 4), .ref (zA v 16), .ref (zA v 17), .ref (zA v 18), .ref (zA v 19), .ref (zA v 20)])), (zA v 3, .inr (1, [.ref (zA v 21), .int (g 3 1), .ref (zA v 22), .ref (zA v 23), .int (g 3 4), .ref (zA v 24), .ref (zA v 25), .int (g 3 7)])), (zA v 4, .inr (5, [.int (g 4 0), .ref (zA v 26), .ref (zA v 27), .ref (zA v 28), .ref (zA v 29)])), (zA v 5, .inr (2, [.ref (zA v 30), .ref (zA v 31), .ref (zA v 32)])), (zA v 6, .inr (3, [.int (g 6 0), .int (g 6 1)])), (zA v 7, .inr (0, [.int (g 7 0), .int (g 7 1)])), (zA v 8, .inr (0, [.int (g 8 0), .int (g 8 1)])), (zA v 9, .inr (0, [.int (g 9 0), .int (g 9 1)])), (zA v 10, .inl (zC v 0, 100, .inl (g 10))), (zA v 11, .inl (zC v 0, 100, .inl (g 11))), (zA v 12, .inl (zC v 0, 5, .inl (g 12))), (zA v 13, .inl (zC v 0, 5, .inl (g 13))), (zA v 14, .inl (zC v 0, 5, .inl (g 14))), (zA v 15, .inl (zC v 0, 5, .inl (g 15))), (zA v 16, .inl (zC v 0, 100, .inl (g 16))), (zA v 17, .inl (zC v 0, 5, .inl (g 17))), (zA v 18, .inl (zC v 0, 5, .inl (g 18))), (zA v 19, .inl (zC v 0, 5, .inl (g 19))), (zA v 20, .inl (zC v 0, 5, .inl (g 20))), (zA v 21, .inl (zC v 0, 160, .inl (g 21))), (zA v 22, .inl (zC v 0, 161, .inl (g 22))), (zA v 23, .inl (zC v 0, 161, .inl (g 23))), (zA v 24, .inl (zC v 0, 160, .inl (g 24))), (zA v 25, .inl (zC v 0, 4, .inl (g 25))), (zA v 26, .inl (zC v 0, 960, .inl (g 26))), (zA v 27, .inl (zC v 0, 24, .inl (g 27))), (zA v 28, .inl (zC v 0, 6, .inl (g 28))), (zA v 29, .inl (zC v 0, 160, .inl (g 29))), (zA v 30, .inl (zC v 0, 4, .inl (g 30))), (zA v 31, .inl (zC v 0, 4, .inl (g 31))), (zA v 32, .inl (zC v 2, 4, .inr (.inr (.inr (.inr (fun j => some (zA v (33 + j)))))))) , (zA v 33, .inl (zC v 0, 40, .inl (g 33))), (zA v 34, .inl (zC v 0, 40, .inl (g 34))), (zA v 35, .inl (zC v 0, 40, .inl (g 35))), (zA v 36, .inl (zC v 0, 40, .inl (g 36)))]
def zM (v : Ev) (S : SM) : va_W := [(zA v 0, .inr (7, [.int (S.1 0 0), .ref (zA v 1), .ref (zA v 2), .int (S.1 0 3), .int (S.1 0 4), .ref (zA v 3), .int (S.1 0 6), .int (S.1 0 7), .int (S.1 0 8), .int (S.1 0 9), .ref (zA v 4), .ref (zA v 5), .ref (zA v 6), .ref (zA v 7), .ref (zA v 8), .int (S.1 0 15), .int (S.1 0 16), .int (S.1 0 17), .int (S.1 0 18), .int (S.1 0 19), .int (S.1 0 20), .int (S.1 0 21), .int (S.1 0 22), .int (S.1 0 23), .int (S.1 0 24), .int (S.1 0 25), .int (S.1 0 26), .long S.2, .int (S.1 0 28), .int (S.1 0 29), .int (S.1 0 30), .ref (zA v 9), .ref (zA v 10), .ref (zA v 11), .int (S.1 0 34), .ref (zA v 12), .ref (zA v 13), .int (S.1 0 37), .int (S.1 0 38), .ref (zA v 14), .int (S.1 0 40), .int (S.1 0 41), .ref (zA v 15), .int (S.1 0 43), .ref (zA v 16), .ref (zA v 17), .int (S.1 0 46), .int (S.1 0 47), .int (S.1 0 48), .int (S.1 0 49), .int (S.1 0 50), .ref (zA v 18), .ref (zA v 19), .ref (zA v 20), .ref (zA v 21)])), (zA v 1, .inl (zC v 0, 960, .inl (S.1 1))), (zA v 2, .inl (zC v 0, 6, .inl (S.1 2))), (zA v 3, .inl (zC v 0, 160, .inl (S.1 3))), (zA v 4, .inl (zC v 0, 100, .inl (S.1 4))), (zA v 5, .inl (zC v 0, 5, .inl (S.1 5))), (zA v 6, .inl (zC v 0, 5, .inl (S.1 6))), (zA v 7, .inl (zC v 0, 5, .inl (S.1 7))), (zA v 8, .inl (zC v 0, 5, .inl (S.1 8))), (zA v 9, .inl (zC v 0, 10000, .inl (S.1 9))), (zA v 10, .inl (zC v 1, 100, .inl (S.1 10))), (zA v 11, .inl (zC v 0, 5, .inl (S.1 11))), (zA v 12, .inl (zC v 0, 100, .inl (S.1 12))), (zA v 13, .inl (zC v 0, 100, .inl (S.1 13))), (zA v 14, .inl (zC v 1, 2000, .inl (S.1 14))), (zA v 15, .inl (zC v 0, 100, .inl (S.1 15))), (zA v 16, .inl (zC v 0, 100, .inl (S.1 16))), (zA v 17, .inl (zC v 0, 15, .inl (S.1 17))), (zA v 18, .inl (zC v 1, 4, .inl (S.1 18))), (zA v 19, .inl (zC v 0, 4, .inl (S.1 19))), (zA v 20, .inl (zC v 0, 4, .inl (S.1 20))), (zA v 21, .inl (zC v 0, 160, .inl (S.1 21)))]
abbrev nX : Nat := 37
abbrev nM : Nat := 22
/-! the words: all good ones of the tables -/
def WL : List Cond := lw_tbl.filter goodWord
theorem wl {w : Cond} (h : w ∈ lw_tbl) (g : goodWord w = true) : w ∈ WL := List.mem_filter.mpr ⟨h, g⟩
theorem wl_all {ws : List Cond} (h : ws.all (fun w => decide (w ∈ lw_tbl) && goodWord w) = true) : ∀ w ∈ ws, w ∈ WL := fun w hw => by
  have h1 := List.all_eq_true.mp h w hw
  simp only [Bool.and_eq_true, decide_eq_true_eq] at h1
  exact wl h1.1 h1.2
theorem wl_good {w : Cond} (h : w ∈ WL) : w ∈ WL ∧ ((w.onTables && w.keeps) = true ∨ ∃ ty, w = .arrayClass ty) := ⟨h, good_of_word (List.mem_filter.mp h).2⟩
/-! a kind of world: its cells, how many, what else holds -/
abbrev Wp (St : Type) : Type := (Ev → St → va_W) × Nat × (Ev → (Nat → Prop) → State → Heap → Prop)
def An (n : Nat) (v : Ev) : Nat → Prop := fun q => ∃ k, k < n ∧ q = zA v k
def okZ (Z : Ev → (Nat → Prop) → State → Heap → Prop) : Prop := (∀ (v : Ev) (A : Nat → Prop) (u U : State) (H H1 : Heap), u.WarmedH U.vm → (∀ a : Nat, a < H.size → ¬ A a → H1[a]? = H[a]?) → Z v A u H → Z v A U H1) ∧ ∀ (v : Ev) (A : Nat → Prop) (U : State) (H : Heap) (g : JFrame) (mk : MethodId) (a : Array Value), Z v A U H → Z v A (U.calling g mk a) H
def okW {St : Type} (w : Wp St) : Prop := (∀ (v : Ev) (u : St), (w.1 v u).map (fun q => q.1) = (List.range w.2.1).map (zA v)) ∧ okZ w.2.2
def KG {St : Type} (w : Wp St) (v : Ev) (U : State) (H : Heap) : Prop := va_K (zD v) vwCl (zY v) U ∧ (∀ i j : Nat, i < w.2.1 → j < w.2.1 → zA v i = zA v j → i = j) ∧ w.2.2 v (An w.2.1 v) U H
def Pg {St : Type} (w : Wp St) (v : Ev) (u : St) (U : State) : Prop := KG w v U U.heap ∧ va_P (zD v) vwCl (w.1 v u) U.heap
theorem zw_at {St : Type} {w : Wp St} (hw : okW w) {v : Ev} {u : St} {i : Nat} {p : Nat × va_E} (h : (w.1 v u)[i]? = some p) : i < w.2.1 ∧ p.1 = zA v i := by
  have h1 : ((w.1 v u).map (fun q => q.1))[i]? = some p.1 := by rw [List.getElem?_map, h]; rfl
  rw [hw.1, List.getElem?_map] at h1
  by_cases hi : i < w.2.1
  · rw [List.getElem?_range hi] at h1
    exact ⟨hi, (Option.some.inj h1).symm⟩
  · have hn : (List.range w.2.1)[i]? = none := List.getElem?_eq_none (by rw [List.length_range]; omega)
    rw [hn] at h1
    cases h1
theorem zw_D {St : Type} {w : Wp St} (hw : okW w) {v : Ev} {U : State} {H : Heap} (hk : KG w v U H) (u : St) : va_D (An w.2.1 v) (w.1 v u) := by
  refine ⟨fun i j p q hi hj hpq => ?_, fun k q hk1 => ⟨k, zw_at hw hk1⟩⟩
  obtain ⟨a1, a2⟩ := zw_at hw hi
  obtain ⟨b1, b2⟩ := zw_at hw hj
  exact hk.2.1 i j a1 b1 (by rw [← a2, ← b2]; exact hpq)
theorem zk_go {St : Type} {w : Wp St} (hw : okW w) {v : Ev} {s U : State} {H : Heap} {locs : List Loc} (hk : KG w v s s.heap) (hS : va_S (An w.2.1 v) s.heap H locs) (hU : U.heap = H) (hW : s.WarmedH U.vm) : KG w v U U.heap := by
  subst hU
  exact ⟨va_K.moved hW.alike hk.1, hk.2.1, hw.2.1 v _ s U _ _ hW hS.2.1 hk.2.2⟩
theorem zk_call {St : Type} {w : Wp St} (hw : okW w) {v : Ev} {u : St} {U : State} {g : JFrame} {mk : MethodId} {a : Array Value} (h : Pg w v u U) : Pg w v u (U.calling g mk a) := ⟨⟨va_K.moved (u := U) (U := U.calling g mk a) (Vm.Alike.refl U.vm) h.1.1, h.1.2.1, hw.2.2 v _ U _ g mk a h.1.2.2⟩, h.2⟩
/-! contracts: the answer and the store behind it are res -/
def Ci {St : Type} (l : Launch) (y : MethodName) (b : ByteArray) (n : Nat) (rt : FieldType) (rm : Room) (w : Wp St) (v : Ev) (av : List Value) (u : St) (res : Int32 × St) : Prop := Met l y (.code y b n (some rt) :: WL) rm (va_Pc av (Pg w v u)) (va_Qi (fun r u2 => (r, u2) = res) (fun u2 t => va_P (zD v) vwCl (w.1 v u2) t.heap) (An w.2.1 v)) 0 0 (An w.2.1 v)
def Cl {St : Type} (l : Launch) (y : MethodName) (b : ByteArray) (n : Nat) (rm : Room) (w : Wp St) (v : Ev) (av : List Value) (u : St) (res : Int64 × St) : Prop := Met l y (.code y b n (some .long) :: WL) rm (va_Pc av (Pg w v u)) (va_Ql (fun r u2 => (r, u2) = res) (fun u2 t => va_P (zD v) vwCl (w.1 v u2) t.heap) (An w.2.1 v)) 0 0 (An w.2.1 v)
def Cv {St : Type} (l : Launch) (y : MethodName) (b : ByteArray) (n : Nat) (rm : Room) (w : Wp St) (v : Ev) (av : List Value) (u : St) (res : St) : Prop := Met l y (.code y b n none :: WL) rm (va_Pc av (Pg w v u)) (va_Qv (fun u2 => u2 = res) (fun u2 t => va_P (zD v) vwCl (w.1 v u2) t.heap) (An w.2.1 v)) 0 0 (An w.2.1 v)
/-! what the tables say of a method -/
def VOK (y : MethodName) (b : ByteArray) (maxL : Nat) (ret : Option FieldType) (n : Nat) : Prop := Cond.instanceMethod y ∈ WL ∧ Cond.selects y.cls y y ∈ WL ∧ Cond.initialized y.cls ∈ WL ∧ Cond.code y b maxL ret ∈ WL ∧ (y.cls ≠ "java/lang/invoke/MethodHandle" ∧ y.cls ≠ "java/lang/invoke/VarHandle") ∧ (parseMethodDescriptor y.desc).map (fun d => d.parameters.length) = some n
def SOK (y : MethodName) (b : ByteArray) (maxL : Nat) (ret : Option FieldType) (n : Nat) : Prop := Cond.static y ∈ WL ∧ Cond.initialized y.cls ∈ WL ∧ Cond.code y b maxL ret ∈ WL ∧ (y.cls ≠ "java/lang/invoke/MethodHandle" ∧ y.cls ≠ "java/lang/invoke/VarHandle") ∧ (parseMethodDescriptor y.desc).map (fun d => d.parameters.length) = some n
theorem vok_of {y : MethodName} {b : ByteArray} {maxL n : Nat} {ret : Option FieldType} (h : ([Cond.instanceMethod y, Cond.selects y.cls y y, Cond.initialized y.cls, Cond.code y b maxL ret].all (fun w => decide (w ∈ lw_tbl) && goodWord w) && (decide (y.cls ≠ "java/lang/invoke/MethodHandle") && decide (y.cls ≠ "java/lang/invoke/VarHandle") && decide ((parseMethodDescriptor y.desc).map (fun d => d.parameters.length) = some n))) = true) : VOK y b maxL ret n := by
  rw [Bool.and_eq_true] at h
  have h1 := wl_all h.1
  have h2 := h.2
  simp only [Bool.and_eq_true, decide_eq_true_eq] at h2
  exact ⟨h1 _ (by simp), h1 _ (by simp), h1 _ (by simp), h1 _ (by simp), h2.1, h2.2⟩
theorem sok_of {y : MethodName} {b : ByteArray} {maxL n : Nat} {ret : Option FieldType} (h : ([Cond.static y, Cond.initialized y.cls, Cond.code y b maxL ret].all (fun w => decide (w ∈ lw_tbl) && goodWord w) && (decide (y.cls ≠ "java/lang/invoke/MethodHandle") && decide (y.cls ≠ "java/lang/invoke/VarHandle") && decide ((parseMethodDescriptor y.desc).map (fun d => d.parameters.length) = some n))) = true) : SOK y b maxL ret n := by
  rw [Bool.and_eq_true] at h
  have h1 := wl_all h.1
  have h2 := h.2
  simp only [Bool.and_eq_true, decide_eq_true_eq] at h2
  exact ⟨h1 _ (by simp), h1 _ (by simp), h1 _ (by simp), h2.1, h2.2⟩
theorem wl_gi {ws : List Cond} (h : ∀ w ∈ ws, w ∈ WL) : GoodIn WL ws := fun w hw => wl_good (h w hw)
section GC
variable {p : Program} {l : Launch} {e : Env} {R : Room} {s : State} {m : MethodId} {args : Array Value} {below : List Frame} {meth : Method} {c : Code} {H : Heap} {locs : List Loc} {Q : State → Prop}
variable {St : Type} {w : Wp St} {v : Ev} {u : St} {cc bytes : ByteArray} {nL maxL n index pc : Nat} {own : String} {y : MethodName} {rt : FieldType} {rm : Room} {As rest st0 : List Value} {b : Nat} {ls : Array Slot}
theorem zcV {ret : Option FieldType} (hts : ∀ w ∈ WL, w.before args s = true) (hV : VOK y bytes maxL ret n) (hL : Cond.methodLink own index y ∈ WL) (hrc : rm.cells = 0) (hrs : rm.slots = 0) (hR : rm.frames + 1 ≤ R.frames ∧ 8 + (maxL + 11) + rm.locals ≤ R.locals) : CallW R s args own y.cls index y bytes maxL ret (.code y bytes maxL ret :: WL) rm 0 0 n := by
  obtain ⟨h1, h2, h3, h4, h5, h6⟩ := hV
  refine cwV (Ts := WL) n hts (wl_gi ?_) rfl hrc hrs ⟨rfl, h5.1, h5.2, h6⟩ hR
  intro w hw
  simp only [wsV, List.cons_append, List.nil_append, List.mem_cons] at hw
  rcases hw with rfl | rfl | rfl | rfl | rfl | hw <;> assumption
theorem zcS {ret : Option FieldType} (hts : ∀ w ∈ WL, w.before args s = true) (hV : SOK y bytes maxL ret n) (hL : Cond.methodLink own index y ∈ WL) (hrc : rm.cells = 0) (hrs : rm.slots = 0) (hR : rm.frames + 1 ≤ R.frames ∧ 8 + (maxL + 11) + rm.locals ≤ R.locals) : CallB R s args own index y bytes maxL ret (.code y bytes maxL ret :: WL) rm 0 0 n ∧ (Cond.static y).before args s = true := by
  obtain ⟨h1, h3, h4, h5, h6⟩ := hV
  refine va_cwS (Ts := WL) n hts (wl_gi ?_) rfl hrc hrs ⟨h5.1, h5.2, h6⟩ hR
  intro w hw
  simp only [va_wsS, List.cons_append, List.nil_append, List.mem_cons] at hw
  rcases hw with rfl | rfl | rfl | rfl | hw <;> assumption
theorem zrV {ret : Option FieldType} {Qc : Array Value → State → Outcome → State → Prop} (hw : okW w) (hx : p.tables.exec = Jvm.exec) (hb : c.code = cc) (hml : c.maxLocals = nL) (hown : s.vm.findClass own = some m.cls) (hts : ∀ w ∈ WL, w.before args s = true) (hk : KG w v s s.heap) (hP : va_P (zD v) vwCl (w.1 v u) H) (hS : va_S (An w.2.1 v) s.heap H locs)
    (hM : Met l y (.code y bytes maxL ret :: WL) rm (va_Pc (.ref b :: As) (Pg w v u)) Qc 0 0 (An w.2.1 v)) (hV : VOK y bytes maxL ret n) (hL : Cond.methodLink own index y ∈ WL) (hrc : rm.cells = 0) (hrs : rm.slots = 0) (hR : rm.frames + 1 ≤ R.frames ∧ 8 + (maxL + 11) + rm.locals ≤ R.locals)
    (hrv : ∃ cellB : Cell, H[b]? = some cellB ∧ cellB.vm.isStatics = false ∧ s.vm.findClass y.cls = some cellB.cls) (hn : As.length = n) (hsz : ls.size = nL) (hst : st0 = As.reverse ++ .ref b :: rest) (hroom : (rest.map fun v => v.category).sum ≤ 8) (hdg : decode cc pc = .ok (.invokevirtual index, 3)) :
    va_Run p l e R s m args below meth c H locs 0 0 0 0 (F0 m pc ls st0) rest (Qc (Value.ref b :: As).toArray) (An w.2.1 v) := by
  subst hst
  exact va_runV (C := y.cls) (As := As) (rest := rest) ⟨hx, hb, hml, hown, hts⟩ hM (zcV hts hV hL hrc hrs hR) ⟨fun a U g mk q => ⟨q.1, zk_call hw q.2⟩, hrv, fun U hU hW => ⟨rfl, zk_go hw hk hS hU hW, by rw [hU]; exact hP⟩⟩ rfl hn hsz rfl (lv_room hroom) hdg ⟨Nat.zero_le _, Nat.zero_le _⟩
theorem zrS {ret : Option FieldType} {Qc : Array Value → State → Outcome → State → Prop} (hw : okW w) (hx : p.tables.exec = Jvm.exec) (hb : c.code = cc) (hml : c.maxLocals = nL) (hown : s.vm.findClass own = some m.cls) (hts : ∀ w ∈ WL, w.before args s = true) (hk : KG w v s s.heap) (hP : va_P (zD v) vwCl (w.1 v u) H) (hS : va_S (An w.2.1 v) s.heap H locs)
    (hM : Met l y (.code y bytes maxL ret :: WL) rm (va_Pc As (Pg w v u)) Qc 0 0 (An w.2.1 v)) (hV : SOK y bytes maxL ret n) (hL : Cond.methodLink own index y ∈ WL) (hrc : rm.cells = 0) (hrs : rm.slots = 0) (hR : rm.frames + 1 ≤ R.frames ∧ 8 + (maxL + 11) + rm.locals ≤ R.locals)
    (hn : As.length = n) (hsz : ls.size = nL) (hst : st0 = As.reverse ++ rest) (hroom : (rest.map fun v => v.category).sum ≤ 8) (hdg : decode cc pc = .ok (.invokestatic index, 3)) :
    va_Run p l e R s m args below meth c H locs 0 0 0 0 (F0 m pc ls st0) rest (Qc As.toArray) (An w.2.1 v) := by
  subst hst
  exact va_runS (As := As) (rest := rest) ⟨hx, hb, hml, hown, hts⟩ hM (zcS hts hV hL hrc hrs hR) ⟨fun a U g mk q => ⟨q.1, zk_call hw q.2⟩, fun U hU hW => ⟨rfl, zk_go hw hk hS hU hW, by rw [hU]; exact hP⟩⟩ rfl hn hsz rfl (lv_room hroom) hdg ⟨Nat.zero_le _, Nat.zero_le _⟩
theorem zki {A1 : Array Value} {res : Int32 × St} (hS : va_S (An w.2.1 v) s.heap H locs) (hr : va_Run p l e R s m args below meth c H locs 0 0 0 0 (F0 m pc ls st0) rest (va_Qi (fun r u2 => (r, u2) = res) (fun u2 t => va_P (zD v) vwCl (w.1 v u2) t.heap) (An w.2.1 v) A1) (An w.2.1 v))
    (kk : ∀ (H1 : Heap) (locs1 : List Loc), va_P (zD v) vwCl (w.1 v res.2) H1 → va_S (An w.2.1 v) s.heap H1 locs1 → W p l e R s m args below meth c H1 locs1 0 0 Q (F0 m (pc + 3) ls (.int res.1 :: rest))) : W p l e R s m args below meth c H locs 0 0 Q (F0 m pc ls st0) := by
  refine va_calli hr hS (fun q _ h => h) (fun q h => h) (fun r u2 t H1 locs1 ht hvm hp hB hz hk1 hS1 => ?_)
  subst hp
  exact kk H1 locs1 (ht ▸ hB) hS1
theorem zkl {A1 : Array Value} {res : Int64 × St} (hS : va_S (An w.2.1 v) s.heap H locs) (hr : va_Run p l e R s m args below meth c H locs 0 0 0 0 (F0 m pc ls st0) rest (va_Ql (fun r u2 => (r, u2) = res) (fun u2 t => va_P (zD v) vwCl (w.1 v u2) t.heap) (An w.2.1 v) A1) (An w.2.1 v))
    (kk : ∀ (H1 : Heap) (locs1 : List Loc), va_P (zD v) vwCl (w.1 v res.2) H1 → va_S (An w.2.1 v) s.heap H1 locs1 → W p l e R s m args below meth c H1 locs1 0 0 Q (F0 m (pc + 3) ls (.long res.1 :: rest))) : W p l e R s m args below meth c H locs 0 0 Q (F0 m pc ls st0) := by
  refine va_calll hr hS (fun q _ h => h) (fun q h => h) (fun r u2 t H1 locs1 ht hvm hp hB hz hk1 hS1 => ?_)
  subst hp
  exact kk H1 locs1 (ht ▸ hB) hS1
theorem zkv {A1 : Array Value} {res : St} (hS : va_S (An w.2.1 v) s.heap H locs) (hr : va_Run p l e R s m args below meth c H locs 0 0 0 0 (F0 m pc ls st0) rest (va_Qv (fun u2 => u2 = res) (fun u2 t => va_P (zD v) vwCl (w.1 v u2) t.heap) (An w.2.1 v) A1) (An w.2.1 v))
    (kk : ∀ (H1 : Heap) (locs1 : List Loc), va_P (zD v) vwCl (w.1 v res) H1 → va_S (An w.2.1 v) s.heap H1 locs1 → W p l e R s m args below meth c H1 locs1 0 0 Q (F0 m (pc + 3) ls rest)) : W p l e R s m args below meth c H locs 0 0 Q (F0 m pc ls st0) := by
  refine va_callv hr hS (fun q _ h => h) (fun q h => h) (fun u2 t H1 locs1 ht hvm hp hB hz hk1 hS1 => ?_)
  subst hp
  exact kk H1 locs1 (ht ▸ hB) hS1
theorem lv_nm {x z : Int32} {rest : List Value} {cells slots : Nat} (h : z = x) (k : W p l e R s m args below meth c H locs cells slots Q (F0 m pc ls (.int z :: rest))) : W p l e R s m args below meth c H locs cells slots Q (F0 m pc ls (.int x :: rest)) := h ▸ k
theorem lv_nml {x z : Int64} {rest : List Value} {cells slots : Nat} (h : z = x) (k : W p l e R s m args below meth c H locs cells slots Q (F0 m pc ls (.long z :: rest))) : W p l e R s m args below meth c H locs cells slots Q (F0 m pc ls (.long x :: rest)) := h ▸ k
end GC
/-! the head of a method: its contract out of a walk; its ends by 'hret' -/
def Cx {St : Type} (w : Wp St) (v : Ev) (p : Program) (s : State) (m : MethodId) (args : Array Value) (c : Code) (cc : ByteArray) (nL : Nat) (own : String) : Prop := p.tables.exec = Jvm.exec ∧ c.code = cc ∧ c.maxLocals = nL ∧ s.vm.findClass own = some m.cls ∧ (∀ q ∈ WL, q.before args s = true) ∧ KG w v s s.heap
theorem ze_i {St : Type} {w : Wp St} {l : Launch} {y : MethodName} {cc : ByteArray} {nL : Nat} {rt : FieldType} {rm : Room} {v : Ev} {av : List Value} {u : St} {res : Int32 × St} (hy : plainName y.cls = true) (hlen : (lg_sl av).length ≤ nL) 
    (body : ∀ (p : Program) (e : Env) (s : State) (m : MethodId) (args : Array Value) (below : List Frame) (meth : Method) (c : Code) (Q : State → Prop) (ls : Array Slot), Cx w v p s m args c cc nL y.cls →
      (∀ (H : Heap) (locs : List Loc) (r : Int32) (u2 : St) (pc : Nat) (ls2 : Array Slot), (rt = .int ∨ narrow rt (.int r) = .int r) → (r, u2) = res → va_P (zD v) vwCl (w.1 v u2) H → va_S (An w.2.1 v) s.heap H locs → decode cc pc = .ok (.ireturn, 1) → W p l e rm s m args below meth c H locs 0 0 Q (F0 m pc ls2 [.int r])) →
      va_P (zD v) vwCl (w.1 v u) s.heap → lv_has ls nL (lv_args 0 av) → W p l e rm s m args below meth c s.heap [] 0 0 Q (F0 m 0 ls [])) : Ci l y cc nL rt rm w v av u res := by
  refine Met.ofW (cc := cc) (maxL := nL) (ret := some rt) hy rfl ?_
  intro p e s m args below meth c s₁ B hml hv
  obtain ⟨rfl, hk, hP⟩ := hv
  have hts := atoms_spec (ws := .code y cc nL (some rt) :: WL) B.pre
  have hown : s.vm.findClass y.cls = some m.cls := findClass_of_methodNamed B.named
  have hlocks := B.notSynchronized
  have hx := B.exec
  have hb := B.bytes
  have hl := lv_entry av (n := nL) hlen
  rw [lg_entry_eq]
  generalize (lg_sl av ++ List.replicate (nL - (lg_sl av).length) Slot.unset).toArray = ls at hl ⊢
  refine body p e s m _ below meth c _ ls ⟨hx, hb, hml, hown, fun q hq => hts q (List.mem_cons_of_mem _ hq), hk⟩ ?_ hP hl
  intro H locs r u2 pc ls2 h01 hres hP2 hS2 hdg
  by_cases hi : rt = .int
  · subst hi
    exact W.iret (v := r) hx hb B.returns (fun t ht hW => ⟨⟨r, u2, rfl, hres, by show va_P (zD v) vwCl (w.1 v u2) t.heap; rw [ht]; exact hP2⟩, hS2.F ht⟩) hS2.2.2 hdg hlocks
  · exact W.zret (v := r) hx hb B.returns (h01.resolve_left hi) (fun t ht hW => ⟨⟨r, u2, rfl, hres, by show va_P (zD v) vwCl (w.1 v u2) t.heap; rw [ht]; exact hP2⟩, hS2.F ht⟩) hS2.2.2 hdg hlocks
theorem nb01 {x : Int32} (h : x = 0 ∨ x = 1) : narrow .boolean (.int x) = .int x := by
  rcases h with h | h <;> rw [h] <;> rfl
theorem nchar {x : Int32} (h : vp_nar .char x = x) : narrow .char (.int x) = .int x := congrArg Value.int h
theorem nbyte {x : Int32} (h : vp_nar .byte x = x) : narrow .byte (.int x) = .int x := congrArg Value.int h
theorem ze_l {St : Type} {w : Wp St} {l : Launch} {y : MethodName} {cc : ByteArray} {nL : Nat} {rm : Room} {v : Ev} {av : List Value} {u : St} {res : Int64 × St} (hy : plainName y.cls = true) (hlen : (lg_sl av).length ≤ nL)
    (body : ∀ (p : Program) (e : Env) (s : State) (m : MethodId) (args : Array Value) (below : List Frame) (meth : Method) (c : Code) (Q : State → Prop) (ls : Array Slot), Cx w v p s m args c cc nL y.cls →
      (∀ (H : Heap) (locs : List Loc) (r : Int64) (u2 : St) (pc : Nat) (ls2 : Array Slot), (r, u2) = res → va_P (zD v) vwCl (w.1 v u2) H → va_S (An w.2.1 v) s.heap H locs → decode cc pc = .ok (.lreturn, 1) → W p l e rm s m args below meth c H locs 0 0 Q (F0 m pc ls2 [.long r])) →
      va_P (zD v) vwCl (w.1 v u) s.heap → lv_has ls nL (lv_args 0 av) → W p l e rm s m args below meth c s.heap [] 0 0 Q (F0 m 0 ls [])) : Cl l y cc nL rm w v av u res := by
  refine Met.ofW (cc := cc) (maxL := nL) (ret := some .long) hy rfl ?_
  intro p e s m args below meth c s₁ B hml hv
  obtain ⟨rfl, hk, hP⟩ := hv
  have hts := atoms_spec (ws := .code y cc nL (some .long) :: WL) B.pre
  have hown : s.vm.findClass y.cls = some m.cls := findClass_of_methodNamed B.named
  have hlocks := B.notSynchronized
  have hx := B.exec
  have hb := B.bytes
  have hl := lv_entry av (n := nL) hlen
  rw [lg_entry_eq]
  generalize (lg_sl av ++ List.replicate (nL - (lg_sl av).length) Slot.unset).toArray = ls at hl ⊢
  refine body p e s m _ below meth c _ ls ⟨hx, hb, hml, hown, fun q hq => hts q (List.mem_cons_of_mem _ hq), hk⟩ ?_ hP hl
  intro H locs r u2 pc ls2 hres hP2 hS2 hdg
  exact W.lret (v := r) hx hb B.returns (fun t ht hW => ⟨⟨r, u2, rfl, hres, by show va_P (zD v) vwCl (w.1 v u2) t.heap; rw [ht]; exact hP2⟩, hS2.F ht⟩) hS2.2.2 hdg hlocks
theorem ze_v {St : Type} {w : Wp St} {l : Launch} {y : MethodName} {cc : ByteArray} {nL : Nat} {rm : Room} {v : Ev} {av : List Value} {u : St} {res : St} (hy : plainName y.cls = true) (hlen : (lg_sl av).length ≤ nL)
    (body : ∀ (p : Program) (e : Env) (s : State) (m : MethodId) (args : Array Value) (below : List Frame) (meth : Method) (c : Code) (Q : State → Prop) (ls : Array Slot), Cx w v p s m args c cc nL y.cls →
      (∀ (H : Heap) (locs : List Loc) (u2 : St) (pc : Nat) (ls2 : Array Slot), u2 = res → va_P (zD v) vwCl (w.1 v u2) H → va_S (An w.2.1 v) s.heap H locs → decode cc pc = .ok (.return_, 1) → W p l e rm s m args below meth c H locs 0 0 Q (F0 m pc ls2 [])) →
      va_P (zD v) vwCl (w.1 v u) s.heap → lv_has ls nL (lv_args 0 av) → W p l e rm s m args below meth c s.heap [] 0 0 Q (F0 m 0 ls [])) : Cv l y cc nL rm w v av u res := by
  refine Met.ofW (cc := cc) (maxL := nL) (ret := none) hy rfl ?_
  intro p e s m args below meth c s₁ B hml hv
  obtain ⟨rfl, hk, hP⟩ := hv
  have hts := atoms_spec (ws := .code y cc nL none :: WL) B.pre
  have hown : s.vm.findClass y.cls = some m.cls := findClass_of_methodNamed B.named
  have hlocks := B.notSynchronized
  have hx := B.exec
  have hb := B.bytes
  have hl := lv_entry av (n := nL) hlen
  rw [lg_entry_eq]
  generalize (lg_sl av ++ List.replicate (nL - (lg_sl av).length) Slot.unset).toArray = ls at hl ⊢
  refine body p e s m _ below meth c _ ls ⟨hx, hb, hml, hown, fun q hq => hts q (List.mem_cons_of_mem _ hq), hk⟩ ?_ hP hl
  intro H locs u2 pc ls2 hres hP2 hS2 hdg
  exact W.vret hx hb B.returns (fun t ht hW => ⟨⟨u2, rfl, hres, by show va_P (zD v) vwCl (w.1 v u2) t.heap; rw [ht]; exact hP2⟩, hS2.F ht⟩) hS2.2.2 hdg hlocks
/-! the two kinds -/
def XST (v : Ev) (A : Nat → Prop) (U : State) (H : Heap) : Prop :=
  va_Z "HalfASize" "LOW" "[I" (.ref (zT v 0)) A U H ∧ va_T .int (zT v 0) 7 (fun j => .int (tLOW.getD j 0)) A U H ∧
  va_Z "HalfASize" "HIGH" "[I" (.ref (zT v 1)) A U H ∧ va_T .int (zT v 1) 7 (fun j => .int (tHIGH.getD j 0)) A U H ∧
  va_Z "HalfASize" "UNDER" "[I" (.ref (zT v 2)) A U H ∧ va_T .int (zT v 2) 6 (fun j => .int (tUNDER.getD j 0)) A U H ∧
  va_Z "HalfASize" "BOUNDS" "[I" (.ref (zT v 3)) A U H ∧ va_T .int (zT v 3) 24 (fun j => .int (tBOUNDS.getD j 0)) A U H ∧
  va_Z "java/lang/String" "COMPACT_STRINGS" "Z" (.int 1) A U H ∧ va_Zq "jdk/internal/util/Preconditions" "SIOOBE_FORMATTER" "Ljava/util/function/BiFunction;" A U H ∧
  vk_S 3 [57, 8, 72] [byRULE, bySIGNS, byWORDS] (fun i => zT v (10 + i)) (fun i => zT v (20 + i)) A U H ∧
  vk_R "HalfASize" 64 txRULE (zT v 10) U ∧ vk_R "HalfASize$Reader" 60 txSIGNS (zT v 11) U ∧ vk_R "HalfASize$Reader" 73 txWORDS (zT v 12) U ∧
  va_Nw (.fieldLinkNest "HalfASize$Kinds" 18 "HalfASize" "BOUNDS" "[I" "HalfASize") U ∧ va_Nw (.fieldLinkNest "HalfASize$Kinds" 30 "HalfASize" "UNDER" "[I" "HalfASize") U
theorem XST_ok : okZ XST := by
  refine ⟨?_, ?_⟩
  · intro v A u U H H1 hW hq h
    obtain ⟨a1, a2, a3, a4, a5, a6, a7, a8, a9, b1, b2, b3, b4, b5, b6, b7⟩ := h
    have hm := hW.alike
    exact ⟨va_Z.moved hm (a1.kept hq), va_T.moved hm (a2.kept hq), va_Z.moved hm (a3.kept hq), va_T.moved hm (a4.kept hq), va_Z.moved hm (a5.kept hq), va_T.moved hm (a6.kept hq), va_Z.moved hm (a7.kept hq), va_T.moved hm (a8.kept hq), va_Z.moved hm (a9.kept hq), va_Zq.moved hm (b1.kept hq), vk_S.moved hm (b2.kept hq), vk_R.warm hW b3, vk_R.warm hW b4, vk_R.warm hW b5, va_Nw.warmF hW b6, va_Nw.warmF hW b7⟩
  · intro v A U H g mk a h
    obtain ⟨a1, a2, a3, a4, a5, a6, a7, a8, a9, b1, b2, b3, b4, b5, b6, b7⟩ := h
    have hm : U.vm.Alike (U.calling g mk a).vm := Vm.Alike.refl U.vm
    exact ⟨va_Z.moved hm a1, va_T.moved hm a2, va_Z.moved hm a3, va_T.moved hm a4, va_Z.moved hm a5, va_T.moved hm a6, va_Z.moved hm a7, va_T.moved hm a8, va_Z.moved hm a9, va_Zq.moved hm b1, vk_S.moved hm b2, vk_R.same (u := U) rfl b3, vk_R.same (u := U) rfl b4, vk_R.same (u := U) rfl b5, va_Nw.same rfl rfl b6, va_Nw.same rfl rfl b7⟩
def MST (_ : Ev) (_ : Nat → Prop) (_ : State) (_ : Heap) : Prop := True
abbrev pX : Wp Sg := (zW, nX, XST)
abbrev pM : Wp SM := (zM, nM, MST)
theorem okX : okW pX := ⟨fun _ _ => rfl, XST_ok⟩
theorem okM : okW pM := ⟨fun _ _ => rfl, fun _ _ _ _ _ _ _ _ _ => trivial, fun _ _ _ _ _ _ _ _ => trivial⟩
theorem iX1 : ∀ q ∈ u_ws RX1 TX1 2, q ∈ WL := wl_all (by decide +kernel)
theorem iX2 : ∀ q ∈ u_ws RX2 TX2 8, q ∈ WL := wl_all (by decide +kernel)
theorem iX3 : ∀ q ∈ u_ws RX3 TX3 3, q ∈ WL := wl_all (by decide +kernel)
theorem iX4 : ∀ q ∈ u_ws RX4 TX4 2, q ∈ WL := wl_all (by decide +kernel)
theorem iX5 : ∀ q ∈ u_ws RX5 TX5 10, q ∈ WL := wl_all (by decide +kernel)
theorem iX6 : ∀ q ∈ u_ws RX6 TX6 5, q ∈ WL := wl_all (by decide +kernel)
theorem iX7 : ∀ q ∈ u_ws RX7 TX7 11, q ∈ WL := wl_all (by decide +kernel)
theorem iX8 : ∀ q ∈ u_ws RX8 TX8 55, q ∈ WL := wl_all (by decide +kernel)
/-! arrays of arrays; rows of cells -/
theorem za_ld {p : Program} {l : Launch} {e : Env} {R : Room} {s : State} {m : MethodId} {args : Array Value} {below : List Frame} {meth : Method} {c : Code} {H : Heap} {locs : List Loc} {cells slots : Nat} {Q : State → Prop} {cc : ByteArray} {pc : Nat} {ls : Array Slot} {rest : List Value} {D : va_G} {cl : List vw_C} {a : Nat} {tys : List (ClassId × FieldType)} {ws : va_W} (hexec : p.tables.exec = Jvm.exec) (hb : c.code = cc) (hK : va_K D cl tys s) (hP : va_P D cl ws H) (q0 t0 : Nat) {cA : ClassId} {n : Nat} {f : Nat → Option Nat} (ha : ws[q0]? = some (a, .inl (cA, n, .inr (.inr (.inr (.inr f)))))) (ht : tys[t0]? = some (cA, .array .int)) {i : Int32} (hin : vp_in i n) (hdg : decode cc pc = .ok (.aaload, 1))
    (kk : W p l e R s m args below meth c H locs cells slots Q (F0 m (pc + 1) ls (va_rf (f i.toNatClampNeg) :: rest))) : W p l e R s m args below meth c H locs cells slots Q (F0 m pc ls (.int i :: .ref a :: rest)) := by
  have hlt : i.toNatClampNeg < n := Nat.not_le.mp fun q => hin (Or.inr q)
  exact W.aald (v := va_rf (f i.toNatClampNeg)) (ty := .array .int) hexec hb (hP q0 _ ha) ((hK.2 t0 _ ht).1 n (fun j => va_rf (f j))) rfl (fun q => by cases q) (by show ¬ (i < 0 ∨ (arrV _ _ _).slots.size ≤ _); rw [arrV_size]; exact hin) (by show (arrV _ _ _).slots[_]? = _; rw [arrV_read _ _ hlt]) rfl rfl hdg kk
theorem inb_lt {i : Int32} {n : Nat} (h : inb i n = true) : i.toNatClampNeg < n := Nat.not_le.mp fun q => inb_in h (Or.inr q)
theorem zr_at (v : Ev) (g : Sg) {k : Nat} (h : k < 4) : (zW v g)[33 + k]? = some (zA v (33 + k), .inl (zC v 0, 40, .inl (g (33 + k)))) := by
  match k, h with
  | 0, _ => rfl
  | 1, _ => rfl
  | 2, _ => rfl
  | 3, _ => rfl
theorem zr_set (v : Ev) (g : Sg) (F : Nat → Int32) {k : Nat} (h : k < 4) : (zW v g).set (33 + k) (zA v (33 + k), .inl (zC v 0, 40, .inl F)) = zW v (up g (33 + k) F) := by
  match k, h with
  | 0, _ => rfl
  | 1, _ => rfl
  | 2, _ => rfl
  | 3, _ => rfl
/-! a range copied: what the machine asks -/
theorem acb_e {sp dp n : Int32} {n0 n1 : Nat} (h : acb sp dp n n0 n1 = true) : ¬ sp < 0 ∧ ¬ dp < 0 ∧ ¬ n < 0 ∧ sp.toNatClampNeg + n.toNatClampNeg ≤ n0 ∧ dp.toNatClampNeg + n.toNatClampNeg ≤ n1 := by
  unfold acb at h
  simp only [Bool.and_eq_true, Bool.not_eq_true', decide_eq_false_iff_not, decide_eq_true_eq] at h
  exact ⟨h.1.1.1.1, h.1.1.1.2, h.1.1.2, h.1.2, h.2⟩
theorem gd_n {α : Type} {c : Prop} [Decidable c] {A : Option α} {r : α} (hf : ite c none A = some r) : ¬ c ∧ A = some r := by
  by_cases h : c
  · rw [if_pos h] at hf
    cases hf
  · exact ⟨h, ite_f h hf⟩
def rmG (F L K d : Nat) : Room := { frames := F + d, cells := 0, slots := 0, locals := L + K * d }
theorem rmG_go {F L K d n : Nat} (h : 19 + n ≤ K) : (rmG F L K d).frames + 1 ≤ (rmG F L K (d + 1)).frames ∧ 8 + (n + 11) + (rmG F L K d).locals ≤ (rmG F L K (d + 1)).locals := by
  constructor
  · show F + d + 1 ≤ F + (d + 1)
    omega
  · show 8 + (n + 11) + (L + K * d) ≤ L + K * (d + 1)
    rw [Nat.mul_succ]
    omega
theorem rmG_lo {F L K d n : Nat} {rm : Room} (h1 : rm.frames + 1 ≤ F) (h2 : 19 + n + rm.locals ≤ L) : rm.frames + 1 ≤ (rmG F L K (d + 1)).frames ∧ 8 + (n + 11) + rm.locals ≤ (rmG F L K (d + 1)).locals := by
  constructor
  · show rm.frames + 1 ≤ F + (d + 1)
    omega
  · show 8 + (n + 11) + rm.locals ≤ L + K * (d + 1)
    omega
theorem lk01 {x : Int32} {a b d : Int} (h0 : ¬ x = (0 : Int32)) (h1 : ¬ x = (1 : Int32)) : Op.lookupswitch.offset [(0, a), (1, b)] d x.toInt = d := by
  have g0 : ¬ x.toInt = 0 := fun q => h0 (Int32.toInt_inj.mp (q.trans rfl))
  have g1 : ¬ x.toInt = 1 := fun q => h1 (Int32.toInt_inj.mp (q.trans rfl))
  simp [Op.lookupswitch.offset, Ne.symm g0, Ne.symm g1, g0, g1]
theorem xs_z0 {v : Ev} {U : State} {H : Heap} (h : KG pX v U H) : va_Z "HalfASize" "LOW" "[I" (.ref (zT v 0)) (An nX v) U H := h.2.2.1
theorem xs_t0 {v : Ev} {U : State} {H : Heap} (h : KG pX v U H) : va_T .int (zT v 0) 7 (fun j => .int (tLOW.getD j 0)) (An nX v) U H := h.2.2.2.1
theorem xs_z1 {v : Ev} {U : State} {H : Heap} (h : KG pX v U H) : va_Z "HalfASize" "HIGH" "[I" (.ref (zT v 1)) (An nX v) U H := h.2.2.2.2.1
theorem xs_t1 {v : Ev} {U : State} {H : Heap} (h : KG pX v U H) : va_T .int (zT v 1) 7 (fun j => .int (tHIGH.getD j 0)) (An nX v) U H := h.2.2.2.2.2.1
theorem xs_z2 {v : Ev} {U : State} {H : Heap} (h : KG pX v U H) : va_Z "HalfASize" "UNDER" "[I" (.ref (zT v 2)) (An nX v) U H := h.2.2.2.2.2.2.1
theorem xs_t2 {v : Ev} {U : State} {H : Heap} (h : KG pX v U H) : va_T .int (zT v 2) 6 (fun j => .int (tUNDER.getD j 0)) (An nX v) U H := h.2.2.2.2.2.2.2.1
theorem xs_z3 {v : Ev} {U : State} {H : Heap} (h : KG pX v U H) : va_Z "HalfASize" "BOUNDS" "[I" (.ref (zT v 3)) (An nX v) U H := h.2.2.2.2.2.2.2.2.1
theorem xs_t3 {v : Ev} {U : State} {H : Heap} (h : KG pX v U H) : va_T .int (zT v 3) 24 (fun j => .int (tBOUNDS.getD j 0)) (An nX v) U H := h.2.2.2.2.2.2.2.2.2.1
theorem xs_cs {v : Ev} {U : State} {H : Heap} (h : KG pX v U H) : va_Z "java/lang/String" "COMPACT_STRINGS" "Z" (.int 1) (An nX v) U H := h.2.2.2.2.2.2.2.2.2.2.1
theorem xs_si {v : Ev} {U : State} {H : Heap} (h : KG pX v U H) : va_Zq "jdk/internal/util/Preconditions" "SIOOBE_FORMATTER" "Ljava/util/function/BiFunction;" (An nX v) U H := h.2.2.2.2.2.2.2.2.2.2.2.1
theorem xs_str {v : Ev} {U : State} {H : Heap} (h : KG pX v U H) : vk_S 3 [57, 8, 72] [byRULE, bySIGNS, byWORDS] (fun i => zT v (10 + i)) (fun i => zT v (20 + i)) (An nX v) U H := h.2.2.2.2.2.2.2.2.2.2.2.2.1
theorem xs_s0 {v : Ev} {U : State} {H : Heap} (h : KG pX v U H) : vk_R "HalfASize" 64 txRULE (zT v 10) U := h.2.2.2.2.2.2.2.2.2.2.2.2.2.1
theorem xs_s1 {v : Ev} {U : State} {H : Heap} (h : KG pX v U H) : vk_R "HalfASize$Reader" 60 txSIGNS (zT v 11) U := h.2.2.2.2.2.2.2.2.2.2.2.2.2.2.1
theorem xs_s2 {v : Ev} {U : State} {H : Heap} (h : KG pX v U H) : vk_R "HalfASize$Reader" 73 txWORDS (zT v 12) U := h.2.2.2.2.2.2.2.2.2.2.2.2.2.2.2.1
theorem xs_n3 {v : Ev} {U : State} {H : Heap} (h : KG pX v U H) : va_Nw (.fieldLinkNest "HalfASize$Kinds" 18 "HalfASize" "BOUNDS" "[I" "HalfASize") U := h.2.2.2.2.2.2.2.2.2.2.2.2.2.2.2.2.1
theorem xs_n2 {v : Ev} {U : State} {H : Heap} (h : KG pX v U H) : va_Nw (.fieldLinkNest "HalfASize$Kinds" 30 "HalfASize" "UNDER" "[I" "HalfASize") U := h.2.2.2.2.2.2.2.2.2.2.2.2.2.2.2.2.2
theorem xs_b0 {v : Ev} {U : State} {H : Heap} (h : KG pX v U H) : va_T .byte (zT v 20) 57 (fun j => .int (byRULE.getD j 0)) (An nX v) U H := ((xs_str h).1 0 (by decide)).2.2.2
theorem xs_b1 {v : Ev} {U : State} {H : Heap} (h : KG pX v U H) : va_T .byte (zT v 21) 8 (fun j => .int (bySIGNS.getD j 0)) (An nX v) U H := ((xs_str h).1 1 (by decide)).2.2.2
theorem xs_b2 {v : Ev} {U : State} {H : Heap} (h : KG pX v U H) : va_T .byte (zT v 22) 72 (fun j => .int (byWORDS.getD j 0)) (An nX v) U H := ((xs_str h).1 2 (by decide)).2.2.2
