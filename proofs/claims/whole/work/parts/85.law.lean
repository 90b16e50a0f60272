/-! THE LAW's world: the class's cells, then the reference's -/
def vb (v : Ev) (ab : Nat → Nat) : Ev := (zD v, zC v, ab, zT v)
def zL (ab : Nat → Nat) (v : Ev) (G : Sg × SM) : va_W := zW v G.1 ++ zM (vb v ab) G.2
abbrev pL (ab : Nat → Nat) : Wp (Sg × SM) := (zL ab, 59, MST)
theorem va_P_l {D : va_G} {cl : List vw_C} {a b : va_W} {H : Heap} (h : va_P D cl (a ++ b) H) : va_P D cl a H := fun k q hk => h k q (by rw [List.getElem?_append_left (List.getElem?_eq_some_iff.mp hk).1]; exact hk)
theorem va_P_r {D : va_G} {cl : List vw_C} {a b : va_W} {H : Heap} (h : va_P D cl (a ++ b) H) : va_P D cl b H := fun k q hk => h (a.length + k) q (by rw [List.getElem?_append_right (Nat.le_add_right _ _), Nat.add_sub_cancel_left]; exact hk)
/-- what stands all the law long -/
def CL (v : Ev) (ab : Nat → Nat) (s : State) : Prop := KG pX v s s.heap ∧ KG pM (vb v ab) s s.heap ∧ (∀ i j : Nat, i < 37 → j < 22 → zA v i ≠ ab j) ∧ (∀ i : Nat, i < 37 → s.heap.size ≤ zA v i) ∧ ∀ i : Nat, i < 22 → s.heap.size ≤ ab i
theorem cl_X {v : Ev} {ab : Nat → Nat} {s : State} (h : CL v ab s) : ∀ q, An nX v q → s.heap.size ≤ q := fun q ⟨k, h1, h2⟩ => by rw [h2]; exact h.2.2.2.1 k h1
theorem cl_M {v : Ev} {ab : Nat → Nat} {s : State} (h : CL v ab s) : ∀ q, An nM (vb v ab) q → s.heap.size ≤ q := fun q ⟨k, h1, h2⟩ => by rw [h2]; exact h.2.2.2.2 k h1
theorem cl_dis {v : Ev} {ab : Nat → Nat} {s : State} (h : CL v ab s) {q : Nat} (h1 : An nX v q) (h2 : An nM (vb v ab) q) : False := by
  obtain ⟨i, i1, i2⟩ := h1
  obtain ⟨j, j1, j2⟩ := h2
  exact h.2.2.1 i j i1 j1 (i2.symm.trans j2)
section GL
variable {p : Program} {l : Launch} {e : Env} {R : Room} {s : State} {m : MethodId} {args : Array Value} {below : List Frame} {meth : Method} {c : Code} {H : Heap} {locs : List Loc} {Q : State → Prop}
variable {v : Ev} {ab : Nat → Nat} {G : Sg × SM} {cc bytes : ByteArray} {nL maxL n index pc cells slots : Nat} {own : String} {y : MethodName} {rt : FieldType} {rm : Room} {As rest st0 : List Value} {ls : Array Slot}
theorem zlr_X (hP : va_P (zD v) vwCl (zL ab v G) H) (hc : CL v ab s) : ∃ cellB : Cell, H[zA v 0]? = some cellB ∧ cellB.vm.isStatics = false ∧ s.vm.findClass RX7 = some cellB.cls := va_recv (q := (RX7, TX7, 11)) hc.1.1 (va_P_l hP) (q0 := 0) (ci := 6) rfl rfl
theorem zlr_M (hP : va_P (zD v) vwCl (zL ab v G) H) (hc : CL v ab s) : ∃ cellB : Cell, H[zA (vb v ab) 0]? = some cellB ∧ cellB.vm.isStatics = false ∧ s.vm.findClass RX8 = some cellB.cls := va_recv (q := (RX8, TX8, 55)) hc.2.1.1 (va_P_r hP) (q0 := 0) (ci := 7) rfl rfl
theorem zl_backX (hc : CL v ab s) {H1 : Heap} {g : Sg} (hP : va_P (zD v) vwCl (zL ab v G) H) (h1 : va_P (zD v) vwCl (zW v g) H1) (hk : ∀ q : Nat, q < H.size → ¬ An nX v q → H1[q]? = H[q]?) : va_P (zD v) vwCl (zL ab v (g, G.2)) H1 :=
  h1.app ((va_P_r hP).kept (fun k q hq => hk q.1 ((va_P_r hP) k q hq).lt (fun z => cl_dis hc z ⟨k, zw_at okM (v := vb v ab) (u := G.2) hq⟩)))
theorem zl_backM (hc : CL v ab s) {H1 : Heap} {g : SM} (hP : va_P (zD v) vwCl (zL ab v G) H) (h1 : va_P (zD v) vwCl (zM (vb v ab) g) H1) (hk : ∀ q : Nat, q < H.size → ¬ An nM (vb v ab) q → H1[q]? = H[q]?) : va_P (zD v) vwCl (zL ab v (G.1, g)) H1 :=
  ((va_P_l hP).kept (fun k q hq => hk q.1 ((va_P_l hP) k q hq).lt (fun z => cl_dis hc ⟨k, zw_at okX (v := v) (u := G.1) hq⟩ z))).app h1
theorem zl_hts (hts : ∀ w ∈ lw_tbl, w.before args s = true) : ∀ w ∈ WL, w.before args s = true := fun w hw => hts w (List.mem_filter.mp hw).1
end GL
theorem kB_31 : (Int8.ofInt (31)).toInt32 = (31 : Int32) := by decide +kernel
theorem kI_6 : Int32.ofInt (6) = (6 : Int32) := by decide +kernel
theorem vk_X7_set : VOK yX7_set cX7_set 5 (some .int) 3 := vok_of (by decide +kernel)
theorem ml_L_13 : Cond.methodLink RL 13 yX7_set ∈ WL := wl (by decide +kernel) rfl
theorem ml_L_17 : Cond.methodLink RL 17 yX8_set ∈ WL := wl (by decide +kernel) rfl
theorem vk_X7_make : VOK yX7_make cX7_make 5 (some .int) 3 := vok_of (by decide +kernel)
theorem ml_L_18 : Cond.methodLink RL 18 yX7_make ∈ WL := wl (by decide +kernel) rfl
theorem vk_X8_make : VOK yX8_make cX8_make 4 (some .int) 3 := vok_of (by decide +kernel)
theorem ml_L_21 : Cond.methodLink RL 21 yX8_make ∈ WL := wl (by decide +kernel) rfl
theorem ml_L_22 : Cond.methodLink RL 22 yX7_told ∈ WL := wl (by decide +kernel) rfl
theorem ml_L_26 : Cond.methodLink RL 26 yX8_told ∈ WL := wl (by decide +kernel) rfl
theorem vk_X7_fit : VOK yX7_fit cX7_fit 3 (some .int) 2 := vok_of (by decide +kernel)
theorem ml_L_27 : Cond.methodLink RL 27 yX7_fit ∈ WL := wl (by decide +kernel) rfl
theorem vk_X8_fit : VOK yX8_fit cX8_fit 3 (some .int) 2 := vok_of (by decide +kernel)
theorem ml_L_30 : Cond.methodLink RL 30 yX8_fit ∈ WL := wl (by decide +kernel) rfl
theorem vk_X7_feed : VOK yX7_feed cX7_feed 2 (some .int) 1 := vok_of (by decide +kernel)
theorem ml_L_31 : Cond.methodLink RL 31 yX7_feed ∈ WL := wl (by decide +kernel) rfl
theorem vk_X8_feed : VOK yX8_feed cX8_feed 2 (some .int) 1 := vok_of (by decide +kernel)
theorem ml_L_35 : Cond.methodLink RL 35 yX8_feed ∈ WL := wl (by decide +kernel) rfl
theorem vk_X7_text : VOK yX7_text cX7_text 2 (some .int) 0 := vok_of (by decide +kernel)
theorem ml_L_36 : Cond.methodLink RL 36 yX7_text ∈ WL := wl (by decide +kernel) rfl
theorem vk_X8_text : VOK yX8_text cX8_text 2 (some .int) 0 := vok_of (by decide +kernel)
theorem ml_L_40 : Cond.methodLink RL 40 yX8_text ∈ WL := wl (by decide +kernel) rfl
theorem vk_X7_force : VOK yX7_force cX7_force 3 (some .int) 1 := vok_of (by decide +kernel)
theorem ml_L_41 : Cond.methodLink RL 41 yX7_force ∈ WL := wl (by decide +kernel) rfl
theorem vk_X8_force : VOK yX8_force cX8_force 3 (some .int) 1 := vok_of (by decide +kernel)
theorem ml_L_44 : Cond.methodLink RL 44 yX8_force ∈ WL := wl (by decide +kernel) rfl
theorem vk_X7_canBe : VOK yX7_canBe cX7_canBe 4 (some .int) 2 := vok_of (by decide +kernel)
theorem ml_L_45 : Cond.methodLink RL 45 yX7_canBe ∈ WL := wl (by decide +kernel) rfl
theorem vk_X8_canBe : VOK yX8_canBe cX8_canBe 8 (some .int) 2 := vok_of (by decide +kernel)
theorem ml_L_48 : Cond.methodLink RL 48 yX8_canBe ∈ WL := wl (by decide +kernel) rfl
theorem vk_X7_fetch : VOK yX7_fetch cX7_fetch 4 (some .int) 2 := vok_of (by decide +kernel)
theorem ml_L_49 : Cond.methodLink RL 49 yX7_fetch ∈ WL := wl (by decide +kernel) rfl
theorem vk_X8_fetch : VOK yX8_fetch cX8_fetch 5 (some .int) 2 := vok_of (by decide +kernel)
theorem ml_L_52 : Cond.methodLink RL 52 yX8_fetch ∈ WL := wl (by decide +kernel) rfl
theorem vk_X7_goes : VOK yX7_goes cX7_goes 2 (some .int) 1 := vok_of (by decide +kernel)
theorem ml_L_53 : Cond.methodLink RL 53 yX7_goes ∈ WL := wl (by decide +kernel) rfl
theorem vk_X8_goes : VOK yX8_goes cX8_goes 2 (some .int) 1 := vok_of (by decide +kernel)
theorem ml_L_56 : Cond.methodLink RL 56 yX8_goes ∈ WL := wl (by decide +kernel) rfl
theorem vk_X7_worst : VOK yX7_worst cX7_worst 7 (some .int) 1 := vok_of (by decide +kernel)
theorem ml_L_57 : Cond.methodLink RL 57 yX7_worst ∈ WL := wl (by decide +kernel) rfl
theorem vk_X8_worst : VOK yX8_worst cX8_worst 5 (some .int) 1 := vok_of (by decide +kernel)
theorem ml_L_60 : Cond.methodLink RL 60 yX8_worst ∈ WL := wl (by decide +kernel) rfl
theorem vk_X7_pair : VOK yX7_pair cX7_pair 2 (some .int) 1 := vok_of (by decide +kernel)
theorem ml_L_61 : Cond.methodLink RL 61 yX7_pair ∈ WL := wl (by decide +kernel) rfl
theorem vk_X8_pair : VOK yX8_pair cX8_pair 7 (some .int) 1 := vok_of (by decide +kernel)
theorem ml_L_64 : Cond.methodLink RL 64 yX8_pair ∈ WL := wl (by decide +kernel) rfl
theorem vk_X7_served : VOK yX7_served cX7_served 4 (some .int) 1 := vok_of (by decide +kernel)
theorem ml_L_65 : Cond.methodLink RL 65 yX7_served ∈ WL := wl (by decide +kernel) rfl
theorem vk_X8_served : VOK yX8_served cX8_served 2 (some .int) 1 := vok_of (by decide +kernel)
theorem ml_L_68 : Cond.methodLink RL 68 yX8_served ∈ WL := wl (by decide +kernel) rfl
theorem vk_X7_order : VOK yX7_order cX7_order 6 (some .int) 3 := vok_of (by decide +kernel)
theorem ml_L_69 : Cond.methodLink RL 69 yX7_order ∈ WL := wl (by decide +kernel) rfl
theorem vk_X8_order : VOK yX8_order cX8_order 6 (some .int) 3 := vok_of (by decide +kernel)
theorem ml_L_72 : Cond.methodLink RL 72 yX8_order ∈ WL := wl (by decide +kernel) rfl
theorem vk_X7_missing : VOK yX7_missing cX7_missing 4 (some .int) 1 := vok_of (by decide +kernel)
theorem ml_L_73 : Cond.methodLink RL 73 yX7_missing ∈ WL := wl (by decide +kernel) rfl
theorem vk_X8_missing : VOK yX8_missing cX8_missing 5 (some .int) 1 := vok_of (by decide +kernel)
theorem ml_L_76 : Cond.methodLink RL 76 yX8_missing ∈ WL := wl (by decide +kernel) rfl
theorem vk_X7_lies : VOK yX7_lies cX7_lies 5 (some .int) 1 := vok_of (by decide +kernel)
theorem ml_L_77 : Cond.methodLink RL 77 yX7_lies ∈ WL := wl (by decide +kernel) rfl
theorem vk_X8_lies : VOK yX8_lies cX8_lies 4 (some .int) 1 := vok_of (by decide +kernel)
theorem ml_L_80 : Cond.methodLink RL 80 yX8_lies ∈ WL := wl (by decide +kernel) rfl
theorem vk_X7_runs : VOK yX7_runs cX7_runs 10 (some .int) 4 := vok_of (by decide +kernel)
theorem ml_L_81 : Cond.methodLink RL 81 yX7_runs ∈ WL := wl (by decide +kernel) rfl
theorem vk_X8_runs : VOK yX8_runs cX8_runs 10 (some .int) 4 := vok_of (by decide +kernel)
theorem ml_L_85 : Cond.methodLink RL 85 yX8_runs ∈ WL := wl (by decide +kernel) rfl
theorem vk_X7_film : VOK yX7_film cX7_film 7 (some .int) 3 := vok_of (by decide +kernel)
theorem ml_L_86 : Cond.methodLink RL 86 yX7_film ∈ WL := wl (by decide +kernel) rfl
theorem vk_X8_film : VOK yX8_film cX8_film 7 (some .int) 3 := vok_of (by decide +kernel)
theorem ml_L_89 : Cond.methodLink RL 89 yX8_film ∈ WL := wl (by decide +kernel) rfl
theorem vk_X7_drawn : VOK yX7_drawn cX7_drawn 2 (some .int) 1 := vok_of (by decide +kernel)
theorem ml_L_90 : Cond.methodLink RL 90 yX7_drawn ∈ WL := wl (by decide +kernel) rfl
theorem vk_X8_drawn : VOK yX8_drawn cX8_drawn 2 (some .int) 1 := vok_of (by decide +kernel)
theorem ml_L_93 : Cond.methodLink RL 93 yX8_drawn ∈ WL := wl (by decide +kernel) rfl
theorem vk_X7_chance : VOK yX7_chance cX7_chance 6 (some .long) 3 := vok_of (by decide +kernel)
theorem ml_L_94 : Cond.methodLink RL 94 yX7_chance ∈ WL := wl (by decide +kernel) rfl
theorem vk_X8_chance : VOK yX8_chance cX8_chance 12 (some .long) 3 := vok_of (by decide +kernel)
theorem ml_L_98 : Cond.methodLink RL 98 yX8_chance ∈ WL := wl (by decide +kernel) rfl
theorem vk_X7_image : VOK yX7_image cX7_image 1 (some .int) 0 := vok_of (by decide +kernel)
theorem ml_L_99 : Cond.methodLink RL 99 yX7_image ∈ WL := wl (by decide +kernel) rfl
theorem vk_X8_image : VOK yX8_image cX8_image 2 (some .int) 0 := vok_of (by decide +kernel)
theorem ml_L_102 : Cond.methodLink RL 102 yX8_image ∈ WL := wl (by decide +kernel) rfl
theorem vk_X7_back : VOK yX7_back cX7_back 1 (some .int) 0 := vok_of (by decide +kernel)
theorem ml_L_103 : Cond.methodLink RL 103 yX7_back ∈ WL := wl (by decide +kernel) rfl
theorem vk_X8_back : VOK yX8_back cX8_back 2 (some .int) 0 := vok_of (by decide +kernel)
theorem ml_L_106 : Cond.methodLink RL 106 yX8_back ∈ WL := wl (by decide +kernel) rfl
theorem vk_X7_count : VOK yX7_count cX7_count 2 (some .int) 1 := vok_of (by decide +kernel)
theorem ml_L_107 : Cond.methodLink RL 107 yX7_count ∈ WL := wl (by decide +kernel) rfl
theorem vk_X8_count : VOK yX8_count cX8_count 2 (some .int) 1 := vok_of (by decide +kernel)
theorem ml_L_110 : Cond.methodLink RL 110 yX8_count ∈ WL := wl (by decide +kernel) rfl
theorem vk_X7_sheet : VOK yX7_sheet cX7_sheet 4 (some .int) 3 := vok_of (by decide +kernel)
theorem ml_L_111 : Cond.methodLink RL 111 yX7_sheet ∈ WL := wl (by decide +kernel) rfl
theorem ml_L_114 : Cond.methodLink RL 114 yX8_sheet ∈ WL := wl (by decide +kernel) rfl
theorem vk_X7_cell : VOK yX7_cell cX7_cell 4 (some .int) 3 := vok_of (by decide +kernel)
theorem ml_L_115 : Cond.methodLink RL 115 yX7_cell ∈ WL := wl (by decide +kernel) rfl
theorem vk_X8_cell : VOK yX8_cell cX8_cell 4 (some .int) 3 := vok_of (by decide +kernel)
theorem ml_L_118 : Cond.methodLink RL 118 yX8_cell ∈ WL := wl (by decide +kernel) rfl
theorem vk_X7_copy : VOK yX7_copy cX7_copy 6 (some .int) 5 := vok_of (by decide +kernel)
theorem ml_L_119 : Cond.methodLink RL 119 yX7_copy ∈ WL := wl (by decide +kernel) rfl
theorem vk_X8_copy : VOK yX8_copy cX8_copy 9 (some .int) 5 := vok_of (by decide +kernel)
theorem ml_L_123 : Cond.methodLink RL 123 yX8_copy ∈ WL := wl (by decide +kernel) rfl
theorem vk_X7_town : VOK yX7_town cX7_town 9 (some .int) 4 := vok_of (by decide +kernel)
theorem ml_L_124 : Cond.methodLink RL 124 yX7_town ∈ WL := wl (by decide +kernel) rfl
theorem vk_X8_town : VOK yX8_town cX8_town 8 (some .int) 4 := vok_of (by decide +kernel)
theorem ml_L_127 : Cond.methodLink RL 127 yX8_town ∈ WL := wl (by decide +kernel) rfl
theorem vk_X7_taken : VOK yX7_taken cX7_taken 3 (some .int) 2 := vok_of (by decide +kernel)
theorem ml_L_128 : Cond.methodLink RL 128 yX7_taken ∈ WL := wl (by decide +kernel) rfl
theorem vk_X8_taken : VOK yX8_taken cX8_taken 4 (some .int) 2 := vok_of (by decide +kernel)
theorem ml_L_131 : Cond.methodLink RL 131 yX8_taken ∈ WL := wl (by decide +kernel) rfl
set_option maxRecDepth 100000 in
theorem b_law (l : Launch) (v : Ev) (ab : Nat → Nat) (N L : Nat) (xs : Nat → Int32) (a3 : Int32) (g : Sg × SM) (res : Unit) (hf : x_L_law N L xs a3 g = some res) {p : Program} {e : Env} {s : State} {m : MethodId} {args : Array Value} {below : List Frame} {meth : Method} {c : Code} {Q : State → Prop} {b : Nat} {H : Heap} {locs : List Loc} {ls : Array Slot} (hx : p.tables.exec = Jvm.exec) (hb : c.code = cL_law) (hml : c.maxLocals = 4) (hown : s.vm.findClass RL = some m.cls) (hts : ∀ q ∈ WL, q.before args s = true) (hX : va_X b L xs s s.heap) (hbl : b < s.heap.size) (hbA : ¬ s.heap.size ≤ b) (hc : CL v ab s)
    (hend : ∀ (H : Heap) (locs : List Loc) (ls : Array Slot), va_S (fun q : Nat => s.heap.size ≤ q) s.heap H locs → W p l e room_1 s m args below meth c H locs 59 16356 Q (F0 m 1071 ls []))
    (hP : va_P (zD v) vwCl (zL ab v g) H) (hS : va_S (fun q : Nat => s.heap.size ≤ q) s.heap H locs) (hl : lv_has ls 4 [(0, .ref b), (1, .ref (zA v 0)), (2, .ref (zA (vb v ab) 0)), (3, .int a3)]) : W p l e room_1 s m args below meth c H locs 59 16356 Q (F0 m 18 ls []) := by
  have wb1065 : ∀ (h18 : Int32 × (Sg × SM) → Option (Unit)) (hh18 : ∀ x : Int32 × (Sg × SM), h18 x = some res → ∀ (H : Heap) (locs : List Loc) (ls : Array Slot), va_P (zD v) vwCl ((pL ab).1 v x.2) H → va_S (fun q : Nat => s.heap.size ≤ q) s.heap H locs → lv_has ls 4 [(0, .ref b), (1, .ref (zA v 0)), (2, .ref (zA (vb v ab) 0)), (3, .int x.1)] → W p l e room_1 s m args below meth c H locs 59 16356 Q (F0 m 18 ls [])) (y3 : Int32) (g : (Sg × SM)) (hf : x_L_law_b1065 N L xs h18 y3 g = some res) (H : Heap) (locs : List Loc) (ls : Array Slot) (hP : va_P (zD v) vwCl ((pL ab).1 v g) H) (hS : va_S (fun q : Nat => s.heap.size ≤ q) s.heap H locs) (hl : lv_has ls 4 [(0, .ref b), (1, .ref (zA v 0)), (2, .ref (zA (vb v ab) 0)), (3, .int y3)]), W p l e room_1 s m args below meth c H locs 59 16356 Q (F0 m 1065 ls []) := by
    intro h18 hh18 y3 g hf H locs ls hP hS hl
    unfold x_L_law_b1065 at hf
    obtain ⟨x4, ex4, hf⟩ := lt_e hf
    refine lv_iinc (v := x4) (lv' := [(3, .int x4), (0, .ref b), (1, .ref (zA v 0)), (2, .ref (zA (vb v ab) 0))]) hx hb dL_law_1065 hl (k := 3) rfl ((congrArg (fun z => y3 + z) kI_6).trans ex4.symm) (by decide) rfl (fun ls hl => ?_)
    refine lv_goto (tgt := 18) hx hb dL_law_1068 (by decide) ?_
    exact hh18 (x4, g) hf _ _ _ hP hS (lv_sub hl [1, 2, 3, 0] rfl)
  have wL18 : ∀ (n : Nat) (x : Int32 × (Sg × SM)), lp (x_L_law_B18 N L xs) n x = some res → ∀ (H : Heap) (locs : List Loc) (ls : Array Slot), va_P (zD v) vwCl ((pL ab).1 v x.2) H → va_S (fun q : Nat => s.heap.size ≤ q) s.heap H locs → lv_has ls 4 [(0, .ref b), (1, .ref (zA v 0)), (2, .ref (zA (vb v ab) 0)), (3, .int x.1)] → W p l e room_1 s m args below meth c H locs 59 16356 Q (F0 m 18 ls []) := by
    refine lp_w (P := fun x : Int32 × (Sg × SM) => ∀ (H : Heap) (locs : List Loc) (ls : Array Slot), va_P (zD v) vwCl ((pL ab).1 v x.2) H → va_S (fun q : Nat => s.heap.size ≤ q) s.heap H locs → lv_has ls 4 [(0, .ref b), (1, .ref (zA v 0)), (2, .ref (zA (vb v ab) 0)), (3, .int x.1)] → W p l e room_1 s m args below meth c H locs 59 16356 Q (F0 m 18 ls [])) ?_
    intro h18 hh18 x hf H locs ls hP hS hl
    unfold x_L_law_B18 at hf
    refine lv_iload_n hx hb dL_law_18 rfl (lv_at hl 3 rfl) ?_
    refine lv_aload_n hx hb dL_law_19 rfl (lv_at hl 0 rfl) ?_
    refine va_slen hx hb hX hbl hbA hS dL_law_20 ?_
    refine lv_bipush (v := 6) hx hb dL_law_21 kB_6 ?_
    refine lv_isub hx hb dL_law_23 ?_
    refine lv_icmp_gt (tgt := 1071) hx hb dL_law_24 (by decide) (fun c1 => ?_) (fun c1 => ?_)
    · have hf := ite_t c1 hf
      exact hend _ _ _ hS
    · have hf := ite_f c1 hf
      refine lv_aload_n hx hb dL_law_27 rfl (lv_at hl 0 rfl) ?_
      refine lv_iload_n hx hb dL_law_28 rfl (lv_at hl 3 rfl) ?_
      obtain ⟨c2, hf⟩ := gd_e hf
      refine va_sld hx hb hX hbl hbA hS (inb_in c2) dL_law_29 ?_
      refine lv_bipush (v := 31) hx hb dL_law_30 kB_31 ?_
      refine lv_iand hx hb dL_law_32 ?_
      by_cases c3 : (((xs (x.1).toNatClampNeg) &&& (31 : Int32))).toInt < 0 ∨ 27 < (((xs (x.1).toNatClampNeg) &&& (31 : Int32))).toInt
      · have hf := ite_t c3 hf
        refine lv_tableOut (tgt := 1065) hx hb dL_law_33 c3 (by decide) ?_
        exact wb1065 h18 hh18 x.1 x.2 hf _ _ _ hP hS (lv_sub hl [0, 1, 2, 3] rfl)
      · have hf := ite_f c3 hf
        by_cases c5 : ((((xs (x.1).toNatClampNeg) &&& (31 : Int32))).toInt - (0)).toNat = 0
        · have hf := ite_t c5 hf
          refine lv_tableIn (tgt := 160) hx hb dL_law_33 (fun h => c3 (Or.inl h)) (fun h => c3 (Or.inr h)) (by rw [c5]; rfl) (by decide) ?_
          refine lv_aload_n hx hb dL_law_160 rfl (lv_at hl 1 rfl) ?_
          refine lv_aload_n hx hb dL_law_161 rfl (lv_at hl 0 rfl) ?_
          refine lv_iload_n hx hb dL_law_162 rfl (lv_at hl 3 rfl) ?_
          refine lv_iconst (v := 1) hx hb dL_law_163 kI_1 ?_
          refine lv_iadd hx hb dL_law_164 ?_
          obtain ⟨c6, hf⟩ := gd_e hf
          refine va_sld hx hb hX hbl hbA hS (inb_in c6) dL_law_165 ?_
          refine lv_aload_n hx hb dL_law_166 rfl (lv_at hl 0 rfl) ?_
          refine lv_iload_n hx hb dL_law_167 rfl (lv_at hl 3 rfl) ?_
          refine lv_iconst (v := 2) hx hb dL_law_168 kI_2 ?_
          refine lv_iadd hx hb dL_law_169 ?_
          obtain ⟨c7, hf⟩ := gd_e hf
          refine va_sld hx hb hX hbl hbA hS (inb_in c7) dL_law_170 ?_
          refine lv_aload_n hx hb dL_law_171 rfl (lv_at hl 0 rfl) ?_
          refine lv_iload_n hx hb dL_law_172 rfl (lv_at hl 3 rfl) ?_
          refine lv_iconst (v := 3) hx hb dL_law_173 kI_3 ?_
          refine lv_iadd hx hb dL_law_174 ?_
          obtain ⟨c8, hf⟩ := gd_e hf
          refine va_sld hx hb hX hbl hbA hS (inb_in c8) dL_law_175 ?_
          obtain ⟨q9, eq9, hf⟩ := bd_e hf
          refine zkic (w := pX) (v := v) (cl_X hc) hS (zrVc (w := pX) (v := v) (u := x.2.1) (As := [.int (xs ((x.1 + (1 : Int32))).toNatClampNeg), .int (xs ((x.1 + (2 : Int32))).toNatClampNeg), .int (xs ((x.1 + (3 : Int32))).toNatClampNeg)]) (rest := []) okX hx hb hml hown hts hc.1 (va_P_l hP) hS (fun q h1 h2 => absurd h1 (Nat.not_lt.mpr h2)) (t_X7_set l v N (xs ((x.1 + (1 : Int32))).toNatClampNeg) (xs ((x.1 + (2 : Int32))).toNatClampNeg) (xs ((x.1 + (3 : Int32))).toNatClampNeg) x.2.1 _ eq9) vk_X7_set ml_L_13 rfl rfl ⟨(Nat.le_of_ble_eq_true rfl), (Nat.le_of_ble_eq_true rfl)⟩ (zlr_X hP hc) rfl hl.1 rfl (Nat.le_of_ble_eq_true rfl) dL_law_176 ⟨(Nat.le_of_ble_eq_true rfl), (Nat.le_of_ble_eq_true rfl)⟩) (fun H1 locs hP1 hS hk1 => ?_)
          have hP : va_P (zD v) vwCl (zL ab v (q9.2, x.2.2)) H1 := zl_backX hc (G := x.2) hP hP1 hk1
          generalize H1 = H at hP hS ⊢
          refine lv_aload_n hx hb dL_law_179 rfl (lv_at hl 2 rfl) ?_
          refine lv_aload_n hx hb dL_law_180 rfl (lv_at hl 0 rfl) ?_
          refine lv_iload_n hx hb dL_law_181 rfl (lv_at hl 3 rfl) ?_
          refine lv_iconst (v := 1) hx hb dL_law_182 kI_1 ?_
          refine lv_iadd hx hb dL_law_183 ?_
          obtain ⟨c10, hf⟩ := gd_e hf
          refine va_sld hx hb hX hbl hbA hS (inb_in c10) dL_law_184 ?_
          refine lv_aload_n hx hb dL_law_185 rfl (lv_at hl 0 rfl) ?_
          refine lv_iload_n hx hb dL_law_186 rfl (lv_at hl 3 rfl) ?_
          refine lv_iconst (v := 2) hx hb dL_law_187 kI_2 ?_
          refine lv_iadd hx hb dL_law_188 ?_
          obtain ⟨c11, hf⟩ := gd_e hf
          refine va_sld hx hb hX hbl hbA hS (inb_in c11) dL_law_189 ?_
          refine lv_aload_n hx hb dL_law_190 rfl (lv_at hl 0 rfl) ?_
          refine lv_iload_n hx hb dL_law_191 rfl (lv_at hl 3 rfl) ?_
          refine lv_iconst (v := 3) hx hb dL_law_192 kI_3 ?_
          refine lv_iadd hx hb dL_law_193 ?_
          obtain ⟨c12, hf⟩ := gd_e hf
          refine va_sld hx hb hX hbl hbA hS (inb_in c12) dL_law_194 ?_
          obtain ⟨q13, eq13, hf⟩ := bd_e hf
          refine zkic (w := pM) (v := (vb v ab)) (cl_M hc) hS (zrVc (w := pM) (v := (vb v ab)) (u := x.2.2) (As := [.int (xs ((x.1 + (1 : Int32))).toNatClampNeg), .int (xs ((x.1 + (2 : Int32))).toNatClampNeg), .int (xs ((x.1 + (3 : Int32))).toNatClampNeg)]) (rest := [.int q9.1]) okM hx hb hml hown hts hc.2.1 (va_P_r hP) hS (fun q h1 h2 => absurd h1 (Nat.not_lt.mpr h2)) (t_X8_set l (vb v ab) N (xs ((x.1 + (1 : Int32))).toNatClampNeg) (xs ((x.1 + (2 : Int32))).toNatClampNeg) (xs ((x.1 + (3 : Int32))).toNatClampNeg) x.2.2 _ eq13) vk_X8_set ml_L_17 rfl rfl ⟨(Nat.le_of_ble_eq_true rfl), (Nat.le_of_ble_eq_true rfl)⟩ (zlr_M hP hc) rfl hl.1 rfl (Nat.le_of_ble_eq_true rfl) dL_law_195 ⟨(Nat.le_of_ble_eq_true rfl), (Nat.le_of_ble_eq_true rfl)⟩) (fun H1 locs hP1 hS hk1 => ?_)
          have hP : va_P (zD v) vwCl (zL ab v (q9.2, q13.2)) H1 := zl_backM hc (G := (q9.2, x.2.2)) hP hP1 hk1
          generalize H1 = H at hP hS ⊢
          refine lv_icmp_eq (tgt := 1065) hx hb dL_law_198 (by decide) (fun c14 => ?_) (fun c14 => ?_)
          · have hf := ite_t c14 hf
            exact wb1065 h18 hh18 x.1 (q9.2, q13.2) hf _ _ _ hP hS (lv_sub hl [0, 1, 2, 3] rfl)
          · have hf := ite_f c14 hf
            exact nn_e hf
        · have hf := ite_f c5 hf
          by_cases c15 : ((((xs (x.1).toNatClampNeg) &&& (31 : Int32))).toInt - (0)).toNat = 1
          · have hf := ite_t c15 hf
            refine lv_tableIn (tgt := 203) hx hb dL_law_33 (fun h => c3 (Or.inl h)) (fun h => c3 (Or.inr h)) (by rw [c15]; rfl) (by decide) ?_
            refine lv_aload_n hx hb dL_law_203 rfl (lv_at hl 1 rfl) ?_
            refine lv_aload_n hx hb dL_law_204 rfl (lv_at hl 0 rfl) ?_
            refine lv_iload_n hx hb dL_law_205 rfl (lv_at hl 3 rfl) ?_
            refine lv_iconst (v := 1) hx hb dL_law_206 kI_1 ?_
            refine lv_iadd hx hb dL_law_207 ?_
            obtain ⟨c16, hf⟩ := gd_e hf
            refine va_sld hx hb hX hbl hbA hS (inb_in c16) dL_law_208 ?_
            refine lv_aload_n hx hb dL_law_209 rfl (lv_at hl 0 rfl) ?_
            refine lv_iload_n hx hb dL_law_210 rfl (lv_at hl 3 rfl) ?_
            refine lv_iconst (v := 2) hx hb dL_law_211 kI_2 ?_
            refine lv_iadd hx hb dL_law_212 ?_
            obtain ⟨c17, hf⟩ := gd_e hf
            refine va_sld hx hb hX hbl hbA hS (inb_in c17) dL_law_213 ?_
            refine lv_aload_n hx hb dL_law_214 rfl (lv_at hl 0 rfl) ?_
            refine lv_iload_n hx hb dL_law_215 rfl (lv_at hl 3 rfl) ?_
            refine lv_iconst (v := 3) hx hb dL_law_216 kI_3 ?_
            refine lv_iadd hx hb dL_law_217 ?_
            obtain ⟨c18, hf⟩ := gd_e hf
            refine va_sld hx hb hX hbl hbA hS (inb_in c18) dL_law_218 ?_
            obtain ⟨q19, eq19, hf⟩ := bd_e hf
            refine zkic (w := pX) (v := v) (cl_X hc) hS (zrVc (w := pX) (v := v) (u := x.2.1) (As := [.int (xs ((x.1 + (1 : Int32))).toNatClampNeg), .int (xs ((x.1 + (2 : Int32))).toNatClampNeg), .int (xs ((x.1 + (3 : Int32))).toNatClampNeg)]) (rest := []) okX hx hb hml hown hts hc.1 (va_P_l hP) hS (fun q h1 h2 => absurd h1 (Nat.not_lt.mpr h2)) (t_X7_make l v N (xs ((x.1 + (1 : Int32))).toNatClampNeg) (xs ((x.1 + (2 : Int32))).toNatClampNeg) (xs ((x.1 + (3 : Int32))).toNatClampNeg) x.2.1 _ eq19) vk_X7_make ml_L_18 rfl rfl ⟨(Nat.le_of_ble_eq_true rfl), (Nat.le_of_ble_eq_true rfl)⟩ (zlr_X hP hc) rfl hl.1 rfl (Nat.le_of_ble_eq_true rfl) dL_law_219 ⟨(Nat.le_of_ble_eq_true rfl), (Nat.le_of_ble_eq_true rfl)⟩) (fun H1 locs hP1 hS hk1 => ?_)
            have hP : va_P (zD v) vwCl (zL ab v (q19.2, x.2.2)) H1 := zl_backX hc (G := x.2) hP hP1 hk1
            generalize H1 = H at hP hS ⊢
            refine lv_aload_n hx hb dL_law_222 rfl (lv_at hl 2 rfl) ?_
            refine lv_aload_n hx hb dL_law_223 rfl (lv_at hl 0 rfl) ?_
            refine lv_iload_n hx hb dL_law_224 rfl (lv_at hl 3 rfl) ?_
            refine lv_iconst (v := 1) hx hb dL_law_225 kI_1 ?_
            refine lv_iadd hx hb dL_law_226 ?_
            obtain ⟨c20, hf⟩ := gd_e hf
            refine va_sld hx hb hX hbl hbA hS (inb_in c20) dL_law_227 ?_
            refine lv_aload_n hx hb dL_law_228 rfl (lv_at hl 0 rfl) ?_
            refine lv_iload_n hx hb dL_law_229 rfl (lv_at hl 3 rfl) ?_
            refine lv_iconst (v := 2) hx hb dL_law_230 kI_2 ?_
            refine lv_iadd hx hb dL_law_231 ?_
            obtain ⟨c21, hf⟩ := gd_e hf
            refine va_sld hx hb hX hbl hbA hS (inb_in c21) dL_law_232 ?_
            refine lv_aload_n hx hb dL_law_233 rfl (lv_at hl 0 rfl) ?_
            refine lv_iload_n hx hb dL_law_234 rfl (lv_at hl 3 rfl) ?_
            refine lv_iconst (v := 3) hx hb dL_law_235 kI_3 ?_
            refine lv_iadd hx hb dL_law_236 ?_
            obtain ⟨c22, hf⟩ := gd_e hf
            refine va_sld hx hb hX hbl hbA hS (inb_in c22) dL_law_237 ?_
            obtain ⟨q23, eq23, hf⟩ := bd_e hf
            refine zkic (w := pM) (v := (vb v ab)) (cl_M hc) hS (zrVc (w := pM) (v := (vb v ab)) (u := x.2.2) (As := [.int (xs ((x.1 + (1 : Int32))).toNatClampNeg), .int (xs ((x.1 + (2 : Int32))).toNatClampNeg), .int (xs ((x.1 + (3 : Int32))).toNatClampNeg)]) (rest := [.int q19.1]) okM hx hb hml hown hts hc.2.1 (va_P_r hP) hS (fun q h1 h2 => absurd h1 (Nat.not_lt.mpr h2)) (t_X8_make l (vb v ab) N (xs ((x.1 + (1 : Int32))).toNatClampNeg) (xs ((x.1 + (2 : Int32))).toNatClampNeg) (xs ((x.1 + (3 : Int32))).toNatClampNeg) x.2.2 _ eq23) vk_X8_make ml_L_21 rfl rfl ⟨(Nat.le_of_ble_eq_true rfl), (Nat.le_of_ble_eq_true rfl)⟩ (zlr_M hP hc) rfl hl.1 rfl (Nat.le_of_ble_eq_true rfl) dL_law_238 ⟨(Nat.le_of_ble_eq_true rfl), (Nat.le_of_ble_eq_true rfl)⟩) (fun H1 locs hP1 hS hk1 => ?_)
            have hP : va_P (zD v) vwCl (zL ab v (q19.2, q23.2)) H1 := zl_backM hc (G := (q19.2, x.2.2)) hP hP1 hk1
            generalize H1 = H at hP hS ⊢
            refine lv_icmp_eq (tgt := 1065) hx hb dL_law_241 (by decide) (fun c24 => ?_) (fun c24 => ?_)
            · have hf := ite_t c24 hf
              exact wb1065 h18 hh18 x.1 (q19.2, q23.2) hf _ _ _ hP hS (lv_sub hl [0, 1, 2, 3] rfl)
            · have hf := ite_f c24 hf
              exact nn_e hf
          · have hf := ite_f c15 hf
            by_cases c25 : ((((xs (x.1).toNatClampNeg) &&& (31 : Int32))).toInt - (0)).toNat = 2
            · have hf := ite_t c25 hf
              refine lv_tableIn (tgt := 246) hx hb dL_law_33 (fun h => c3 (Or.inl h)) (fun h => c3 (Or.inr h)) (by rw [c25]; rfl) (by decide) ?_
              refine lv_aload_n hx hb dL_law_246 rfl (lv_at hl 1 rfl) ?_
              refine lv_aload_n hx hb dL_law_247 rfl (lv_at hl 0 rfl) ?_
              refine lv_iload_n hx hb dL_law_248 rfl (lv_at hl 3 rfl) ?_
              refine lv_iconst (v := 1) hx hb dL_law_249 kI_1 ?_
              refine lv_iadd hx hb dL_law_250 ?_
              obtain ⟨c26, hf⟩ := gd_e hf
              refine va_sld hx hb hX hbl hbA hS (inb_in c26) dL_law_251 ?_
              refine lv_aload_n hx hb dL_law_252 rfl (lv_at hl 0 rfl) ?_
              refine lv_iload_n hx hb dL_law_253 rfl (lv_at hl 3 rfl) ?_
              refine lv_iconst (v := 2) hx hb dL_law_254 kI_2 ?_
              refine lv_iadd hx hb dL_law_255 ?_
              obtain ⟨c27, hf⟩ := gd_e hf
              refine va_sld hx hb hX hbl hbA hS (inb_in c27) dL_law_256 ?_
              obtain ⟨q28, eq28, hf⟩ := bd_e hf
              refine zkic (w := pX) (v := v) (cl_X hc) hS (zrVc (w := pX) (v := v) (u := x.2.1) (As := [.int (xs ((x.1 + (1 : Int32))).toNatClampNeg), .int (xs ((x.1 + (2 : Int32))).toNatClampNeg)]) (rest := []) okX hx hb hml hown hts hc.1 (va_P_l hP) hS (fun q h1 h2 => absurd h1 (Nat.not_lt.mpr h2)) (t_X7_told l v N (xs ((x.1 + (1 : Int32))).toNatClampNeg) (xs ((x.1 + (2 : Int32))).toNatClampNeg) x.2.1 _ eq28) vk_X7_told ml_L_22 rfl rfl ⟨(Nat.le_of_ble_eq_true rfl), (Nat.le_of_ble_eq_true rfl)⟩ (zlr_X hP hc) rfl hl.1 rfl (Nat.le_of_ble_eq_true rfl) dL_law_257 ⟨(Nat.le_of_ble_eq_true rfl), (Nat.le_of_ble_eq_true rfl)⟩) (fun H1 locs hP1 hS hk1 => ?_)
              have hP : va_P (zD v) vwCl (zL ab v (q28.2, x.2.2)) H1 := zl_backX hc (G := x.2) hP hP1 hk1
              generalize H1 = H at hP hS ⊢
              refine lv_aload_n hx hb dL_law_260 rfl (lv_at hl 2 rfl) ?_
              refine lv_aload_n hx hb dL_law_261 rfl (lv_at hl 0 rfl) ?_
              refine lv_iload_n hx hb dL_law_262 rfl (lv_at hl 3 rfl) ?_
              refine lv_iconst (v := 1) hx hb dL_law_263 kI_1 ?_
              refine lv_iadd hx hb dL_law_264 ?_
              obtain ⟨c29, hf⟩ := gd_e hf
              refine va_sld hx hb hX hbl hbA hS (inb_in c29) dL_law_265 ?_
              refine lv_aload_n hx hb dL_law_266 rfl (lv_at hl 0 rfl) ?_
              refine lv_iload_n hx hb dL_law_267 rfl (lv_at hl 3 rfl) ?_
              refine lv_iconst (v := 2) hx hb dL_law_268 kI_2 ?_
              refine lv_iadd hx hb dL_law_269 ?_
              obtain ⟨c30, hf⟩ := gd_e hf
              refine va_sld hx hb hX hbl hbA hS (inb_in c30) dL_law_270 ?_
              obtain ⟨q31, eq31, hf⟩ := bd_e hf
              refine zkic (w := pM) (v := (vb v ab)) (cl_M hc) hS (zrVc (w := pM) (v := (vb v ab)) (u := x.2.2) (As := [.int (xs ((x.1 + (1 : Int32))).toNatClampNeg), .int (xs ((x.1 + (2 : Int32))).toNatClampNeg)]) (rest := [.int q28.1]) okM hx hb hml hown hts hc.2.1 (va_P_r hP) hS (fun q h1 h2 => absurd h1 (Nat.not_lt.mpr h2)) (t_X8_told l (vb v ab) N (xs ((x.1 + (1 : Int32))).toNatClampNeg) (xs ((x.1 + (2 : Int32))).toNatClampNeg) x.2.2 _ eq31) vk_X8_told ml_L_26 rfl rfl ⟨(Nat.le_of_ble_eq_true rfl), (Nat.le_of_ble_eq_true rfl)⟩ (zlr_M hP hc) rfl hl.1 rfl (Nat.le_of_ble_eq_true rfl) dL_law_271 ⟨(Nat.le_of_ble_eq_true rfl), (Nat.le_of_ble_eq_true rfl)⟩) (fun H1 locs hP1 hS hk1 => ?_)
              have hP : va_P (zD v) vwCl (zL ab v (q28.2, q31.2)) H1 := zl_backM hc (G := (q28.2, x.2.2)) hP hP1 hk1
              generalize H1 = H at hP hS ⊢
              refine lv_icmp_eq (tgt := 1065) hx hb dL_law_274 (by decide) (fun c32 => ?_) (fun c32 => ?_)
              · have hf := ite_t c32 hf
                exact wb1065 h18 hh18 x.1 (q28.2, q31.2) hf _ _ _ hP hS (lv_sub hl [0, 1, 2, 3] rfl)
              · have hf := ite_f c32 hf
                exact nn_e hf
            · have hf := ite_f c25 hf
              by_cases c33 : ((((xs (x.1).toNatClampNeg) &&& (31 : Int32))).toInt - (0)).toNat = 3
              · have hf := ite_t c33 hf
                refine lv_tableIn (tgt := 279) hx hb dL_law_33 (fun h => c3 (Or.inl h)) (fun h => c3 (Or.inr h)) (by rw [c33]; rfl) (by decide) ?_
                refine lv_aload_n hx hb dL_law_279 rfl (lv_at hl 1 rfl) ?_
                refine lv_aload_n hx hb dL_law_280 rfl (lv_at hl 0 rfl) ?_
                refine lv_iload_n hx hb dL_law_281 rfl (lv_at hl 3 rfl) ?_
                refine lv_iconst (v := 1) hx hb dL_law_282 kI_1 ?_
                refine lv_iadd hx hb dL_law_283 ?_
                obtain ⟨c34, hf⟩ := gd_e hf
                refine va_sld hx hb hX hbl hbA hS (inb_in c34) dL_law_284 ?_
                refine lv_aload_n hx hb dL_law_285 rfl (lv_at hl 0 rfl) ?_
                refine lv_iload_n hx hb dL_law_286 rfl (lv_at hl 3 rfl) ?_
                refine lv_iconst (v := 2) hx hb dL_law_287 kI_2 ?_
                refine lv_iadd hx hb dL_law_288 ?_
                obtain ⟨c35, hf⟩ := gd_e hf
                refine va_sld hx hb hX hbl hbA hS (inb_in c35) dL_law_289 ?_
                obtain ⟨q36, eq36, hf⟩ := bd_e hf
                refine zkic (w := pX) (v := v) (cl_X hc) hS (zrVc (w := pX) (v := v) (u := x.2.1) (As := [.int (xs ((x.1 + (1 : Int32))).toNatClampNeg), .int (xs ((x.1 + (2 : Int32))).toNatClampNeg)]) (rest := []) okX hx hb hml hown hts hc.1 (va_P_l hP) hS (fun q h1 h2 => absurd h1 (Nat.not_lt.mpr h2)) (t_X7_fit l v N (xs ((x.1 + (1 : Int32))).toNatClampNeg) (xs ((x.1 + (2 : Int32))).toNatClampNeg) x.2.1 _ eq36) vk_X7_fit ml_L_27 rfl rfl ⟨(Nat.le_of_ble_eq_true rfl), (Nat.le_of_ble_eq_true rfl)⟩ (zlr_X hP hc) rfl hl.1 rfl (Nat.le_of_ble_eq_true rfl) dL_law_290 ⟨(Nat.le_of_ble_eq_true rfl), (Nat.le_of_ble_eq_true rfl)⟩) (fun H1 locs hP1 hS hk1 => ?_)
                have hP : va_P (zD v) vwCl (zL ab v (q36.2, x.2.2)) H1 := zl_backX hc (G := x.2) hP hP1 hk1
                generalize H1 = H at hP hS ⊢
                refine lv_aload_n hx hb dL_law_293 rfl (lv_at hl 2 rfl) ?_
                refine lv_aload_n hx hb dL_law_294 rfl (lv_at hl 0 rfl) ?_
                refine lv_iload_n hx hb dL_law_295 rfl (lv_at hl 3 rfl) ?_
                refine lv_iconst (v := 1) hx hb dL_law_296 kI_1 ?_
                refine lv_iadd hx hb dL_law_297 ?_
                obtain ⟨c37, hf⟩ := gd_e hf
                refine va_sld hx hb hX hbl hbA hS (inb_in c37) dL_law_298 ?_
                refine lv_aload_n hx hb dL_law_299 rfl (lv_at hl 0 rfl) ?_
                refine lv_iload_n hx hb dL_law_300 rfl (lv_at hl 3 rfl) ?_
                refine lv_iconst (v := 2) hx hb dL_law_301 kI_2 ?_
                refine lv_iadd hx hb dL_law_302 ?_
                obtain ⟨c38, hf⟩ := gd_e hf
                refine va_sld hx hb hX hbl hbA hS (inb_in c38) dL_law_303 ?_
                obtain ⟨q39, eq39, hf⟩ := bd_e hf
                refine zkic (w := pM) (v := (vb v ab)) (cl_M hc) hS (zrVc (w := pM) (v := (vb v ab)) (u := x.2.2) (As := [.int (xs ((x.1 + (1 : Int32))).toNatClampNeg), .int (xs ((x.1 + (2 : Int32))).toNatClampNeg)]) (rest := [.int q36.1]) okM hx hb hml hown hts hc.2.1 (va_P_r hP) hS (fun q h1 h2 => absurd h1 (Nat.not_lt.mpr h2)) (t_X8_fit l (vb v ab) N (xs ((x.1 + (1 : Int32))).toNatClampNeg) (xs ((x.1 + (2 : Int32))).toNatClampNeg) x.2.2 _ eq39) vk_X8_fit ml_L_30 rfl rfl ⟨(Nat.le_of_ble_eq_true rfl), (Nat.le_of_ble_eq_true rfl)⟩ (zlr_M hP hc) rfl hl.1 rfl (Nat.le_of_ble_eq_true rfl) dL_law_304 ⟨(Nat.le_of_ble_eq_true rfl), (Nat.le_of_ble_eq_true rfl)⟩) (fun H1 locs hP1 hS hk1 => ?_)
                have hP : va_P (zD v) vwCl (zL ab v (q36.2, q39.2)) H1 := zl_backM hc (G := (q36.2, x.2.2)) hP hP1 hk1
                generalize H1 = H at hP hS ⊢
                refine lv_icmp_eq (tgt := 1065) hx hb dL_law_307 (by decide) (fun c40 => ?_) (fun c40 => ?_)
                · have hf := ite_t c40 hf
                  exact wb1065 h18 hh18 x.1 (q36.2, q39.2) hf _ _ _ hP hS (lv_sub hl [0, 1, 2, 3] rfl)
                · have hf := ite_f c40 hf
                  exact nn_e hf
              · have hf := ite_f c33 hf
                by_cases c41 : ((((xs (x.1).toNatClampNeg) &&& (31 : Int32))).toInt - (0)).toNat = 4
                · have hf := ite_t c41 hf
                  refine lv_tableIn (tgt := 312) hx hb dL_law_33 (fun h => c3 (Or.inl h)) (fun h => c3 (Or.inr h)) (by rw [c41]; rfl) (by decide) ?_
                  refine lv_aload_n hx hb dL_law_312 rfl (lv_at hl 1 rfl) ?_
                  refine lv_aload_n hx hb dL_law_313 rfl (lv_at hl 0 rfl) ?_
                  refine lv_iload_n hx hb dL_law_314 rfl (lv_at hl 3 rfl) ?_
                  refine lv_iconst (v := 1) hx hb dL_law_315 kI_1 ?_
                  refine lv_iadd hx hb dL_law_316 ?_
                  obtain ⟨c42, hf⟩ := gd_e hf
                  refine va_sld hx hb hX hbl hbA hS (inb_in c42) dL_law_317 ?_
                  obtain ⟨q43, eq43, hf⟩ := bd_e hf
                  refine zkic (w := pX) (v := v) (cl_X hc) hS (zrVc (w := pX) (v := v) (u := x.2.1) (As := [.int (xs ((x.1 + (1 : Int32))).toNatClampNeg)]) (rest := []) okX hx hb hml hown hts hc.1 (va_P_l hP) hS (fun q h1 h2 => absurd h1 (Nat.not_lt.mpr h2)) (t_X7_feed l v N (xs ((x.1 + (1 : Int32))).toNatClampNeg) x.2.1 _ eq43) vk_X7_feed ml_L_31 rfl rfl ⟨(Nat.le_of_ble_eq_true rfl), (Nat.le_of_ble_eq_true rfl)⟩ (zlr_X hP hc) rfl hl.1 rfl (Nat.le_of_ble_eq_true rfl) dL_law_318 ⟨(Nat.le_of_ble_eq_true rfl), (Nat.le_of_ble_eq_true rfl)⟩) (fun H1 locs hP1 hS hk1 => ?_)
                  have hP : va_P (zD v) vwCl (zL ab v (q43.2, x.2.2)) H1 := zl_backX hc (G := x.2) hP hP1 hk1
                  generalize H1 = H at hP hS ⊢
                  refine lv_aload_n hx hb dL_law_321 rfl (lv_at hl 2 rfl) ?_
                  refine lv_aload_n hx hb dL_law_322 rfl (lv_at hl 0 rfl) ?_
                  refine lv_iload_n hx hb dL_law_323 rfl (lv_at hl 3 rfl) ?_
                  refine lv_iconst (v := 1) hx hb dL_law_324 kI_1 ?_
                  refine lv_iadd hx hb dL_law_325 ?_
                  obtain ⟨c44, hf⟩ := gd_e hf
                  refine va_sld hx hb hX hbl hbA hS (inb_in c44) dL_law_326 ?_
                  obtain ⟨q45, eq45, hf⟩ := bd_e hf
                  refine zkic (w := pM) (v := (vb v ab)) (cl_M hc) hS (zrVc (w := pM) (v := (vb v ab)) (u := x.2.2) (As := [.int (xs ((x.1 + (1 : Int32))).toNatClampNeg)]) (rest := [.int q43.1]) okM hx hb hml hown hts hc.2.1 (va_P_r hP) hS (fun q h1 h2 => absurd h1 (Nat.not_lt.mpr h2)) (t_X8_feed l (vb v ab) N (xs ((x.1 + (1 : Int32))).toNatClampNeg) x.2.2 _ eq45) vk_X8_feed ml_L_35 rfl rfl ⟨(Nat.le_of_ble_eq_true rfl), (Nat.le_of_ble_eq_true rfl)⟩ (zlr_M hP hc) rfl hl.1 rfl (Nat.le_of_ble_eq_true rfl) dL_law_327 ⟨(Nat.le_of_ble_eq_true rfl), (Nat.le_of_ble_eq_true rfl)⟩) (fun H1 locs hP1 hS hk1 => ?_)
                  have hP : va_P (zD v) vwCl (zL ab v (q43.2, q45.2)) H1 := zl_backM hc (G := (q43.2, x.2.2)) hP hP1 hk1
                  generalize H1 = H at hP hS ⊢
                  refine lv_icmp_eq (tgt := 1065) hx hb dL_law_330 (by decide) (fun c46 => ?_) (fun c46 => ?_)
                  · have hf := ite_t c46 hf
                    exact wb1065 h18 hh18 x.1 (q43.2, q45.2) hf _ _ _ hP hS (lv_sub hl [0, 1, 2, 3] rfl)
                  · have hf := ite_f c46 hf
                    exact nn_e hf
                · have hf := ite_f c41 hf
                  by_cases c47 : ((((xs (x.1).toNatClampNeg) &&& (31 : Int32))).toInt - (0)).toNat = 5
                  · have hf := ite_t c47 hf
                    refine lv_tableIn (tgt := 335) hx hb dL_law_33 (fun h => c3 (Or.inl h)) (fun h => c3 (Or.inr h)) (by rw [c47]; rfl) (by decide) ?_
                    refine lv_aload_n hx hb dL_law_335 rfl (lv_at hl 1 rfl) ?_
                    obtain ⟨q48, eq48, hf⟩ := bd_e hf
                    refine zkic (w := pX) (v := v) (cl_X hc) hS (zrVc (w := pX) (v := v) (u := x.2.1) (As := []) (rest := []) okX hx hb hml hown hts hc.1 (va_P_l hP) hS (fun q h1 h2 => absurd h1 (Nat.not_lt.mpr h2)) (t_X7_text l v N x.2.1 _ eq48) vk_X7_text ml_L_36 rfl rfl ⟨(Nat.le_of_ble_eq_true rfl), (Nat.le_of_ble_eq_true rfl)⟩ (zlr_X hP hc) rfl hl.1 rfl (Nat.le_of_ble_eq_true rfl) dL_law_336 ⟨(Nat.le_of_ble_eq_true rfl), (Nat.le_of_ble_eq_true rfl)⟩) (fun H1 locs hP1 hS hk1 => ?_)
                    have hP : va_P (zD v) vwCl (zL ab v (q48.2, x.2.2)) H1 := zl_backX hc (G := x.2) hP hP1 hk1
                    generalize H1 = H at hP hS ⊢
                    refine lv_aload_n hx hb dL_law_339 rfl (lv_at hl 2 rfl) ?_
                    obtain ⟨q49, eq49, hf⟩ := bd_e hf
                    refine zkic (w := pM) (v := (vb v ab)) (cl_M hc) hS (zrVc (w := pM) (v := (vb v ab)) (u := x.2.2) (As := []) (rest := [.int q48.1]) okM hx hb hml hown hts hc.2.1 (va_P_r hP) hS (fun q h1 h2 => absurd h1 (Nat.not_lt.mpr h2)) (t_X8_text l (vb v ab) N x.2.2 _ eq49) vk_X8_text ml_L_40 rfl rfl ⟨(Nat.le_of_ble_eq_true rfl), (Nat.le_of_ble_eq_true rfl)⟩ (zlr_M hP hc) rfl hl.1 rfl (Nat.le_of_ble_eq_true rfl) dL_law_340 ⟨(Nat.le_of_ble_eq_true rfl), (Nat.le_of_ble_eq_true rfl)⟩) (fun H1 locs hP1 hS hk1 => ?_)
                    have hP : va_P (zD v) vwCl (zL ab v (q48.2, q49.2)) H1 := zl_backM hc (G := (q48.2, x.2.2)) hP hP1 hk1
                    generalize H1 = H at hP hS ⊢
                    refine lv_icmp_eq (tgt := 1065) hx hb dL_law_343 (by decide) (fun c50 => ?_) (fun c50 => ?_)
                    · have hf := ite_t c50 hf
                      exact wb1065 h18 hh18 x.1 (q48.2, q49.2) hf _ _ _ hP hS (lv_sub hl [0, 1, 2, 3] rfl)
                    · have hf := ite_f c50 hf
                      exact nn_e hf
                  · have hf := ite_f c47 hf
                    by_cases c51 : ((((xs (x.1).toNatClampNeg) &&& (31 : Int32))).toInt - (0)).toNat = 6
                    · have hf := ite_t c51 hf
                      refine lv_tableIn (tgt := 348) hx hb dL_law_33 (fun h => c3 (Or.inl h)) (fun h => c3 (Or.inr h)) (by rw [c51]; rfl) (by decide) ?_
                      refine lv_aload_n hx hb dL_law_348 rfl (lv_at hl 1 rfl) ?_
                      refine lv_aload_n hx hb dL_law_349 rfl (lv_at hl 0 rfl) ?_
                      refine lv_iload_n hx hb dL_law_350 rfl (lv_at hl 3 rfl) ?_
                      refine lv_iconst (v := 1) hx hb dL_law_351 kI_1 ?_
                      refine lv_iadd hx hb dL_law_352 ?_
                      obtain ⟨c52, hf⟩ := gd_e hf
                      refine va_sld hx hb hX hbl hbA hS (inb_in c52) dL_law_353 ?_
                      obtain ⟨q53, eq53, hf⟩ := bd_e hf
                      refine zkic (w := pX) (v := v) (cl_X hc) hS (zrVc (w := pX) (v := v) (u := x.2.1) (As := [.int (xs ((x.1 + (1 : Int32))).toNatClampNeg)]) (rest := []) okX hx hb hml hown hts hc.1 (va_P_l hP) hS (fun q h1 h2 => absurd h1 (Nat.not_lt.mpr h2)) (t_X7_force l v N (xs ((x.1 + (1 : Int32))).toNatClampNeg) x.2.1 _ eq53) vk_X7_force ml_L_41 rfl rfl ⟨(Nat.le_of_ble_eq_true rfl), (Nat.le_of_ble_eq_true rfl)⟩ (zlr_X hP hc) rfl hl.1 rfl (Nat.le_of_ble_eq_true rfl) dL_law_354 ⟨(Nat.le_of_ble_eq_true rfl), (Nat.le_of_ble_eq_true rfl)⟩) (fun H1 locs hP1 hS hk1 => ?_)
                      have hP : va_P (zD v) vwCl (zL ab v (q53.2, x.2.2)) H1 := zl_backX hc (G := x.2) hP hP1 hk1
                      generalize H1 = H at hP hS ⊢
                      refine lv_aload_n hx hb dL_law_357 rfl (lv_at hl 2 rfl) ?_
                      refine lv_aload_n hx hb dL_law_358 rfl (lv_at hl 0 rfl) ?_
                      refine lv_iload_n hx hb dL_law_359 rfl (lv_at hl 3 rfl) ?_
                      refine lv_iconst (v := 1) hx hb dL_law_360 kI_1 ?_
                      refine lv_iadd hx hb dL_law_361 ?_
                      obtain ⟨c54, hf⟩ := gd_e hf
                      refine va_sld hx hb hX hbl hbA hS (inb_in c54) dL_law_362 ?_
                      obtain ⟨q55, eq55, hf⟩ := bd_e hf
                      refine zkic (w := pM) (v := (vb v ab)) (cl_M hc) hS (zrVc (w := pM) (v := (vb v ab)) (u := x.2.2) (As := [.int (xs ((x.1 + (1 : Int32))).toNatClampNeg)]) (rest := [.int q53.1]) okM hx hb hml hown hts hc.2.1 (va_P_r hP) hS (fun q h1 h2 => absurd h1 (Nat.not_lt.mpr h2)) (t_X8_force l (vb v ab) N (xs ((x.1 + (1 : Int32))).toNatClampNeg) x.2.2 _ eq55) vk_X8_force ml_L_44 rfl rfl ⟨(Nat.le_of_ble_eq_true rfl), (Nat.le_of_ble_eq_true rfl)⟩ (zlr_M hP hc) rfl hl.1 rfl (Nat.le_of_ble_eq_true rfl) dL_law_363 ⟨(Nat.le_of_ble_eq_true rfl), (Nat.le_of_ble_eq_true rfl)⟩) (fun H1 locs hP1 hS hk1 => ?_)
                      have hP : va_P (zD v) vwCl (zL ab v (q53.2, q55.2)) H1 := zl_backM hc (G := (q53.2, x.2.2)) hP hP1 hk1
                      generalize H1 = H at hP hS ⊢
                      refine lv_icmp_eq (tgt := 1065) hx hb dL_law_366 (by decide) (fun c56 => ?_) (fun c56 => ?_)
                      · have hf := ite_t c56 hf
                        exact wb1065 h18 hh18 x.1 (q53.2, q55.2) hf _ _ _ hP hS (lv_sub hl [0, 1, 2, 3] rfl)
                      · have hf := ite_f c56 hf
                        exact nn_e hf
                    · have hf := ite_f c51 hf
                      by_cases c57 : ((((xs (x.1).toNatClampNeg) &&& (31 : Int32))).toInt - (0)).toNat = 7
                      · have hf := ite_t c57 hf
                        refine lv_tableIn (tgt := 371) hx hb dL_law_33 (fun h => c3 (Or.inl h)) (fun h => c3 (Or.inr h)) (by rw [c57]; rfl) (by decide) ?_
                        refine lv_aload_n hx hb dL_law_371 rfl (lv_at hl 1 rfl) ?_
                        refine lv_aload_n hx hb dL_law_372 rfl (lv_at hl 0 rfl) ?_
                        refine lv_iload_n hx hb dL_law_373 rfl (lv_at hl 3 rfl) ?_
                        refine lv_iconst (v := 1) hx hb dL_law_374 kI_1 ?_
                        refine lv_iadd hx hb dL_law_375 ?_
                        obtain ⟨c58, hf⟩ := gd_e hf
                        refine va_sld hx hb hX hbl hbA hS (inb_in c58) dL_law_376 ?_
                        refine lv_aload_n hx hb dL_law_377 rfl (lv_at hl 0 rfl) ?_
                        refine lv_iload_n hx hb dL_law_378 rfl (lv_at hl 3 rfl) ?_
                        refine lv_iconst (v := 2) hx hb dL_law_379 kI_2 ?_
                        refine lv_iadd hx hb dL_law_380 ?_
                        obtain ⟨c59, hf⟩ := gd_e hf
                        refine va_sld hx hb hX hbl hbA hS (inb_in c59) dL_law_381 ?_
                        obtain ⟨q60, eq60, hf⟩ := bd_e hf
                        refine zkic (w := pX) (v := v) (cl_X hc) hS (zrVc (w := pX) (v := v) (u := x.2.1) (As := [.int (xs ((x.1 + (1 : Int32))).toNatClampNeg), .int (xs ((x.1 + (2 : Int32))).toNatClampNeg)]) (rest := []) okX hx hb hml hown hts hc.1 (va_P_l hP) hS (fun q h1 h2 => absurd h1 (Nat.not_lt.mpr h2)) (t_X7_canBe l v N (xs ((x.1 + (1 : Int32))).toNatClampNeg) (xs ((x.1 + (2 : Int32))).toNatClampNeg) x.2.1 _ eq60) vk_X7_canBe ml_L_45 rfl rfl ⟨(Nat.le_of_ble_eq_true rfl), (Nat.le_of_ble_eq_true rfl)⟩ (zlr_X hP hc) rfl hl.1 rfl (Nat.le_of_ble_eq_true rfl) dL_law_382 ⟨(Nat.le_of_ble_eq_true rfl), (Nat.le_of_ble_eq_true rfl)⟩) (fun H1 locs hP1 hS hk1 => ?_)
                        have hP : va_P (zD v) vwCl (zL ab v (q60.2, x.2.2)) H1 := zl_backX hc (G := x.2) hP hP1 hk1
                        generalize H1 = H at hP hS ⊢
                        refine lv_aload_n hx hb dL_law_385 rfl (lv_at hl 2 rfl) ?_
                        refine lv_aload_n hx hb dL_law_386 rfl (lv_at hl 0 rfl) ?_
                        refine lv_iload_n hx hb dL_law_387 rfl (lv_at hl 3 rfl) ?_
                        refine lv_iconst (v := 1) hx hb dL_law_388 kI_1 ?_
                        refine lv_iadd hx hb dL_law_389 ?_
                        obtain ⟨c61, hf⟩ := gd_e hf
                        refine va_sld hx hb hX hbl hbA hS (inb_in c61) dL_law_390 ?_
                        refine lv_aload_n hx hb dL_law_391 rfl (lv_at hl 0 rfl) ?_
                        refine lv_iload_n hx hb dL_law_392 rfl (lv_at hl 3 rfl) ?_
                        refine lv_iconst (v := 2) hx hb dL_law_393 kI_2 ?_
                        refine lv_iadd hx hb dL_law_394 ?_
                        obtain ⟨c62, hf⟩ := gd_e hf
                        refine va_sld hx hb hX hbl hbA hS (inb_in c62) dL_law_395 ?_
                        obtain ⟨q63, eq63, hf⟩ := bd_e hf
                        refine zkic (w := pM) (v := (vb v ab)) (cl_M hc) hS (zrVc (w := pM) (v := (vb v ab)) (u := x.2.2) (As := [.int (xs ((x.1 + (1 : Int32))).toNatClampNeg), .int (xs ((x.1 + (2 : Int32))).toNatClampNeg)]) (rest := [.int q60.1]) okM hx hb hml hown hts hc.2.1 (va_P_r hP) hS (fun q h1 h2 => absurd h1 (Nat.not_lt.mpr h2)) (t_X8_canBe l (vb v ab) N (xs ((x.1 + (1 : Int32))).toNatClampNeg) (xs ((x.1 + (2 : Int32))).toNatClampNeg) x.2.2 _ eq63) vk_X8_canBe ml_L_48 rfl rfl ⟨(Nat.le_of_ble_eq_true rfl), (Nat.le_of_ble_eq_true rfl)⟩ (zlr_M hP hc) rfl hl.1 rfl (Nat.le_of_ble_eq_true rfl) dL_law_396 ⟨(Nat.le_of_ble_eq_true rfl), (Nat.le_of_ble_eq_true rfl)⟩) (fun H1 locs hP1 hS hk1 => ?_)
                        have hP : va_P (zD v) vwCl (zL ab v (q60.2, q63.2)) H1 := zl_backM hc (G := (q60.2, x.2.2)) hP hP1 hk1
                        generalize H1 = H at hP hS ⊢
                        refine lv_icmp_eq (tgt := 1065) hx hb dL_law_399 (by decide) (fun c64 => ?_) (fun c64 => ?_)
                        · have hf := ite_t c64 hf
                          exact wb1065 h18 hh18 x.1 (q60.2, q63.2) hf _ _ _ hP hS (lv_sub hl [0, 1, 2, 3] rfl)
                        · have hf := ite_f c64 hf
                          exact nn_e hf
                      · have hf := ite_f c57 hf
                        by_cases c65 : ((((xs (x.1).toNatClampNeg) &&& (31 : Int32))).toInt - (0)).toNat = 8
                        · have hf := ite_t c65 hf
                          refine lv_tableIn (tgt := 404) hx hb dL_law_33 (fun h => c3 (Or.inl h)) (fun h => c3 (Or.inr h)) (by rw [c65]; rfl) (by decide) ?_
                          refine lv_aload_n hx hb dL_law_404 rfl (lv_at hl 1 rfl) ?_
                          refine lv_aload_n hx hb dL_law_405 rfl (lv_at hl 0 rfl) ?_
                          refine lv_iload_n hx hb dL_law_406 rfl (lv_at hl 3 rfl) ?_
                          refine lv_iconst (v := 1) hx hb dL_law_407 kI_1 ?_
                          refine lv_iadd hx hb dL_law_408 ?_
                          obtain ⟨c66, hf⟩ := gd_e hf
                          refine va_sld hx hb hX hbl hbA hS (inb_in c66) dL_law_409 ?_
                          refine lv_aload_n hx hb dL_law_410 rfl (lv_at hl 0 rfl) ?_
                          refine lv_iload_n hx hb dL_law_411 rfl (lv_at hl 3 rfl) ?_
                          refine lv_iconst (v := 2) hx hb dL_law_412 kI_2 ?_
                          refine lv_iadd hx hb dL_law_413 ?_
                          obtain ⟨c67, hf⟩ := gd_e hf
                          refine va_sld hx hb hX hbl hbA hS (inb_in c67) dL_law_414 ?_
                          obtain ⟨q68, eq68, hf⟩ := bd_e hf
                          refine zkic (w := pX) (v := v) (cl_X hc) hS (zrVc (w := pX) (v := v) (u := x.2.1) (As := [.int (xs ((x.1 + (1 : Int32))).toNatClampNeg), .int (xs ((x.1 + (2 : Int32))).toNatClampNeg)]) (rest := []) okX hx hb hml hown hts hc.1 (va_P_l hP) hS (fun q h1 h2 => absurd h1 (Nat.not_lt.mpr h2)) (t_X7_fetch l v N (xs ((x.1 + (1 : Int32))).toNatClampNeg) (xs ((x.1 + (2 : Int32))).toNatClampNeg) x.2.1 _ eq68) vk_X7_fetch ml_L_49 rfl rfl ⟨(Nat.le_of_ble_eq_true rfl), (Nat.le_of_ble_eq_true rfl)⟩ (zlr_X hP hc) rfl hl.1 rfl (Nat.le_of_ble_eq_true rfl) dL_law_415 ⟨(Nat.le_of_ble_eq_true rfl), (Nat.le_of_ble_eq_true rfl)⟩) (fun H1 locs hP1 hS hk1 => ?_)
                          have hP : va_P (zD v) vwCl (zL ab v (q68.2, x.2.2)) H1 := zl_backX hc (G := x.2) hP hP1 hk1
                          generalize H1 = H at hP hS ⊢
                          refine lv_aload_n hx hb dL_law_418 rfl (lv_at hl 2 rfl) ?_
                          refine lv_aload_n hx hb dL_law_419 rfl (lv_at hl 0 rfl) ?_
                          refine lv_iload_n hx hb dL_law_420 rfl (lv_at hl 3 rfl) ?_
                          refine lv_iconst (v := 1) hx hb dL_law_421 kI_1 ?_
                          refine lv_iadd hx hb dL_law_422 ?_
                          obtain ⟨c69, hf⟩ := gd_e hf
                          refine va_sld hx hb hX hbl hbA hS (inb_in c69) dL_law_423 ?_
                          refine lv_aload_n hx hb dL_law_424 rfl (lv_at hl 0 rfl) ?_
                          refine lv_iload_n hx hb dL_law_425 rfl (lv_at hl 3 rfl) ?_
                          refine lv_iconst (v := 2) hx hb dL_law_426 kI_2 ?_
                          refine lv_iadd hx hb dL_law_427 ?_
                          obtain ⟨c70, hf⟩ := gd_e hf
                          refine va_sld hx hb hX hbl hbA hS (inb_in c70) dL_law_428 ?_
                          obtain ⟨q71, eq71, hf⟩ := bd_e hf
                          refine zkic (w := pM) (v := (vb v ab)) (cl_M hc) hS (zrVc (w := pM) (v := (vb v ab)) (u := x.2.2) (As := [.int (xs ((x.1 + (1 : Int32))).toNatClampNeg), .int (xs ((x.1 + (2 : Int32))).toNatClampNeg)]) (rest := [.int q68.1]) okM hx hb hml hown hts hc.2.1 (va_P_r hP) hS (fun q h1 h2 => absurd h1 (Nat.not_lt.mpr h2)) (t_X8_fetch l (vb v ab) N (xs ((x.1 + (1 : Int32))).toNatClampNeg) (xs ((x.1 + (2 : Int32))).toNatClampNeg) x.2.2 _ eq71) vk_X8_fetch ml_L_52 rfl rfl ⟨(Nat.le_of_ble_eq_true rfl), (Nat.le_of_ble_eq_true rfl)⟩ (zlr_M hP hc) rfl hl.1 rfl (Nat.le_of_ble_eq_true rfl) dL_law_429 ⟨(Nat.le_of_ble_eq_true rfl), (Nat.le_of_ble_eq_true rfl)⟩) (fun H1 locs hP1 hS hk1 => ?_)
                          have hP : va_P (zD v) vwCl (zL ab v (q68.2, q71.2)) H1 := zl_backM hc (G := (q68.2, x.2.2)) hP hP1 hk1
                          generalize H1 = H at hP hS ⊢
                          refine lv_icmp_eq (tgt := 1065) hx hb dL_law_432 (by decide) (fun c72 => ?_) (fun c72 => ?_)
                          · have hf := ite_t c72 hf
                            exact wb1065 h18 hh18 x.1 (q68.2, q71.2) hf _ _ _ hP hS (lv_sub hl [0, 1, 2, 3] rfl)
                          · have hf := ite_f c72 hf
                            exact nn_e hf
                        · have hf := ite_f c65 hf
                          by_cases c73 : ((((xs (x.1).toNatClampNeg) &&& (31 : Int32))).toInt - (0)).toNat = 9
                          · have hf := ite_t c73 hf
                            refine lv_tableIn (tgt := 437) hx hb dL_law_33 (fun h => c3 (Or.inl h)) (fun h => c3 (Or.inr h)) (by rw [c73]; rfl) (by decide) ?_
                            refine lv_aload_n hx hb dL_law_437 rfl (lv_at hl 1 rfl) ?_
                            refine lv_aload_n hx hb dL_law_438 rfl (lv_at hl 0 rfl) ?_
                            refine lv_iload_n hx hb dL_law_439 rfl (lv_at hl 3 rfl) ?_
                            refine lv_iconst (v := 1) hx hb dL_law_440 kI_1 ?_
                            refine lv_iadd hx hb dL_law_441 ?_
                            obtain ⟨c74, hf⟩ := gd_e hf
                            refine va_sld hx hb hX hbl hbA hS (inb_in c74) dL_law_442 ?_
                            obtain ⟨q75, eq75, hf⟩ := bd_e hf
                            refine zkic (w := pX) (v := v) (cl_X hc) hS (zrVc (w := pX) (v := v) (u := x.2.1) (As := [.int (xs ((x.1 + (1 : Int32))).toNatClampNeg)]) (rest := []) okX hx hb hml hown hts hc.1 (va_P_l hP) hS (fun q h1 h2 => absurd h1 (Nat.not_lt.mpr h2)) (t_X7_goes l v N (xs ((x.1 + (1 : Int32))).toNatClampNeg) x.2.1 _ eq75) vk_X7_goes ml_L_53 rfl rfl ⟨(Nat.le_of_ble_eq_true rfl), (Nat.le_of_ble_eq_true rfl)⟩ (zlr_X hP hc) rfl hl.1 rfl (Nat.le_of_ble_eq_true rfl) dL_law_443 ⟨(Nat.le_of_ble_eq_true rfl), (Nat.le_of_ble_eq_true rfl)⟩) (fun H1 locs hP1 hS hk1 => ?_)
                            have hP : va_P (zD v) vwCl (zL ab v (q75.2, x.2.2)) H1 := zl_backX hc (G := x.2) hP hP1 hk1
                            generalize H1 = H at hP hS ⊢
                            refine lv_aload_n hx hb dL_law_446 rfl (lv_at hl 2 rfl) ?_
                            refine lv_aload_n hx hb dL_law_447 rfl (lv_at hl 0 rfl) ?_
                            refine lv_iload_n hx hb dL_law_448 rfl (lv_at hl 3 rfl) ?_
                            refine lv_iconst (v := 1) hx hb dL_law_449 kI_1 ?_
                            refine lv_iadd hx hb dL_law_450 ?_
                            obtain ⟨c76, hf⟩ := gd_e hf
                            refine va_sld hx hb hX hbl hbA hS (inb_in c76) dL_law_451 ?_
                            obtain ⟨q77, eq77, hf⟩ := bd_e hf
                            refine zkic (w := pM) (v := (vb v ab)) (cl_M hc) hS (zrVc (w := pM) (v := (vb v ab)) (u := x.2.2) (As := [.int (xs ((x.1 + (1 : Int32))).toNatClampNeg)]) (rest := [.int q75.1]) okM hx hb hml hown hts hc.2.1 (va_P_r hP) hS (fun q h1 h2 => absurd h1 (Nat.not_lt.mpr h2)) (t_X8_goes l (vb v ab) N (xs ((x.1 + (1 : Int32))).toNatClampNeg) x.2.2 _ eq77) vk_X8_goes ml_L_56 rfl rfl ⟨(Nat.le_of_ble_eq_true rfl), (Nat.le_of_ble_eq_true rfl)⟩ (zlr_M hP hc) rfl hl.1 rfl (Nat.le_of_ble_eq_true rfl) dL_law_452 ⟨(Nat.le_of_ble_eq_true rfl), (Nat.le_of_ble_eq_true rfl)⟩) (fun H1 locs hP1 hS hk1 => ?_)
                            have hP : va_P (zD v) vwCl (zL ab v (q75.2, q77.2)) H1 := zl_backM hc (G := (q75.2, x.2.2)) hP hP1 hk1
                            generalize H1 = H at hP hS ⊢
                            refine lv_icmp_eq (tgt := 1065) hx hb dL_law_455 (by decide) (fun c78 => ?_) (fun c78 => ?_)
                            · have hf := ite_t c78 hf
                              exact wb1065 h18 hh18 x.1 (q75.2, q77.2) hf _ _ _ hP hS (lv_sub hl [0, 1, 2, 3] rfl)
                            · have hf := ite_f c78 hf
                              exact nn_e hf
                          · have hf := ite_f c73 hf
                            by_cases c79 : ((((xs (x.1).toNatClampNeg) &&& (31 : Int32))).toInt - (0)).toNat = 10
                            · have hf := ite_t c79 hf
                              refine lv_tableIn (tgt := 460) hx hb dL_law_33 (fun h => c3 (Or.inl h)) (fun h => c3 (Or.inr h)) (by rw [c79]; rfl) (by decide) ?_
                              refine lv_aload_n hx hb dL_law_460 rfl (lv_at hl 1 rfl) ?_
                              refine lv_aload_n hx hb dL_law_461 rfl (lv_at hl 0 rfl) ?_
                              refine lv_iload_n hx hb dL_law_462 rfl (lv_at hl 3 rfl) ?_
                              refine lv_iconst (v := 1) hx hb dL_law_463 kI_1 ?_
                              refine lv_iadd hx hb dL_law_464 ?_
                              obtain ⟨c80, hf⟩ := gd_e hf
                              refine va_sld hx hb hX hbl hbA hS (inb_in c80) dL_law_465 ?_
                              obtain ⟨q81, eq81, hf⟩ := bd_e hf
                              refine zkic (w := pX) (v := v) (cl_X hc) hS (zrVc (w := pX) (v := v) (u := x.2.1) (As := [.int (xs ((x.1 + (1 : Int32))).toNatClampNeg)]) (rest := []) okX hx hb hml hown hts hc.1 (va_P_l hP) hS (fun q h1 h2 => absurd h1 (Nat.not_lt.mpr h2)) (t_X7_worst l v N (xs ((x.1 + (1 : Int32))).toNatClampNeg) x.2.1 _ eq81) vk_X7_worst ml_L_57 rfl rfl ⟨(Nat.le_of_ble_eq_true rfl), (Nat.le_of_ble_eq_true rfl)⟩ (zlr_X hP hc) rfl hl.1 rfl (Nat.le_of_ble_eq_true rfl) dL_law_466 ⟨(Nat.le_of_ble_eq_true rfl), (Nat.le_of_ble_eq_true rfl)⟩) (fun H1 locs hP1 hS hk1 => ?_)
                              have hP : va_P (zD v) vwCl (zL ab v (q81.2, x.2.2)) H1 := zl_backX hc (G := x.2) hP hP1 hk1
                              generalize H1 = H at hP hS ⊢
                              refine lv_aload_n hx hb dL_law_469 rfl (lv_at hl 2 rfl) ?_
                              refine lv_aload_n hx hb dL_law_470 rfl (lv_at hl 0 rfl) ?_
                              refine lv_iload_n hx hb dL_law_471 rfl (lv_at hl 3 rfl) ?_
                              refine lv_iconst (v := 1) hx hb dL_law_472 kI_1 ?_
                              refine lv_iadd hx hb dL_law_473 ?_
                              obtain ⟨c82, hf⟩ := gd_e hf
                              refine va_sld hx hb hX hbl hbA hS (inb_in c82) dL_law_474 ?_
                              obtain ⟨q83, eq83, hf⟩ := bd_e hf
                              refine zkic (w := pM) (v := (vb v ab)) (cl_M hc) hS (zrVc (w := pM) (v := (vb v ab)) (u := x.2.2) (As := [.int (xs ((x.1 + (1 : Int32))).toNatClampNeg)]) (rest := [.int q81.1]) okM hx hb hml hown hts hc.2.1 (va_P_r hP) hS (fun q h1 h2 => absurd h1 (Nat.not_lt.mpr h2)) (t_X8_worst l (vb v ab) N (xs ((x.1 + (1 : Int32))).toNatClampNeg) x.2.2 _ eq83) vk_X8_worst ml_L_60 rfl rfl ⟨(Nat.le_of_ble_eq_true rfl), (Nat.le_of_ble_eq_true rfl)⟩ (zlr_M hP hc) rfl hl.1 rfl (Nat.le_of_ble_eq_true rfl) dL_law_475 ⟨(Nat.le_of_ble_eq_true rfl), (Nat.le_of_ble_eq_true rfl)⟩) (fun H1 locs hP1 hS hk1 => ?_)
                              have hP : va_P (zD v) vwCl (zL ab v (q81.2, q83.2)) H1 := zl_backM hc (G := (q81.2, x.2.2)) hP hP1 hk1
                              generalize H1 = H at hP hS ⊢
                              refine lv_icmp_eq (tgt := 1065) hx hb dL_law_478 (by decide) (fun c84 => ?_) (fun c84 => ?_)
                              · have hf := ite_t c84 hf
                                exact wb1065 h18 hh18 x.1 (q81.2, q83.2) hf _ _ _ hP hS (lv_sub hl [0, 1, 2, 3] rfl)
                              · have hf := ite_f c84 hf
                                exact nn_e hf
                            · have hf := ite_f c79 hf
                              by_cases c85 : ((((xs (x.1).toNatClampNeg) &&& (31 : Int32))).toInt - (0)).toNat = 11
                              · have hf := ite_t c85 hf
                                refine lv_tableIn (tgt := 483) hx hb dL_law_33 (fun h => c3 (Or.inl h)) (fun h => c3 (Or.inr h)) (by rw [c85]; rfl) (by decide) ?_
                                refine lv_aload_n hx hb dL_law_483 rfl (lv_at hl 1 rfl) ?_
                                refine lv_aload_n hx hb dL_law_484 rfl (lv_at hl 0 rfl) ?_
                                refine lv_iload_n hx hb dL_law_485 rfl (lv_at hl 3 rfl) ?_
                                refine lv_iconst (v := 1) hx hb dL_law_486 kI_1 ?_
                                refine lv_iadd hx hb dL_law_487 ?_
                                obtain ⟨c86, hf⟩ := gd_e hf
                                refine va_sld hx hb hX hbl hbA hS (inb_in c86) dL_law_488 ?_
                                obtain ⟨q87, eq87, hf⟩ := bd_e hf
                                refine zkic (w := pX) (v := v) (cl_X hc) hS (zrVc (w := pX) (v := v) (u := x.2.1) (As := [.int (xs ((x.1 + (1 : Int32))).toNatClampNeg)]) (rest := []) okX hx hb hml hown hts hc.1 (va_P_l hP) hS (fun q h1 h2 => absurd h1 (Nat.not_lt.mpr h2)) (t_X7_pair l v N (xs ((x.1 + (1 : Int32))).toNatClampNeg) x.2.1 _ eq87) vk_X7_pair ml_L_61 rfl rfl ⟨(Nat.le_of_ble_eq_true rfl), (Nat.le_of_ble_eq_true rfl)⟩ (zlr_X hP hc) rfl hl.1 rfl (Nat.le_of_ble_eq_true rfl) dL_law_489 ⟨(Nat.le_of_ble_eq_true rfl), (Nat.le_of_ble_eq_true rfl)⟩) (fun H1 locs hP1 hS hk1 => ?_)
                                have hP : va_P (zD v) vwCl (zL ab v (q87.2, x.2.2)) H1 := zl_backX hc (G := x.2) hP hP1 hk1
                                generalize H1 = H at hP hS ⊢
                                refine lv_aload_n hx hb dL_law_492 rfl (lv_at hl 2 rfl) ?_
                                refine lv_aload_n hx hb dL_law_493 rfl (lv_at hl 0 rfl) ?_
                                refine lv_iload_n hx hb dL_law_494 rfl (lv_at hl 3 rfl) ?_
                                refine lv_iconst (v := 1) hx hb dL_law_495 kI_1 ?_
                                refine lv_iadd hx hb dL_law_496 ?_
                                obtain ⟨c88, hf⟩ := gd_e hf
                                refine va_sld hx hb hX hbl hbA hS (inb_in c88) dL_law_497 ?_
                                obtain ⟨q89, eq89, hf⟩ := bd_e hf
                                refine zkic (w := pM) (v := (vb v ab)) (cl_M hc) hS (zrVc (w := pM) (v := (vb v ab)) (u := x.2.2) (As := [.int (xs ((x.1 + (1 : Int32))).toNatClampNeg)]) (rest := [.int q87.1]) okM hx hb hml hown hts hc.2.1 (va_P_r hP) hS (fun q h1 h2 => absurd h1 (Nat.not_lt.mpr h2)) (t_X8_pair l (vb v ab) N (xs ((x.1 + (1 : Int32))).toNatClampNeg) x.2.2 _ eq89) vk_X8_pair ml_L_64 rfl rfl ⟨(Nat.le_of_ble_eq_true rfl), (Nat.le_of_ble_eq_true rfl)⟩ (zlr_M hP hc) rfl hl.1 rfl (Nat.le_of_ble_eq_true rfl) dL_law_498 ⟨(Nat.le_of_ble_eq_true rfl), (Nat.le_of_ble_eq_true rfl)⟩) (fun H1 locs hP1 hS hk1 => ?_)
                                have hP : va_P (zD v) vwCl (zL ab v (q87.2, q89.2)) H1 := zl_backM hc (G := (q87.2, x.2.2)) hP hP1 hk1
                                generalize H1 = H at hP hS ⊢
                                refine lv_icmp_eq (tgt := 1065) hx hb dL_law_501 (by decide) (fun c90 => ?_) (fun c90 => ?_)
                                · have hf := ite_t c90 hf
                                  exact wb1065 h18 hh18 x.1 (q87.2, q89.2) hf _ _ _ hP hS (lv_sub hl [0, 1, 2, 3] rfl)
                                · have hf := ite_f c90 hf
                                  exact nn_e hf
                              · have hf := ite_f c85 hf
                                by_cases c91 : ((((xs (x.1).toNatClampNeg) &&& (31 : Int32))).toInt - (0)).toNat = 12
                                · have hf := ite_t c91 hf
                                  refine lv_tableIn (tgt := 506) hx hb dL_law_33 (fun h => c3 (Or.inl h)) (fun h => c3 (Or.inr h)) (by rw [c91]; rfl) (by decide) ?_
                                  refine lv_aload_n hx hb dL_law_506 rfl (lv_at hl 1 rfl) ?_
                                  refine lv_aload_n hx hb dL_law_507 rfl (lv_at hl 0 rfl) ?_
                                  refine lv_iload_n hx hb dL_law_508 rfl (lv_at hl 3 rfl) ?_
                                  refine lv_iconst (v := 1) hx hb dL_law_509 kI_1 ?_
                                  refine lv_iadd hx hb dL_law_510 ?_
                                  obtain ⟨c92, hf⟩ := gd_e hf
                                  refine va_sld hx hb hX hbl hbA hS (inb_in c92) dL_law_511 ?_
                                  obtain ⟨q93, eq93, hf⟩ := bd_e hf
                                  refine zkic (w := pX) (v := v) (cl_X hc) hS (zrVc (w := pX) (v := v) (u := x.2.1) (As := [.int (xs ((x.1 + (1 : Int32))).toNatClampNeg)]) (rest := []) okX hx hb hml hown hts hc.1 (va_P_l hP) hS (fun q h1 h2 => absurd h1 (Nat.not_lt.mpr h2)) (t_X7_served l v N (xs ((x.1 + (1 : Int32))).toNatClampNeg) x.2.1 _ eq93) vk_X7_served ml_L_65 rfl rfl ⟨(Nat.le_of_ble_eq_true rfl), (Nat.le_of_ble_eq_true rfl)⟩ (zlr_X hP hc) rfl hl.1 rfl (Nat.le_of_ble_eq_true rfl) dL_law_512 ⟨(Nat.le_of_ble_eq_true rfl), (Nat.le_of_ble_eq_true rfl)⟩) (fun H1 locs hP1 hS hk1 => ?_)
                                  have hP : va_P (zD v) vwCl (zL ab v (q93.2, x.2.2)) H1 := zl_backX hc (G := x.2) hP hP1 hk1
                                  generalize H1 = H at hP hS ⊢
                                  refine lv_aload_n hx hb dL_law_515 rfl (lv_at hl 2 rfl) ?_
                                  refine lv_aload_n hx hb dL_law_516 rfl (lv_at hl 0 rfl) ?_
                                  refine lv_iload_n hx hb dL_law_517 rfl (lv_at hl 3 rfl) ?_
                                  refine lv_iconst (v := 1) hx hb dL_law_518 kI_1 ?_
                                  refine lv_iadd hx hb dL_law_519 ?_
                                  obtain ⟨c94, hf⟩ := gd_e hf
                                  refine va_sld hx hb hX hbl hbA hS (inb_in c94) dL_law_520 ?_
                                  obtain ⟨q95, eq95, hf⟩ := bd_e hf
                                  refine zkic (w := pM) (v := (vb v ab)) (cl_M hc) hS (zrVc (w := pM) (v := (vb v ab)) (u := x.2.2) (As := [.int (xs ((x.1 + (1 : Int32))).toNatClampNeg)]) (rest := [.int q93.1]) okM hx hb hml hown hts hc.2.1 (va_P_r hP) hS (fun q h1 h2 => absurd h1 (Nat.not_lt.mpr h2)) (t_X8_served l (vb v ab) N (xs ((x.1 + (1 : Int32))).toNatClampNeg) x.2.2 _ eq95) vk_X8_served ml_L_68 rfl rfl ⟨(Nat.le_of_ble_eq_true rfl), (Nat.le_of_ble_eq_true rfl)⟩ (zlr_M hP hc) rfl hl.1 rfl (Nat.le_of_ble_eq_true rfl) dL_law_521 ⟨(Nat.le_of_ble_eq_true rfl), (Nat.le_of_ble_eq_true rfl)⟩) (fun H1 locs hP1 hS hk1 => ?_)
                                  have hP : va_P (zD v) vwCl (zL ab v (q93.2, q95.2)) H1 := zl_backM hc (G := (q93.2, x.2.2)) hP hP1 hk1
                                  generalize H1 = H at hP hS ⊢
                                  refine lv_icmp_eq (tgt := 1065) hx hb dL_law_524 (by decide) (fun c96 => ?_) (fun c96 => ?_)
                                  · have hf := ite_t c96 hf
                                    exact wb1065 h18 hh18 x.1 (q93.2, q95.2) hf _ _ _ hP hS (lv_sub hl [0, 1, 2, 3] rfl)
                                  · have hf := ite_f c96 hf
                                    exact nn_e hf
                                · have hf := ite_f c91 hf
                                  by_cases c97 : ((((xs (x.1).toNatClampNeg) &&& (31 : Int32))).toInt - (0)).toNat = 13
                                  · have hf := ite_t c97 hf
                                    refine lv_tableIn (tgt := 529) hx hb dL_law_33 (fun h => c3 (Or.inl h)) (fun h => c3 (Or.inr h)) (by rw [c97]; rfl) (by decide) ?_
                                    refine lv_aload_n hx hb dL_law_529 rfl (lv_at hl 1 rfl) ?_
                                    refine lv_aload_n hx hb dL_law_530 rfl (lv_at hl 0 rfl) ?_
                                    refine lv_iload_n hx hb dL_law_531 rfl (lv_at hl 3 rfl) ?_
                                    refine lv_iconst (v := 1) hx hb dL_law_532 kI_1 ?_
                                    refine lv_iadd hx hb dL_law_533 ?_
                                    obtain ⟨c98, hf⟩ := gd_e hf
                                    refine va_sld hx hb hX hbl hbA hS (inb_in c98) dL_law_534 ?_
                                    refine lv_aload_n hx hb dL_law_535 rfl (lv_at hl 0 rfl) ?_
                                    refine lv_iload_n hx hb dL_law_536 rfl (lv_at hl 3 rfl) ?_
                                    refine lv_iconst (v := 2) hx hb dL_law_537 kI_2 ?_
                                    refine lv_iadd hx hb dL_law_538 ?_
                                    obtain ⟨c99, hf⟩ := gd_e hf
                                    refine va_sld hx hb hX hbl hbA hS (inb_in c99) dL_law_539 ?_
                                    refine lv_aload_n hx hb dL_law_540 rfl (lv_at hl 0 rfl) ?_
                                    refine lv_iload_n hx hb dL_law_541 rfl (lv_at hl 3 rfl) ?_
                                    refine lv_iconst (v := 3) hx hb dL_law_542 kI_3 ?_
                                    refine lv_iadd hx hb dL_law_543 ?_
                                    obtain ⟨c100, hf⟩ := gd_e hf
                                    refine va_sld hx hb hX hbl hbA hS (inb_in c100) dL_law_544 ?_
                                    obtain ⟨q101, eq101, hf⟩ := bd_e hf
                                    refine zkic (w := pX) (v := v) (cl_X hc) hS (zrVc (w := pX) (v := v) (u := x.2.1) (As := [.int (xs ((x.1 + (1 : Int32))).toNatClampNeg), .int (xs ((x.1 + (2 : Int32))).toNatClampNeg), .int (xs ((x.1 + (3 : Int32))).toNatClampNeg)]) (rest := []) okX hx hb hml hown hts hc.1 (va_P_l hP) hS (fun q h1 h2 => absurd h1 (Nat.not_lt.mpr h2)) (t_X7_order l v N (xs ((x.1 + (1 : Int32))).toNatClampNeg) (xs ((x.1 + (2 : Int32))).toNatClampNeg) (xs ((x.1 + (3 : Int32))).toNatClampNeg) x.2.1 _ eq101) vk_X7_order ml_L_69 rfl rfl ⟨(Nat.le_of_ble_eq_true rfl), (Nat.le_of_ble_eq_true rfl)⟩ (zlr_X hP hc) rfl hl.1 rfl (Nat.le_of_ble_eq_true rfl) dL_law_545 ⟨(Nat.le_of_ble_eq_true rfl), (Nat.le_of_ble_eq_true rfl)⟩) (fun H1 locs hP1 hS hk1 => ?_)
                                    have hP : va_P (zD v) vwCl (zL ab v (q101.2, x.2.2)) H1 := zl_backX hc (G := x.2) hP hP1 hk1
                                    generalize H1 = H at hP hS ⊢
                                    refine lv_aload_n hx hb dL_law_548 rfl (lv_at hl 2 rfl) ?_
                                    refine lv_aload_n hx hb dL_law_549 rfl (lv_at hl 0 rfl) ?_
                                    refine lv_iload_n hx hb dL_law_550 rfl (lv_at hl 3 rfl) ?_
                                    refine lv_iconst (v := 1) hx hb dL_law_551 kI_1 ?_
                                    refine lv_iadd hx hb dL_law_552 ?_
                                    obtain ⟨c102, hf⟩ := gd_e hf
                                    refine va_sld hx hb hX hbl hbA hS (inb_in c102) dL_law_553 ?_
                                    refine lv_aload_n hx hb dL_law_554 rfl (lv_at hl 0 rfl) ?_
                                    refine lv_iload_n hx hb dL_law_555 rfl (lv_at hl 3 rfl) ?_
                                    refine lv_iconst (v := 2) hx hb dL_law_556 kI_2 ?_
                                    refine lv_iadd hx hb dL_law_557 ?_
                                    obtain ⟨c103, hf⟩ := gd_e hf
                                    refine va_sld hx hb hX hbl hbA hS (inb_in c103) dL_law_558 ?_
                                    refine lv_aload_n hx hb dL_law_559 rfl (lv_at hl 0 rfl) ?_
                                    refine lv_iload_n hx hb dL_law_560 rfl (lv_at hl 3 rfl) ?_
                                    refine lv_iconst (v := 3) hx hb dL_law_561 kI_3 ?_
                                    refine lv_iadd hx hb dL_law_562 ?_
                                    obtain ⟨c104, hf⟩ := gd_e hf
                                    refine va_sld hx hb hX hbl hbA hS (inb_in c104) dL_law_563 ?_
                                    obtain ⟨q105, eq105, hf⟩ := bd_e hf
                                    refine zkic (w := pM) (v := (vb v ab)) (cl_M hc) hS (zrVc (w := pM) (v := (vb v ab)) (u := x.2.2) (As := [.int (xs ((x.1 + (1 : Int32))).toNatClampNeg), .int (xs ((x.1 + (2 : Int32))).toNatClampNeg), .int (xs ((x.1 + (3 : Int32))).toNatClampNeg)]) (rest := [.int q101.1]) okM hx hb hml hown hts hc.2.1 (va_P_r hP) hS (fun q h1 h2 => absurd h1 (Nat.not_lt.mpr h2)) (t_X8_order l (vb v ab) N (xs ((x.1 + (1 : Int32))).toNatClampNeg) (xs ((x.1 + (2 : Int32))).toNatClampNeg) (xs ((x.1 + (3 : Int32))).toNatClampNeg) x.2.2 _ eq105) vk_X8_order ml_L_72 rfl rfl ⟨(Nat.le_of_ble_eq_true rfl), (Nat.le_of_ble_eq_true rfl)⟩ (zlr_M hP hc) rfl hl.1 rfl (Nat.le_of_ble_eq_true rfl) dL_law_564 ⟨(Nat.le_of_ble_eq_true rfl), (Nat.le_of_ble_eq_true rfl)⟩) (fun H1 locs hP1 hS hk1 => ?_)
                                    have hP : va_P (zD v) vwCl (zL ab v (q101.2, q105.2)) H1 := zl_backM hc (G := (q101.2, x.2.2)) hP hP1 hk1
                                    generalize H1 = H at hP hS ⊢
                                    refine lv_icmp_eq (tgt := 1065) hx hb dL_law_567 (by decide) (fun c106 => ?_) (fun c106 => ?_)
                                    · have hf := ite_t c106 hf
                                      exact wb1065 h18 hh18 x.1 (q101.2, q105.2) hf _ _ _ hP hS (lv_sub hl [0, 1, 2, 3] rfl)
                                    · have hf := ite_f c106 hf
                                      exact nn_e hf
                                  · have hf := ite_f c97 hf
                                    by_cases c107 : ((((xs (x.1).toNatClampNeg) &&& (31 : Int32))).toInt - (0)).toNat = 14
                                    · have hf := ite_t c107 hf
                                      refine lv_tableIn (tgt := 572) hx hb dL_law_33 (fun h => c3 (Or.inl h)) (fun h => c3 (Or.inr h)) (by rw [c107]; rfl) (by decide) ?_
                                      refine lv_aload_n hx hb dL_law_572 rfl (lv_at hl 1 rfl) ?_
                                      refine lv_aload_n hx hb dL_law_573 rfl (lv_at hl 0 rfl) ?_
                                      refine lv_iload_n hx hb dL_law_574 rfl (lv_at hl 3 rfl) ?_
                                      refine lv_iconst (v := 1) hx hb dL_law_575 kI_1 ?_
                                      refine lv_iadd hx hb dL_law_576 ?_
                                      obtain ⟨c108, hf⟩ := gd_e hf
                                      refine va_sld hx hb hX hbl hbA hS (inb_in c108) dL_law_577 ?_
                                      obtain ⟨q109, eq109, hf⟩ := bd_e hf
                                      refine zkic (w := pX) (v := v) (cl_X hc) hS (zrVc (w := pX) (v := v) (u := x.2.1) (As := [.int (xs ((x.1 + (1 : Int32))).toNatClampNeg)]) (rest := []) okX hx hb hml hown hts hc.1 (va_P_l hP) hS (fun q h1 h2 => absurd h1 (Nat.not_lt.mpr h2)) (t_X7_missing l v N (xs ((x.1 + (1 : Int32))).toNatClampNeg) x.2.1 _ eq109) vk_X7_missing ml_L_73 rfl rfl ⟨(Nat.le_of_ble_eq_true rfl), (Nat.le_of_ble_eq_true rfl)⟩ (zlr_X hP hc) rfl hl.1 rfl (Nat.le_of_ble_eq_true rfl) dL_law_578 ⟨(Nat.le_of_ble_eq_true rfl), (Nat.le_of_ble_eq_true rfl)⟩) (fun H1 locs hP1 hS hk1 => ?_)
                                      have hP : va_P (zD v) vwCl (zL ab v (q109.2, x.2.2)) H1 := zl_backX hc (G := x.2) hP hP1 hk1
                                      generalize H1 = H at hP hS ⊢
                                      refine lv_aload_n hx hb dL_law_581 rfl (lv_at hl 2 rfl) ?_
                                      refine lv_aload_n hx hb dL_law_582 rfl (lv_at hl 0 rfl) ?_
                                      refine lv_iload_n hx hb dL_law_583 rfl (lv_at hl 3 rfl) ?_
                                      refine lv_iconst (v := 1) hx hb dL_law_584 kI_1 ?_
                                      refine lv_iadd hx hb dL_law_585 ?_
                                      obtain ⟨c110, hf⟩ := gd_e hf
                                      refine va_sld hx hb hX hbl hbA hS (inb_in c110) dL_law_586 ?_
                                      obtain ⟨q111, eq111, hf⟩ := bd_e hf
                                      refine zkic (w := pM) (v := (vb v ab)) (cl_M hc) hS (zrVc (w := pM) (v := (vb v ab)) (u := x.2.2) (As := [.int (xs ((x.1 + (1 : Int32))).toNatClampNeg)]) (rest := [.int q109.1]) okM hx hb hml hown hts hc.2.1 (va_P_r hP) hS (fun q h1 h2 => absurd h1 (Nat.not_lt.mpr h2)) (t_X8_missing l (vb v ab) N (xs ((x.1 + (1 : Int32))).toNatClampNeg) x.2.2 _ eq111) vk_X8_missing ml_L_76 rfl rfl ⟨(Nat.le_of_ble_eq_true rfl), (Nat.le_of_ble_eq_true rfl)⟩ (zlr_M hP hc) rfl hl.1 rfl (Nat.le_of_ble_eq_true rfl) dL_law_587 ⟨(Nat.le_of_ble_eq_true rfl), (Nat.le_of_ble_eq_true rfl)⟩) (fun H1 locs hP1 hS hk1 => ?_)
                                      have hP : va_P (zD v) vwCl (zL ab v (q109.2, q111.2)) H1 := zl_backM hc (G := (q109.2, x.2.2)) hP hP1 hk1
                                      generalize H1 = H at hP hS ⊢
                                      refine lv_icmp_eq (tgt := 1065) hx hb dL_law_590 (by decide) (fun c112 => ?_) (fun c112 => ?_)
                                      · have hf := ite_t c112 hf
                                        exact wb1065 h18 hh18 x.1 (q109.2, q111.2) hf _ _ _ hP hS (lv_sub hl [0, 1, 2, 3] rfl)
                                      · have hf := ite_f c112 hf
                                        exact nn_e hf
                                    · have hf := ite_f c107 hf
                                      by_cases c113 : ((((xs (x.1).toNatClampNeg) &&& (31 : Int32))).toInt - (0)).toNat = 15
                                      · have hf := ite_t c113 hf
                                        refine lv_tableIn (tgt := 595) hx hb dL_law_33 (fun h => c3 (Or.inl h)) (fun h => c3 (Or.inr h)) (by rw [c113]; rfl) (by decide) ?_
                                        refine lv_aload_n hx hb dL_law_595 rfl (lv_at hl 1 rfl) ?_
                                        refine lv_aload_n hx hb dL_law_596 rfl (lv_at hl 0 rfl) ?_
                                        refine lv_iload_n hx hb dL_law_597 rfl (lv_at hl 3 rfl) ?_
                                        refine lv_iconst (v := 1) hx hb dL_law_598 kI_1 ?_
                                        refine lv_iadd hx hb dL_law_599 ?_
                                        obtain ⟨c114, hf⟩ := gd_e hf
                                        refine va_sld hx hb hX hbl hbA hS (inb_in c114) dL_law_600 ?_
                                        obtain ⟨q115, eq115, hf⟩ := bd_e hf
                                        refine zkic (w := pX) (v := v) (cl_X hc) hS (zrVc (w := pX) (v := v) (u := x.2.1) (As := [.int (xs ((x.1 + (1 : Int32))).toNatClampNeg)]) (rest := []) okX hx hb hml hown hts hc.1 (va_P_l hP) hS (fun q h1 h2 => absurd h1 (Nat.not_lt.mpr h2)) (t_X7_lies l v N (xs ((x.1 + (1 : Int32))).toNatClampNeg) x.2.1 _ eq115) vk_X7_lies ml_L_77 rfl rfl ⟨(Nat.le_of_ble_eq_true rfl), (Nat.le_of_ble_eq_true rfl)⟩ (zlr_X hP hc) rfl hl.1 rfl (Nat.le_of_ble_eq_true rfl) dL_law_601 ⟨(Nat.le_of_ble_eq_true rfl), (Nat.le_of_ble_eq_true rfl)⟩) (fun H1 locs hP1 hS hk1 => ?_)
                                        have hP : va_P (zD v) vwCl (zL ab v (q115.2, x.2.2)) H1 := zl_backX hc (G := x.2) hP hP1 hk1
                                        generalize H1 = H at hP hS ⊢
                                        refine lv_aload_n hx hb dL_law_604 rfl (lv_at hl 2 rfl) ?_
                                        refine lv_aload_n hx hb dL_law_605 rfl (lv_at hl 0 rfl) ?_
                                        refine lv_iload_n hx hb dL_law_606 rfl (lv_at hl 3 rfl) ?_
                                        refine lv_iconst (v := 1) hx hb dL_law_607 kI_1 ?_
                                        refine lv_iadd hx hb dL_law_608 ?_
                                        obtain ⟨c116, hf⟩ := gd_e hf
                                        refine va_sld hx hb hX hbl hbA hS (inb_in c116) dL_law_609 ?_
                                        obtain ⟨q117, eq117, hf⟩ := bd_e hf
                                        refine zkic (w := pM) (v := (vb v ab)) (cl_M hc) hS (zrVc (w := pM) (v := (vb v ab)) (u := x.2.2) (As := [.int (xs ((x.1 + (1 : Int32))).toNatClampNeg)]) (rest := [.int q115.1]) okM hx hb hml hown hts hc.2.1 (va_P_r hP) hS (fun q h1 h2 => absurd h1 (Nat.not_lt.mpr h2)) (t_X8_lies l (vb v ab) N (xs ((x.1 + (1 : Int32))).toNatClampNeg) x.2.2 _ eq117) vk_X8_lies ml_L_80 rfl rfl ⟨(Nat.le_of_ble_eq_true rfl), (Nat.le_of_ble_eq_true rfl)⟩ (zlr_M hP hc) rfl hl.1 rfl (Nat.le_of_ble_eq_true rfl) dL_law_610 ⟨(Nat.le_of_ble_eq_true rfl), (Nat.le_of_ble_eq_true rfl)⟩) (fun H1 locs hP1 hS hk1 => ?_)
                                        have hP : va_P (zD v) vwCl (zL ab v (q115.2, q117.2)) H1 := zl_backM hc (G := (q115.2, x.2.2)) hP hP1 hk1
                                        generalize H1 = H at hP hS ⊢
                                        refine lv_icmp_eq (tgt := 1065) hx hb dL_law_613 (by decide) (fun c118 => ?_) (fun c118 => ?_)
                                        · have hf := ite_t c118 hf
                                          exact wb1065 h18 hh18 x.1 (q115.2, q117.2) hf _ _ _ hP hS (lv_sub hl [0, 1, 2, 3] rfl)
                                        · have hf := ite_f c118 hf
                                          exact nn_e hf
                                      · have hf := ite_f c113 hf
                                        by_cases c119 : ((((xs (x.1).toNatClampNeg) &&& (31 : Int32))).toInt - (0)).toNat = 16
                                        · have hf := ite_t c119 hf
                                          refine lv_tableIn (tgt := 618) hx hb dL_law_33 (fun h => c3 (Or.inl h)) (fun h => c3 (Or.inr h)) (by rw [c119]; rfl) (by decide) ?_
                                          refine lv_aload_n hx hb dL_law_618 rfl (lv_at hl 1 rfl) ?_
                                          refine lv_aload_n hx hb dL_law_619 rfl (lv_at hl 0 rfl) ?_
                                          refine lv_iload_n hx hb dL_law_620 rfl (lv_at hl 3 rfl) ?_
                                          refine lv_iconst (v := 1) hx hb dL_law_621 kI_1 ?_
                                          refine lv_iadd hx hb dL_law_622 ?_
                                          obtain ⟨c120, hf⟩ := gd_e hf
                                          refine va_sld hx hb hX hbl hbA hS (inb_in c120) dL_law_623 ?_
                                          refine lv_aload_n hx hb dL_law_624 rfl (lv_at hl 0 rfl) ?_
                                          refine lv_iload_n hx hb dL_law_625 rfl (lv_at hl 3 rfl) ?_
                                          refine lv_iconst (v := 2) hx hb dL_law_626 kI_2 ?_
                                          refine lv_iadd hx hb dL_law_627 ?_
                                          obtain ⟨c121, hf⟩ := gd_e hf
                                          refine va_sld hx hb hX hbl hbA hS (inb_in c121) dL_law_628 ?_
                                          refine lv_aload_n hx hb dL_law_629 rfl (lv_at hl 0 rfl) ?_
                                          refine lv_iload_n hx hb dL_law_630 rfl (lv_at hl 3 rfl) ?_
                                          refine lv_iconst (v := 3) hx hb dL_law_631 kI_3 ?_
                                          refine lv_iadd hx hb dL_law_632 ?_
                                          obtain ⟨c122, hf⟩ := gd_e hf
                                          refine va_sld hx hb hX hbl hbA hS (inb_in c122) dL_law_633 ?_
                                          refine lv_aload_n hx hb dL_law_634 rfl (lv_at hl 0 rfl) ?_
                                          refine lv_iload_n hx hb dL_law_635 rfl (lv_at hl 3 rfl) ?_
                                          refine lv_iconst (v := 4) hx hb dL_law_636 kI_4 ?_
                                          refine lv_iadd hx hb dL_law_637 ?_
                                          obtain ⟨c123, hf⟩ := gd_e hf
                                          refine va_sld hx hb hX hbl hbA hS (inb_in c123) dL_law_638 ?_
                                          obtain ⟨q124, eq124, hf⟩ := bd_e hf
                                          refine zkic (w := pX) (v := v) (cl_X hc) hS (zrVc (w := pX) (v := v) (u := x.2.1) (As := [.int (xs ((x.1 + (1 : Int32))).toNatClampNeg), .int (xs ((x.1 + (2 : Int32))).toNatClampNeg), .int (xs ((x.1 + (3 : Int32))).toNatClampNeg), .int (xs ((x.1 + (4 : Int32))).toNatClampNeg)]) (rest := []) okX hx hb hml hown hts hc.1 (va_P_l hP) hS (fun q h1 h2 => absurd h1 (Nat.not_lt.mpr h2)) (t_X7_runs l v N (xs ((x.1 + (1 : Int32))).toNatClampNeg) (xs ((x.1 + (2 : Int32))).toNatClampNeg) (xs ((x.1 + (3 : Int32))).toNatClampNeg) (xs ((x.1 + (4 : Int32))).toNatClampNeg) x.2.1 _ eq124) vk_X7_runs ml_L_81 rfl rfl ⟨(Nat.le_of_ble_eq_true rfl), (Nat.le_of_ble_eq_true rfl)⟩ (zlr_X hP hc) rfl hl.1 rfl (Nat.le_of_ble_eq_true rfl) dL_law_639 ⟨(Nat.le_of_ble_eq_true rfl), (Nat.le_of_ble_eq_true rfl)⟩) (fun H1 locs hP1 hS hk1 => ?_)
                                          have hP : va_P (zD v) vwCl (zL ab v (q124.2, x.2.2)) H1 := zl_backX hc (G := x.2) hP hP1 hk1
                                          generalize H1 = H at hP hS ⊢
                                          refine lv_aload_n hx hb dL_law_642 rfl (lv_at hl 2 rfl) ?_
                                          refine lv_aload_n hx hb dL_law_643 rfl (lv_at hl 0 rfl) ?_
                                          refine lv_iload_n hx hb dL_law_644 rfl (lv_at hl 3 rfl) ?_
                                          refine lv_iconst (v := 1) hx hb dL_law_645 kI_1 ?_
                                          refine lv_iadd hx hb dL_law_646 ?_
                                          obtain ⟨c125, hf⟩ := gd_e hf
                                          refine va_sld hx hb hX hbl hbA hS (inb_in c125) dL_law_647 ?_
                                          refine lv_aload_n hx hb dL_law_648 rfl (lv_at hl 0 rfl) ?_
                                          refine lv_iload_n hx hb dL_law_649 rfl (lv_at hl 3 rfl) ?_
                                          refine lv_iconst (v := 2) hx hb dL_law_650 kI_2 ?_
                                          refine lv_iadd hx hb dL_law_651 ?_
                                          obtain ⟨c126, hf⟩ := gd_e hf
                                          refine va_sld hx hb hX hbl hbA hS (inb_in c126) dL_law_652 ?_
                                          refine lv_aload_n hx hb dL_law_653 rfl (lv_at hl 0 rfl) ?_
                                          refine lv_iload_n hx hb dL_law_654 rfl (lv_at hl 3 rfl) ?_
                                          refine lv_iconst (v := 3) hx hb dL_law_655 kI_3 ?_
                                          refine lv_iadd hx hb dL_law_656 ?_
                                          obtain ⟨c127, hf⟩ := gd_e hf
                                          refine va_sld hx hb hX hbl hbA hS (inb_in c127) dL_law_657 ?_
                                          refine lv_aload_n hx hb dL_law_658 rfl (lv_at hl 0 rfl) ?_
                                          refine lv_iload_n hx hb dL_law_659 rfl (lv_at hl 3 rfl) ?_
                                          refine lv_iconst (v := 4) hx hb dL_law_660 kI_4 ?_
                                          refine lv_iadd hx hb dL_law_661 ?_
                                          obtain ⟨c128, hf⟩ := gd_e hf
                                          refine va_sld hx hb hX hbl hbA hS (inb_in c128) dL_law_662 ?_
                                          obtain ⟨q129, eq129, hf⟩ := bd_e hf
                                          refine zkic (w := pM) (v := (vb v ab)) (cl_M hc) hS (zrVc (w := pM) (v := (vb v ab)) (u := x.2.2) (As := [.int (xs ((x.1 + (1 : Int32))).toNatClampNeg), .int (xs ((x.1 + (2 : Int32))).toNatClampNeg), .int (xs ((x.1 + (3 : Int32))).toNatClampNeg), .int (xs ((x.1 + (4 : Int32))).toNatClampNeg)]) (rest := [.int q124.1]) okM hx hb hml hown hts hc.2.1 (va_P_r hP) hS (fun q h1 h2 => absurd h1 (Nat.not_lt.mpr h2)) (t_X8_runs l (vb v ab) N (xs ((x.1 + (1 : Int32))).toNatClampNeg) (xs ((x.1 + (2 : Int32))).toNatClampNeg) (xs ((x.1 + (3 : Int32))).toNatClampNeg) (xs ((x.1 + (4 : Int32))).toNatClampNeg) x.2.2 _ eq129) vk_X8_runs ml_L_85 rfl rfl ⟨(Nat.le_of_ble_eq_true rfl), (Nat.le_of_ble_eq_true rfl)⟩ (zlr_M hP hc) rfl hl.1 rfl (Nat.le_of_ble_eq_true rfl) dL_law_663 ⟨(Nat.le_of_ble_eq_true rfl), (Nat.le_of_ble_eq_true rfl)⟩) (fun H1 locs hP1 hS hk1 => ?_)
                                          have hP : va_P (zD v) vwCl (zL ab v (q124.2, q129.2)) H1 := zl_backM hc (G := (q124.2, x.2.2)) hP hP1 hk1
                                          generalize H1 = H at hP hS ⊢
                                          refine lv_icmp_eq (tgt := 1065) hx hb dL_law_666 (by decide) (fun c130 => ?_) (fun c130 => ?_)
                                          · have hf := ite_t c130 hf
                                            exact wb1065 h18 hh18 x.1 (q124.2, q129.2) hf _ _ _ hP hS (lv_sub hl [0, 1, 2, 3] rfl)
                                          · have hf := ite_f c130 hf
                                            exact nn_e hf
                                        · have hf := ite_f c119 hf
                                          by_cases c131 : ((((xs (x.1).toNatClampNeg) &&& (31 : Int32))).toInt - (0)).toNat = 17
                                          · have hf := ite_t c131 hf
                                            refine lv_tableIn (tgt := 671) hx hb dL_law_33 (fun h => c3 (Or.inl h)) (fun h => c3 (Or.inr h)) (by rw [c131]; rfl) (by decide) ?_
                                            refine lv_aload_n hx hb dL_law_671 rfl (lv_at hl 1 rfl) ?_
                                            refine lv_aload_n hx hb dL_law_672 rfl (lv_at hl 0 rfl) ?_
                                            refine lv_iload_n hx hb dL_law_673 rfl (lv_at hl 3 rfl) ?_
                                            refine lv_iconst (v := 1) hx hb dL_law_674 kI_1 ?_
                                            refine lv_iadd hx hb dL_law_675 ?_
                                            obtain ⟨c132, hf⟩ := gd_e hf
                                            refine va_sld hx hb hX hbl hbA hS (inb_in c132) dL_law_676 ?_
                                            refine lv_aload_n hx hb dL_law_677 rfl (lv_at hl 0 rfl) ?_
                                            refine lv_iload_n hx hb dL_law_678 rfl (lv_at hl 3 rfl) ?_
                                            refine lv_iconst (v := 2) hx hb dL_law_679 kI_2 ?_
                                            refine lv_iadd hx hb dL_law_680 ?_
                                            obtain ⟨c133, hf⟩ := gd_e hf
                                            refine va_sld hx hb hX hbl hbA hS (inb_in c133) dL_law_681 ?_
                                            refine lv_aload_n hx hb dL_law_682 rfl (lv_at hl 0 rfl) ?_
                                            refine lv_iload_n hx hb dL_law_683 rfl (lv_at hl 3 rfl) ?_
                                            refine lv_iconst (v := 3) hx hb dL_law_684 kI_3 ?_
                                            refine lv_iadd hx hb dL_law_685 ?_
                                            obtain ⟨c134, hf⟩ := gd_e hf
                                            refine va_sld hx hb hX hbl hbA hS (inb_in c134) dL_law_686 ?_
                                            obtain ⟨q135, eq135, hf⟩ := bd_e hf
                                            refine zkic (w := pX) (v := v) (cl_X hc) hS (zrVc (w := pX) (v := v) (u := x.2.1) (As := [.int (xs ((x.1 + (1 : Int32))).toNatClampNeg), .int (xs ((x.1 + (2 : Int32))).toNatClampNeg), .int (xs ((x.1 + (3 : Int32))).toNatClampNeg)]) (rest := []) okX hx hb hml hown hts hc.1 (va_P_l hP) hS (fun q h1 h2 => absurd h1 (Nat.not_lt.mpr h2)) (t_X7_film l v N (xs ((x.1 + (1 : Int32))).toNatClampNeg) (xs ((x.1 + (2 : Int32))).toNatClampNeg) (xs ((x.1 + (3 : Int32))).toNatClampNeg) x.2.1 _ eq135) vk_X7_film ml_L_86 rfl rfl ⟨(Nat.le_of_ble_eq_true rfl), (Nat.le_of_ble_eq_true rfl)⟩ (zlr_X hP hc) rfl hl.1 rfl (Nat.le_of_ble_eq_true rfl) dL_law_687 ⟨(Nat.le_of_ble_eq_true rfl), (Nat.le_of_ble_eq_true rfl)⟩) (fun H1 locs hP1 hS hk1 => ?_)
                                            have hP : va_P (zD v) vwCl (zL ab v (q135.2, x.2.2)) H1 := zl_backX hc (G := x.2) hP hP1 hk1
                                            generalize H1 = H at hP hS ⊢
                                            refine lv_aload_n hx hb dL_law_690 rfl (lv_at hl 2 rfl) ?_
                                            refine lv_aload_n hx hb dL_law_691 rfl (lv_at hl 0 rfl) ?_
                                            refine lv_iload_n hx hb dL_law_692 rfl (lv_at hl 3 rfl) ?_
                                            refine lv_iconst (v := 1) hx hb dL_law_693 kI_1 ?_
                                            refine lv_iadd hx hb dL_law_694 ?_
                                            obtain ⟨c136, hf⟩ := gd_e hf
                                            refine va_sld hx hb hX hbl hbA hS (inb_in c136) dL_law_695 ?_
                                            refine lv_aload_n hx hb dL_law_696 rfl (lv_at hl 0 rfl) ?_
                                            refine lv_iload_n hx hb dL_law_697 rfl (lv_at hl 3 rfl) ?_
                                            refine lv_iconst (v := 2) hx hb dL_law_698 kI_2 ?_
                                            refine lv_iadd hx hb dL_law_699 ?_
                                            obtain ⟨c137, hf⟩ := gd_e hf
                                            refine va_sld hx hb hX hbl hbA hS (inb_in c137) dL_law_700 ?_
                                            refine lv_aload_n hx hb dL_law_701 rfl (lv_at hl 0 rfl) ?_
                                            refine lv_iload_n hx hb dL_law_702 rfl (lv_at hl 3 rfl) ?_
                                            refine lv_iconst (v := 3) hx hb dL_law_703 kI_3 ?_
                                            refine lv_iadd hx hb dL_law_704 ?_
                                            obtain ⟨c138, hf⟩ := gd_e hf
                                            refine va_sld hx hb hX hbl hbA hS (inb_in c138) dL_law_705 ?_
                                            obtain ⟨q139, eq139, hf⟩ := bd_e hf
                                            refine zkic (w := pM) (v := (vb v ab)) (cl_M hc) hS (zrVc (w := pM) (v := (vb v ab)) (u := x.2.2) (As := [.int (xs ((x.1 + (1 : Int32))).toNatClampNeg), .int (xs ((x.1 + (2 : Int32))).toNatClampNeg), .int (xs ((x.1 + (3 : Int32))).toNatClampNeg)]) (rest := [.int q135.1]) okM hx hb hml hown hts hc.2.1 (va_P_r hP) hS (fun q h1 h2 => absurd h1 (Nat.not_lt.mpr h2)) (t_X8_film l (vb v ab) N (xs ((x.1 + (1 : Int32))).toNatClampNeg) (xs ((x.1 + (2 : Int32))).toNatClampNeg) (xs ((x.1 + (3 : Int32))).toNatClampNeg) x.2.2 _ eq139) vk_X8_film ml_L_89 rfl rfl ⟨(Nat.le_of_ble_eq_true rfl), (Nat.le_of_ble_eq_true rfl)⟩ (zlr_M hP hc) rfl hl.1 rfl (Nat.le_of_ble_eq_true rfl) dL_law_706 ⟨(Nat.le_of_ble_eq_true rfl), (Nat.le_of_ble_eq_true rfl)⟩) (fun H1 locs hP1 hS hk1 => ?_)
                                            have hP : va_P (zD v) vwCl (zL ab v (q135.2, q139.2)) H1 := zl_backM hc (G := (q135.2, x.2.2)) hP hP1 hk1
                                            generalize H1 = H at hP hS ⊢
                                            refine lv_icmp_eq (tgt := 1065) hx hb dL_law_709 (by decide) (fun c140 => ?_) (fun c140 => ?_)
                                            · have hf := ite_t c140 hf
                                              exact wb1065 h18 hh18 x.1 (q135.2, q139.2) hf _ _ _ hP hS (lv_sub hl [0, 1, 2, 3] rfl)
                                            · have hf := ite_f c140 hf
                                              exact nn_e hf
                                          · have hf := ite_f c131 hf
                                            by_cases c141 : ((((xs (x.1).toNatClampNeg) &&& (31 : Int32))).toInt - (0)).toNat = 18
                                            · have hf := ite_t c141 hf
                                              refine lv_tableIn (tgt := 714) hx hb dL_law_33 (fun h => c3 (Or.inl h)) (fun h => c3 (Or.inr h)) (by rw [c141]; rfl) (by decide) ?_
                                              refine lv_aload_n hx hb dL_law_714 rfl (lv_at hl 1 rfl) ?_
                                              refine lv_aload_n hx hb dL_law_715 rfl (lv_at hl 0 rfl) ?_
                                              refine lv_iload_n hx hb dL_law_716 rfl (lv_at hl 3 rfl) ?_
                                              refine lv_iconst (v := 1) hx hb dL_law_717 kI_1 ?_
                                              refine lv_iadd hx hb dL_law_718 ?_
                                              obtain ⟨c142, hf⟩ := gd_e hf
                                              refine va_sld hx hb hX hbl hbA hS (inb_in c142) dL_law_719 ?_
                                              obtain ⟨q143, eq143, hf⟩ := bd_e hf
                                              refine zkic (w := pX) (v := v) (cl_X hc) hS (zrVc (w := pX) (v := v) (u := x.2.1) (As := [.int (xs ((x.1 + (1 : Int32))).toNatClampNeg)]) (rest := []) okX hx hb hml hown hts hc.1 (va_P_l hP) hS (fun q h1 h2 => absurd h1 (Nat.not_lt.mpr h2)) (t_X7_drawn l v N (xs ((x.1 + (1 : Int32))).toNatClampNeg) x.2.1 _ eq143) vk_X7_drawn ml_L_90 rfl rfl ⟨(Nat.le_of_ble_eq_true rfl), (Nat.le_of_ble_eq_true rfl)⟩ (zlr_X hP hc) rfl hl.1 rfl (Nat.le_of_ble_eq_true rfl) dL_law_720 ⟨(Nat.le_of_ble_eq_true rfl), (Nat.le_of_ble_eq_true rfl)⟩) (fun H1 locs hP1 hS hk1 => ?_)
                                              have hP : va_P (zD v) vwCl (zL ab v (q143.2, x.2.2)) H1 := zl_backX hc (G := x.2) hP hP1 hk1
                                              generalize H1 = H at hP hS ⊢
                                              refine lv_aload_n hx hb dL_law_723 rfl (lv_at hl 2 rfl) ?_
                                              refine lv_aload_n hx hb dL_law_724 rfl (lv_at hl 0 rfl) ?_
                                              refine lv_iload_n hx hb dL_law_725 rfl (lv_at hl 3 rfl) ?_
                                              refine lv_iconst (v := 1) hx hb dL_law_726 kI_1 ?_
                                              refine lv_iadd hx hb dL_law_727 ?_
                                              obtain ⟨c144, hf⟩ := gd_e hf
                                              refine va_sld hx hb hX hbl hbA hS (inb_in c144) dL_law_728 ?_
                                              obtain ⟨q145, eq145, hf⟩ := bd_e hf
                                              refine zkic (w := pM) (v := (vb v ab)) (cl_M hc) hS (zrVc (w := pM) (v := (vb v ab)) (u := x.2.2) (As := [.int (xs ((x.1 + (1 : Int32))).toNatClampNeg)]) (rest := [.int q143.1]) okM hx hb hml hown hts hc.2.1 (va_P_r hP) hS (fun q h1 h2 => absurd h1 (Nat.not_lt.mpr h2)) (t_X8_drawn l (vb v ab) N (xs ((x.1 + (1 : Int32))).toNatClampNeg) x.2.2 _ eq145) vk_X8_drawn ml_L_93 rfl rfl ⟨(Nat.le_of_ble_eq_true rfl), (Nat.le_of_ble_eq_true rfl)⟩ (zlr_M hP hc) rfl hl.1 rfl (Nat.le_of_ble_eq_true rfl) dL_law_729 ⟨(Nat.le_of_ble_eq_true rfl), (Nat.le_of_ble_eq_true rfl)⟩) (fun H1 locs hP1 hS hk1 => ?_)
                                              have hP : va_P (zD v) vwCl (zL ab v (q143.2, q145.2)) H1 := zl_backM hc (G := (q143.2, x.2.2)) hP hP1 hk1
                                              generalize H1 = H at hP hS ⊢
                                              refine lv_icmp_eq (tgt := 1065) hx hb dL_law_732 (by decide) (fun c146 => ?_) (fun c146 => ?_)
                                              · have hf := ite_t c146 hf
                                                exact wb1065 h18 hh18 x.1 (q143.2, q145.2) hf _ _ _ hP hS (lv_sub hl [0, 1, 2, 3] rfl)
                                              · have hf := ite_f c146 hf
                                                exact nn_e hf
                                            · have hf := ite_f c141 hf
                                              by_cases c147 : ((((xs (x.1).toNatClampNeg) &&& (31 : Int32))).toInt - (0)).toNat = 19
                                              · have hf := ite_t c147 hf
                                                refine lv_tableIn (tgt := 737) hx hb dL_law_33 (fun h => c3 (Or.inl h)) (fun h => c3 (Or.inr h)) (by rw [c147]; rfl) (by decide) ?_
                                                refine lv_aload_n hx hb dL_law_737 rfl (lv_at hl 1 rfl) ?_
                                                refine lv_aload_n hx hb dL_law_738 rfl (lv_at hl 0 rfl) ?_
                                                refine lv_iload_n hx hb dL_law_739 rfl (lv_at hl 3 rfl) ?_
                                                refine lv_iconst (v := 1) hx hb dL_law_740 kI_1 ?_
                                                refine lv_iadd hx hb dL_law_741 ?_
                                                obtain ⟨c148, hf⟩ := gd_e hf
                                                refine va_sld hx hb hX hbl hbA hS (inb_in c148) dL_law_742 ?_
                                                refine lv_aload_n hx hb dL_law_743 rfl (lv_at hl 0 rfl) ?_
                                                refine lv_iload_n hx hb dL_law_744 rfl (lv_at hl 3 rfl) ?_
                                                refine lv_iconst (v := 2) hx hb dL_law_745 kI_2 ?_
                                                refine lv_iadd hx hb dL_law_746 ?_
                                                obtain ⟨c149, hf⟩ := gd_e hf
                                                refine va_sld hx hb hX hbl hbA hS (inb_in c149) dL_law_747 ?_
                                                refine lv_aload_n hx hb dL_law_748 rfl (lv_at hl 0 rfl) ?_
                                                refine lv_iload_n hx hb dL_law_749 rfl (lv_at hl 3 rfl) ?_
                                                refine lv_iconst (v := 3) hx hb dL_law_750 kI_3 ?_
                                                refine lv_iadd hx hb dL_law_751 ?_
                                                obtain ⟨c150, hf⟩ := gd_e hf
                                                refine va_sld hx hb hX hbl hbA hS (inb_in c150) dL_law_752 ?_
                                                obtain ⟨q151, eq151, hf⟩ := bd_e hf
                                                refine zklc (w := pX) (v := v) (cl_X hc) hS (zrVc (w := pX) (v := v) (u := x.2.1) (As := [.int (xs ((x.1 + (1 : Int32))).toNatClampNeg), .int (xs ((x.1 + (2 : Int32))).toNatClampNeg), .int (xs ((x.1 + (3 : Int32))).toNatClampNeg)]) (rest := []) okX hx hb hml hown hts hc.1 (va_P_l hP) hS (fun q h1 h2 => absurd h1 (Nat.not_lt.mpr h2)) (t_X7_chance l v N (xs ((x.1 + (1 : Int32))).toNatClampNeg) (xs ((x.1 + (2 : Int32))).toNatClampNeg) (xs ((x.1 + (3 : Int32))).toNatClampNeg) x.2.1 _ eq151) vk_X7_chance ml_L_94 rfl rfl ⟨(Nat.le_of_ble_eq_true rfl), (Nat.le_of_ble_eq_true rfl)⟩ (zlr_X hP hc) rfl hl.1 rfl (Nat.le_of_ble_eq_true rfl) dL_law_753 ⟨(Nat.le_of_ble_eq_true rfl), (Nat.le_of_ble_eq_true rfl)⟩) (fun H1 locs hP1 hS hk1 => ?_)
                                                have hP : va_P (zD v) vwCl (zL ab v (q151.2, x.2.2)) H1 := zl_backX hc (G := x.2) hP hP1 hk1
                                                generalize H1 = H at hP hS ⊢
                                                refine lv_aload_n hx hb dL_law_756 rfl (lv_at hl 2 rfl) ?_
                                                refine lv_aload_n hx hb dL_law_757 rfl (lv_at hl 0 rfl) ?_
                                                refine lv_iload_n hx hb dL_law_758 rfl (lv_at hl 3 rfl) ?_
                                                refine lv_iconst (v := 1) hx hb dL_law_759 kI_1 ?_
                                                refine lv_iadd hx hb dL_law_760 ?_
                                                obtain ⟨c152, hf⟩ := gd_e hf
                                                refine va_sld hx hb hX hbl hbA hS (inb_in c152) dL_law_761 ?_
                                                refine lv_aload_n hx hb dL_law_762 rfl (lv_at hl 0 rfl) ?_
                                                refine lv_iload_n hx hb dL_law_763 rfl (lv_at hl 3 rfl) ?_
                                                refine lv_iconst (v := 2) hx hb dL_law_764 kI_2 ?_
                                                refine lv_iadd hx hb dL_law_765 ?_
                                                obtain ⟨c153, hf⟩ := gd_e hf
                                                refine va_sld hx hb hX hbl hbA hS (inb_in c153) dL_law_766 ?_
                                                refine lv_aload_n hx hb dL_law_767 rfl (lv_at hl 0 rfl) ?_
                                                refine lv_iload_n hx hb dL_law_768 rfl (lv_at hl 3 rfl) ?_
                                                refine lv_iconst (v := 3) hx hb dL_law_769 kI_3 ?_
                                                refine lv_iadd hx hb dL_law_770 ?_
                                                obtain ⟨c154, hf⟩ := gd_e hf
                                                refine va_sld hx hb hX hbl hbA hS (inb_in c154) dL_law_771 ?_
                                                obtain ⟨q155, eq155, hf⟩ := bd_e hf
                                                refine zklc (w := pM) (v := (vb v ab)) (cl_M hc) hS (zrVc (w := pM) (v := (vb v ab)) (u := x.2.2) (As := [.int (xs ((x.1 + (1 : Int32))).toNatClampNeg), .int (xs ((x.1 + (2 : Int32))).toNatClampNeg), .int (xs ((x.1 + (3 : Int32))).toNatClampNeg)]) (rest := [.long q151.1]) okM hx hb hml hown hts hc.2.1 (va_P_r hP) hS (fun q h1 h2 => absurd h1 (Nat.not_lt.mpr h2)) (t_X8_chance l (vb v ab) N (xs ((x.1 + (1 : Int32))).toNatClampNeg) (xs ((x.1 + (2 : Int32))).toNatClampNeg) (xs ((x.1 + (3 : Int32))).toNatClampNeg) x.2.2 _ eq155) vk_X8_chance ml_L_98 rfl rfl ⟨(Nat.le_of_ble_eq_true rfl), (Nat.le_of_ble_eq_true rfl)⟩ (zlr_M hP hc) rfl hl.1 rfl (Nat.le_of_ble_eq_true rfl) dL_law_772 ⟨(Nat.le_of_ble_eq_true rfl), (Nat.le_of_ble_eq_true rfl)⟩) (fun H1 locs hP1 hS hk1 => ?_)
                                                have hP : va_P (zD v) vwCl (zL ab v (q151.2, q155.2)) H1 := zl_backM hc (G := (q151.2, x.2.2)) hP hP1 hk1
                                                generalize H1 = H at hP hS ⊢
                                                refine W.lcmp hx hb dL_law_775 ?_
                                                refine lv_if_eq (tgt := 1065) hx hb dL_law_776 (by decide) (fun c156 => ?_) (fun c156 => ?_)
                                                · have hf := ite_t c156 hf
                                                  exact wb1065 h18 hh18 x.1 (q151.2, q155.2) hf _ _ _ hP hS (lv_sub hl [0, 1, 2, 3] rfl)
                                                · have hf := ite_f c156 hf
                                                  exact nn_e hf
                                              · have hf := ite_f c147 hf
                                                by_cases c157 : ((((xs (x.1).toNatClampNeg) &&& (31 : Int32))).toInt - (0)).toNat = 20
                                                · have hf := ite_t c157 hf
                                                  refine lv_tableIn (tgt := 781) hx hb dL_law_33 (fun h => c3 (Or.inl h)) (fun h => c3 (Or.inr h)) (by rw [c157]; rfl) (by decide) ?_
                                                  refine lv_aload_n hx hb dL_law_781 rfl (lv_at hl 1 rfl) ?_
                                                  obtain ⟨q158, eq158, hf⟩ := bd_e hf
                                                  refine zkic (w := pX) (v := v) (cl_X hc) hS (zrVc (w := pX) (v := v) (u := x.2.1) (As := []) (rest := []) okX hx hb hml hown hts hc.1 (va_P_l hP) hS (fun q h1 h2 => absurd h1 (Nat.not_lt.mpr h2)) (t_X7_image l v N x.2.1 _ eq158) vk_X7_image ml_L_99 rfl rfl ⟨(Nat.le_of_ble_eq_true rfl), (Nat.le_of_ble_eq_true rfl)⟩ (zlr_X hP hc) rfl hl.1 rfl (Nat.le_of_ble_eq_true rfl) dL_law_782 ⟨(Nat.le_of_ble_eq_true rfl), (Nat.le_of_ble_eq_true rfl)⟩) (fun H1 locs hP1 hS hk1 => ?_)
                                                  have hP : va_P (zD v) vwCl (zL ab v (q158.2, x.2.2)) H1 := zl_backX hc (G := x.2) hP hP1 hk1
                                                  generalize H1 = H at hP hS ⊢
                                                  refine lv_aload_n hx hb dL_law_785 rfl (lv_at hl 2 rfl) ?_
                                                  obtain ⟨q159, eq159, hf⟩ := bd_e hf
                                                  refine zkic (w := pM) (v := (vb v ab)) (cl_M hc) hS (zrVc (w := pM) (v := (vb v ab)) (u := x.2.2) (As := []) (rest := [.int q158.1]) okM hx hb hml hown hts hc.2.1 (va_P_r hP) hS (fun q h1 h2 => absurd h1 (Nat.not_lt.mpr h2)) (t_X8_image l (vb v ab) N x.2.2 _ eq159) vk_X8_image ml_L_102 rfl rfl ⟨(Nat.le_of_ble_eq_true rfl), (Nat.le_of_ble_eq_true rfl)⟩ (zlr_M hP hc) rfl hl.1 rfl (Nat.le_of_ble_eq_true rfl) dL_law_786 ⟨(Nat.le_of_ble_eq_true rfl), (Nat.le_of_ble_eq_true rfl)⟩) (fun H1 locs hP1 hS hk1 => ?_)
                                                  have hP : va_P (zD v) vwCl (zL ab v (q158.2, q159.2)) H1 := zl_backM hc (G := (q158.2, x.2.2)) hP hP1 hk1
                                                  generalize H1 = H at hP hS ⊢
                                                  refine lv_icmp_eq (tgt := 1065) hx hb dL_law_789 (by decide) (fun c160 => ?_) (fun c160 => ?_)
                                                  · have hf := ite_t c160 hf
                                                    exact wb1065 h18 hh18 x.1 (q158.2, q159.2) hf _ _ _ hP hS (lv_sub hl [0, 1, 2, 3] rfl)
                                                  · have hf := ite_f c160 hf
                                                    exact nn_e hf
                                                · have hf := ite_f c157 hf
                                                  by_cases c161 : ((((xs (x.1).toNatClampNeg) &&& (31 : Int32))).toInt - (0)).toNat = 21
                                                  · have hf := ite_t c161 hf
                                                    refine lv_tableIn (tgt := 794) hx hb dL_law_33 (fun h => c3 (Or.inl h)) (fun h => c3 (Or.inr h)) (by rw [c161]; rfl) (by decide) ?_
                                                    refine lv_aload_n hx hb dL_law_794 rfl (lv_at hl 1 rfl) ?_
                                                    obtain ⟨q162, eq162, hf⟩ := bd_e hf
                                                    refine zkic (w := pX) (v := v) (cl_X hc) hS (zrVc (w := pX) (v := v) (u := x.2.1) (As := []) (rest := []) okX hx hb hml hown hts hc.1 (va_P_l hP) hS (fun q h1 h2 => absurd h1 (Nat.not_lt.mpr h2)) (t_X7_back l v N x.2.1 _ eq162) vk_X7_back ml_L_103 rfl rfl ⟨(Nat.le_of_ble_eq_true rfl), (Nat.le_of_ble_eq_true rfl)⟩ (zlr_X hP hc) rfl hl.1 rfl (Nat.le_of_ble_eq_true rfl) dL_law_795 ⟨(Nat.le_of_ble_eq_true rfl), (Nat.le_of_ble_eq_true rfl)⟩) (fun H1 locs hP1 hS hk1 => ?_)
                                                    have hP : va_P (zD v) vwCl (zL ab v (q162.2, x.2.2)) H1 := zl_backX hc (G := x.2) hP hP1 hk1
                                                    generalize H1 = H at hP hS ⊢
                                                    refine lv_aload_n hx hb dL_law_798 rfl (lv_at hl 2 rfl) ?_
                                                    obtain ⟨q163, eq163, hf⟩ := bd_e hf
                                                    refine zkic (w := pM) (v := (vb v ab)) (cl_M hc) hS (zrVc (w := pM) (v := (vb v ab)) (u := x.2.2) (As := []) (rest := [.int q162.1]) okM hx hb hml hown hts hc.2.1 (va_P_r hP) hS (fun q h1 h2 => absurd h1 (Nat.not_lt.mpr h2)) (t_X8_back l (vb v ab) N x.2.2 _ eq163) vk_X8_back ml_L_106 rfl rfl ⟨(Nat.le_of_ble_eq_true rfl), (Nat.le_of_ble_eq_true rfl)⟩ (zlr_M hP hc) rfl hl.1 rfl (Nat.le_of_ble_eq_true rfl) dL_law_799 ⟨(Nat.le_of_ble_eq_true rfl), (Nat.le_of_ble_eq_true rfl)⟩) (fun H1 locs hP1 hS hk1 => ?_)
                                                    have hP : va_P (zD v) vwCl (zL ab v (q162.2, q163.2)) H1 := zl_backM hc (G := (q162.2, x.2.2)) hP hP1 hk1
                                                    generalize H1 = H at hP hS ⊢
                                                    refine lv_icmp_eq (tgt := 1065) hx hb dL_law_802 (by decide) (fun c164 => ?_) (fun c164 => ?_)
                                                    · have hf := ite_t c164 hf
                                                      exact wb1065 h18 hh18 x.1 (q162.2, q163.2) hf _ _ _ hP hS (lv_sub hl [0, 1, 2, 3] rfl)
                                                    · have hf := ite_f c164 hf
                                                      exact nn_e hf
                                                  · have hf := ite_f c161 hf
                                                    by_cases c165 : ((((xs (x.1).toNatClampNeg) &&& (31 : Int32))).toInt - (0)).toNat = 22
                                                    · have hf := ite_t c165 hf
                                                      refine lv_tableIn (tgt := 807) hx hb dL_law_33 (fun h => c3 (Or.inl h)) (fun h => c3 (Or.inr h)) (by rw [c165]; rfl) (by decide) ?_
                                                      refine lv_aload_n hx hb dL_law_807 rfl (lv_at hl 1 rfl) ?_
                                                      refine lv_aload_n hx hb dL_law_808 rfl (lv_at hl 0 rfl) ?_
                                                      refine lv_iload_n hx hb dL_law_809 rfl (lv_at hl 3 rfl) ?_
                                                      refine lv_iconst (v := 1) hx hb dL_law_810 kI_1 ?_
                                                      refine lv_iadd hx hb dL_law_811 ?_
                                                      obtain ⟨c166, hf⟩ := gd_e hf
                                                      refine va_sld hx hb hX hbl hbA hS (inb_in c166) dL_law_812 ?_
                                                      obtain ⟨q167, eq167, hf⟩ := bd_e hf
                                                      refine zkic (w := pX) (v := v) (cl_X hc) hS (zrVc (w := pX) (v := v) (u := x.2.1) (As := [.int (xs ((x.1 + (1 : Int32))).toNatClampNeg)]) (rest := []) okX hx hb hml hown hts hc.1 (va_P_l hP) hS (fun q h1 h2 => absurd h1 (Nat.not_lt.mpr h2)) (t_X7_count l v N (xs ((x.1 + (1 : Int32))).toNatClampNeg) x.2.1 _ eq167) vk_X7_count ml_L_107 rfl rfl ⟨(Nat.le_of_ble_eq_true rfl), (Nat.le_of_ble_eq_true rfl)⟩ (zlr_X hP hc) rfl hl.1 rfl (Nat.le_of_ble_eq_true rfl) dL_law_813 ⟨(Nat.le_of_ble_eq_true rfl), (Nat.le_of_ble_eq_true rfl)⟩) (fun H1 locs hP1 hS hk1 => ?_)
                                                      have hP : va_P (zD v) vwCl (zL ab v (q167.2, x.2.2)) H1 := zl_backX hc (G := x.2) hP hP1 hk1
                                                      generalize H1 = H at hP hS ⊢
                                                      refine lv_aload_n hx hb dL_law_816 rfl (lv_at hl 2 rfl) ?_
                                                      refine lv_aload_n hx hb dL_law_817 rfl (lv_at hl 0 rfl) ?_
                                                      refine lv_iload_n hx hb dL_law_818 rfl (lv_at hl 3 rfl) ?_
                                                      refine lv_iconst (v := 1) hx hb dL_law_819 kI_1 ?_
                                                      refine lv_iadd hx hb dL_law_820 ?_
                                                      obtain ⟨c168, hf⟩ := gd_e hf
                                                      refine va_sld hx hb hX hbl hbA hS (inb_in c168) dL_law_821 ?_
                                                      obtain ⟨q169, eq169, hf⟩ := bd_e hf
                                                      refine zkic (w := pM) (v := (vb v ab)) (cl_M hc) hS (zrVc (w := pM) (v := (vb v ab)) (u := x.2.2) (As := [.int (xs ((x.1 + (1 : Int32))).toNatClampNeg)]) (rest := [.int q167.1]) okM hx hb hml hown hts hc.2.1 (va_P_r hP) hS (fun q h1 h2 => absurd h1 (Nat.not_lt.mpr h2)) (t_X8_count l (vb v ab) N (xs ((x.1 + (1 : Int32))).toNatClampNeg) x.2.2 _ eq169) vk_X8_count ml_L_110 rfl rfl ⟨(Nat.le_of_ble_eq_true rfl), (Nat.le_of_ble_eq_true rfl)⟩ (zlr_M hP hc) rfl hl.1 rfl (Nat.le_of_ble_eq_true rfl) dL_law_822 ⟨(Nat.le_of_ble_eq_true rfl), (Nat.le_of_ble_eq_true rfl)⟩) (fun H1 locs hP1 hS hk1 => ?_)
                                                      have hP : va_P (zD v) vwCl (zL ab v (q167.2, q169.2)) H1 := zl_backM hc (G := (q167.2, x.2.2)) hP hP1 hk1
                                                      generalize H1 = H at hP hS ⊢
                                                      refine lv_icmp_eq (tgt := 1065) hx hb dL_law_825 (by decide) (fun c170 => ?_) (fun c170 => ?_)
                                                      · have hf := ite_t c170 hf
                                                        exact wb1065 h18 hh18 x.1 (q167.2, q169.2) hf _ _ _ hP hS (lv_sub hl [0, 1, 2, 3] rfl)
                                                      · have hf := ite_f c170 hf
                                                        exact nn_e hf
                                                    · have hf := ite_f c165 hf
                                                      by_cases c171 : ((((xs (x.1).toNatClampNeg) &&& (31 : Int32))).toInt - (0)).toNat = 23
                                                      · have hf := ite_t c171 hf
                                                        refine lv_tableIn (tgt := 830) hx hb dL_law_33 (fun h => c3 (Or.inl h)) (fun h => c3 (Or.inr h)) (by rw [c171]; rfl) (by decide) ?_
                                                        refine lv_aload_n hx hb dL_law_830 rfl (lv_at hl 1 rfl) ?_
                                                        refine lv_aload_n hx hb dL_law_831 rfl (lv_at hl 0 rfl) ?_
                                                        refine lv_iload_n hx hb dL_law_832 rfl (lv_at hl 3 rfl) ?_
                                                        refine lv_iconst (v := 1) hx hb dL_law_833 kI_1 ?_
                                                        refine lv_iadd hx hb dL_law_834 ?_
                                                        obtain ⟨c172, hf⟩ := gd_e hf
                                                        refine va_sld hx hb hX hbl hbA hS (inb_in c172) dL_law_835 ?_
                                                        refine lv_aload_n hx hb dL_law_836 rfl (lv_at hl 0 rfl) ?_
                                                        refine lv_iload_n hx hb dL_law_837 rfl (lv_at hl 3 rfl) ?_
                                                        refine lv_iconst (v := 2) hx hb dL_law_838 kI_2 ?_
                                                        refine lv_iadd hx hb dL_law_839 ?_
                                                        obtain ⟨c173, hf⟩ := gd_e hf
                                                        refine va_sld hx hb hX hbl hbA hS (inb_in c173) dL_law_840 ?_
                                                        refine lv_aload_n hx hb dL_law_841 rfl (lv_at hl 0 rfl) ?_
                                                        refine lv_iload_n hx hb dL_law_842 rfl (lv_at hl 3 rfl) ?_
                                                        refine lv_iconst (v := 3) hx hb dL_law_843 kI_3 ?_
                                                        refine lv_iadd hx hb dL_law_844 ?_
                                                        obtain ⟨c174, hf⟩ := gd_e hf
                                                        refine va_sld hx hb hX hbl hbA hS (inb_in c174) dL_law_845 ?_
                                                        obtain ⟨q175, eq175, hf⟩ := bd_e hf
                                                        refine zkic (w := pX) (v := v) (cl_X hc) hS (zrVc (w := pX) (v := v) (u := x.2.1) (As := [.int (xs ((x.1 + (1 : Int32))).toNatClampNeg), .int (xs ((x.1 + (2 : Int32))).toNatClampNeg), .int (xs ((x.1 + (3 : Int32))).toNatClampNeg)]) (rest := []) okX hx hb hml hown hts hc.1 (va_P_l hP) hS (fun q h1 h2 => absurd h1 (Nat.not_lt.mpr h2)) (t_X7_sheet l v N (xs ((x.1 + (1 : Int32))).toNatClampNeg) (xs ((x.1 + (2 : Int32))).toNatClampNeg) (xs ((x.1 + (3 : Int32))).toNatClampNeg) x.2.1 _ eq175) vk_X7_sheet ml_L_111 rfl rfl ⟨(Nat.le_of_ble_eq_true rfl), (Nat.le_of_ble_eq_true rfl)⟩ (zlr_X hP hc) rfl hl.1 rfl (Nat.le_of_ble_eq_true rfl) dL_law_846 ⟨(Nat.le_of_ble_eq_true rfl), (Nat.le_of_ble_eq_true rfl)⟩) (fun H1 locs hP1 hS hk1 => ?_)
                                                        have hP : va_P (zD v) vwCl (zL ab v (q175.2, x.2.2)) H1 := zl_backX hc (G := x.2) hP hP1 hk1
                                                        generalize H1 = H at hP hS ⊢
                                                        refine lv_aload_n hx hb dL_law_849 rfl (lv_at hl 2 rfl) ?_
                                                        refine lv_aload_n hx hb dL_law_850 rfl (lv_at hl 0 rfl) ?_
                                                        refine lv_iload_n hx hb dL_law_851 rfl (lv_at hl 3 rfl) ?_
                                                        refine lv_iconst (v := 1) hx hb dL_law_852 kI_1 ?_
                                                        refine lv_iadd hx hb dL_law_853 ?_
                                                        obtain ⟨c176, hf⟩ := gd_e hf
                                                        refine va_sld hx hb hX hbl hbA hS (inb_in c176) dL_law_854 ?_
                                                        refine lv_aload_n hx hb dL_law_855 rfl (lv_at hl 0 rfl) ?_
                                                        refine lv_iload_n hx hb dL_law_856 rfl (lv_at hl 3 rfl) ?_
                                                        refine lv_iconst (v := 2) hx hb dL_law_857 kI_2 ?_
                                                        refine lv_iadd hx hb dL_law_858 ?_
                                                        obtain ⟨c177, hf⟩ := gd_e hf
                                                        refine va_sld hx hb hX hbl hbA hS (inb_in c177) dL_law_859 ?_
                                                        refine lv_aload_n hx hb dL_law_860 rfl (lv_at hl 0 rfl) ?_
                                                        refine lv_iload_n hx hb dL_law_861 rfl (lv_at hl 3 rfl) ?_
                                                        refine lv_iconst (v := 3) hx hb dL_law_862 kI_3 ?_
                                                        refine lv_iadd hx hb dL_law_863 ?_
                                                        obtain ⟨c178, hf⟩ := gd_e hf
                                                        refine va_sld hx hb hX hbl hbA hS (inb_in c178) dL_law_864 ?_
                                                        obtain ⟨q179, eq179, hf⟩ := bd_e hf
                                                        refine zkic (w := pM) (v := (vb v ab)) (cl_M hc) hS (zrVc (w := pM) (v := (vb v ab)) (u := x.2.2) (As := [.int (xs ((x.1 + (1 : Int32))).toNatClampNeg), .int (xs ((x.1 + (2 : Int32))).toNatClampNeg), .int (xs ((x.1 + (3 : Int32))).toNatClampNeg)]) (rest := [.int q175.1]) okM hx hb hml hown hts hc.2.1 (va_P_r hP) hS (fun q h1 h2 => absurd h1 (Nat.not_lt.mpr h2)) (t_X8_sheet l (vb v ab) N (xs ((x.1 + (1 : Int32))).toNatClampNeg) (xs ((x.1 + (2 : Int32))).toNatClampNeg) (xs ((x.1 + (3 : Int32))).toNatClampNeg) x.2.2 _ eq179) vk_X8_sheet ml_L_114 rfl rfl ⟨(Nat.le_of_ble_eq_true rfl), (Nat.le_of_ble_eq_true rfl)⟩ (zlr_M hP hc) rfl hl.1 rfl (Nat.le_of_ble_eq_true rfl) dL_law_865 ⟨(Nat.le_of_ble_eq_true rfl), (Nat.le_of_ble_eq_true rfl)⟩) (fun H1 locs hP1 hS hk1 => ?_)
                                                        have hP : va_P (zD v) vwCl (zL ab v (q175.2, q179.2)) H1 := zl_backM hc (G := (q175.2, x.2.2)) hP hP1 hk1
                                                        generalize H1 = H at hP hS ⊢
                                                        refine lv_icmp_eq (tgt := 1065) hx hb dL_law_868 (by decide) (fun c180 => ?_) (fun c180 => ?_)
                                                        · have hf := ite_t c180 hf
                                                          exact wb1065 h18 hh18 x.1 (q175.2, q179.2) hf _ _ _ hP hS (lv_sub hl [0, 1, 2, 3] rfl)
                                                        · have hf := ite_f c180 hf
                                                          exact nn_e hf
                                                      · have hf := ite_f c171 hf
                                                        by_cases c181 : ((((xs (x.1).toNatClampNeg) &&& (31 : Int32))).toInt - (0)).toNat = 24
                                                        · have hf := ite_t c181 hf
                                                          refine lv_tableIn (tgt := 873) hx hb dL_law_33 (fun h => c3 (Or.inl h)) (fun h => c3 (Or.inr h)) (by rw [c181]; rfl) (by decide) ?_
                                                          refine lv_aload_n hx hb dL_law_873 rfl (lv_at hl 1 rfl) ?_
                                                          refine lv_aload_n hx hb dL_law_874 rfl (lv_at hl 0 rfl) ?_
                                                          refine lv_iload_n hx hb dL_law_875 rfl (lv_at hl 3 rfl) ?_
                                                          refine lv_iconst (v := 1) hx hb dL_law_876 kI_1 ?_
                                                          refine lv_iadd hx hb dL_law_877 ?_
                                                          obtain ⟨c182, hf⟩ := gd_e hf
                                                          refine va_sld hx hb hX hbl hbA hS (inb_in c182) dL_law_878 ?_
                                                          refine lv_aload_n hx hb dL_law_879 rfl (lv_at hl 0 rfl) ?_
                                                          refine lv_iload_n hx hb dL_law_880 rfl (lv_at hl 3 rfl) ?_
                                                          refine lv_iconst (v := 2) hx hb dL_law_881 kI_2 ?_
                                                          refine lv_iadd hx hb dL_law_882 ?_
                                                          obtain ⟨c183, hf⟩ := gd_e hf
                                                          refine va_sld hx hb hX hbl hbA hS (inb_in c183) dL_law_883 ?_
                                                          refine lv_aload_n hx hb dL_law_884 rfl (lv_at hl 0 rfl) ?_
                                                          refine lv_iload_n hx hb dL_law_885 rfl (lv_at hl 3 rfl) ?_
                                                          refine lv_iconst (v := 3) hx hb dL_law_886 kI_3 ?_
                                                          refine lv_iadd hx hb dL_law_887 ?_
                                                          obtain ⟨c184, hf⟩ := gd_e hf
                                                          refine va_sld hx hb hX hbl hbA hS (inb_in c184) dL_law_888 ?_
                                                          obtain ⟨q185, eq185, hf⟩ := bd_e hf
                                                          refine zkic (w := pX) (v := v) (cl_X hc) hS (zrVc (w := pX) (v := v) (u := x.2.1) (As := [.int (xs ((x.1 + (1 : Int32))).toNatClampNeg), .int (xs ((x.1 + (2 : Int32))).toNatClampNeg), .int (xs ((x.1 + (3 : Int32))).toNatClampNeg)]) (rest := []) okX hx hb hml hown hts hc.1 (va_P_l hP) hS (fun q h1 h2 => absurd h1 (Nat.not_lt.mpr h2)) (t_X7_cell l v N (xs ((x.1 + (1 : Int32))).toNatClampNeg) (xs ((x.1 + (2 : Int32))).toNatClampNeg) (xs ((x.1 + (3 : Int32))).toNatClampNeg) x.2.1 _ eq185) vk_X7_cell ml_L_115 rfl rfl ⟨(Nat.le_of_ble_eq_true rfl), (Nat.le_of_ble_eq_true rfl)⟩ (zlr_X hP hc) rfl hl.1 rfl (Nat.le_of_ble_eq_true rfl) dL_law_889 ⟨(Nat.le_of_ble_eq_true rfl), (Nat.le_of_ble_eq_true rfl)⟩) (fun H1 locs hP1 hS hk1 => ?_)
                                                          have hP : va_P (zD v) vwCl (zL ab v (q185.2, x.2.2)) H1 := zl_backX hc (G := x.2) hP hP1 hk1
                                                          generalize H1 = H at hP hS ⊢
                                                          refine lv_aload_n hx hb dL_law_892 rfl (lv_at hl 2 rfl) ?_
                                                          refine lv_aload_n hx hb dL_law_893 rfl (lv_at hl 0 rfl) ?_
                                                          refine lv_iload_n hx hb dL_law_894 rfl (lv_at hl 3 rfl) ?_
                                                          refine lv_iconst (v := 1) hx hb dL_law_895 kI_1 ?_
                                                          refine lv_iadd hx hb dL_law_896 ?_
                                                          obtain ⟨c186, hf⟩ := gd_e hf
                                                          refine va_sld hx hb hX hbl hbA hS (inb_in c186) dL_law_897 ?_
                                                          refine lv_aload_n hx hb dL_law_898 rfl (lv_at hl 0 rfl) ?_
                                                          refine lv_iload_n hx hb dL_law_899 rfl (lv_at hl 3 rfl) ?_
                                                          refine lv_iconst (v := 2) hx hb dL_law_900 kI_2 ?_
                                                          refine lv_iadd hx hb dL_law_901 ?_
                                                          obtain ⟨c187, hf⟩ := gd_e hf
                                                          refine va_sld hx hb hX hbl hbA hS (inb_in c187) dL_law_902 ?_
                                                          refine lv_aload_n hx hb dL_law_903 rfl (lv_at hl 0 rfl) ?_
                                                          refine lv_iload_n hx hb dL_law_904 rfl (lv_at hl 3 rfl) ?_
                                                          refine lv_iconst (v := 3) hx hb dL_law_905 kI_3 ?_
                                                          refine lv_iadd hx hb dL_law_906 ?_
                                                          obtain ⟨c188, hf⟩ := gd_e hf
                                                          refine va_sld hx hb hX hbl hbA hS (inb_in c188) dL_law_907 ?_
                                                          obtain ⟨q189, eq189, hf⟩ := bd_e hf
                                                          refine zkic (w := pM) (v := (vb v ab)) (cl_M hc) hS (zrVc (w := pM) (v := (vb v ab)) (u := x.2.2) (As := [.int (xs ((x.1 + (1 : Int32))).toNatClampNeg), .int (xs ((x.1 + (2 : Int32))).toNatClampNeg), .int (xs ((x.1 + (3 : Int32))).toNatClampNeg)]) (rest := [.int q185.1]) okM hx hb hml hown hts hc.2.1 (va_P_r hP) hS (fun q h1 h2 => absurd h1 (Nat.not_lt.mpr h2)) (t_X8_cell l (vb v ab) N (xs ((x.1 + (1 : Int32))).toNatClampNeg) (xs ((x.1 + (2 : Int32))).toNatClampNeg) (xs ((x.1 + (3 : Int32))).toNatClampNeg) x.2.2 _ eq189) vk_X8_cell ml_L_118 rfl rfl ⟨(Nat.le_of_ble_eq_true rfl), (Nat.le_of_ble_eq_true rfl)⟩ (zlr_M hP hc) rfl hl.1 rfl (Nat.le_of_ble_eq_true rfl) dL_law_908 ⟨(Nat.le_of_ble_eq_true rfl), (Nat.le_of_ble_eq_true rfl)⟩) (fun H1 locs hP1 hS hk1 => ?_)
                                                          have hP : va_P (zD v) vwCl (zL ab v (q185.2, q189.2)) H1 := zl_backM hc (G := (q185.2, x.2.2)) hP hP1 hk1
                                                          generalize H1 = H at hP hS ⊢
                                                          refine lv_icmp_eq (tgt := 1065) hx hb dL_law_911 (by decide) (fun c190 => ?_) (fun c190 => ?_)
                                                          · have hf := ite_t c190 hf
                                                            exact wb1065 h18 hh18 x.1 (q185.2, q189.2) hf _ _ _ hP hS (lv_sub hl [0, 1, 2, 3] rfl)
                                                          · have hf := ite_f c190 hf
                                                            exact nn_e hf
                                                        · have hf := ite_f c181 hf
                                                          by_cases c191 : ((((xs (x.1).toNatClampNeg) &&& (31 : Int32))).toInt - (0)).toNat = 25
                                                          · have hf := ite_t c191 hf
                                                            refine lv_tableIn (tgt := 916) hx hb dL_law_33 (fun h => c3 (Or.inl h)) (fun h => c3 (Or.inr h)) (by rw [c191]; rfl) (by decide) ?_
                                                            refine lv_aload_n hx hb dL_law_916 rfl (lv_at hl 1 rfl) ?_
                                                            refine lv_aload_n hx hb dL_law_917 rfl (lv_at hl 0 rfl) ?_
                                                            refine lv_iload_n hx hb dL_law_918 rfl (lv_at hl 3 rfl) ?_
                                                            refine lv_iconst (v := 1) hx hb dL_law_919 kI_1 ?_
                                                            refine lv_iadd hx hb dL_law_920 ?_
                                                            obtain ⟨c192, hf⟩ := gd_e hf
                                                            refine va_sld hx hb hX hbl hbA hS (inb_in c192) dL_law_921 ?_
                                                            refine lv_aload_n hx hb dL_law_922 rfl (lv_at hl 0 rfl) ?_
                                                            refine lv_iload_n hx hb dL_law_923 rfl (lv_at hl 3 rfl) ?_
                                                            refine lv_iconst (v := 2) hx hb dL_law_924 kI_2 ?_
                                                            refine lv_iadd hx hb dL_law_925 ?_
                                                            obtain ⟨c193, hf⟩ := gd_e hf
                                                            refine va_sld hx hb hX hbl hbA hS (inb_in c193) dL_law_926 ?_
                                                            refine lv_aload_n hx hb dL_law_927 rfl (lv_at hl 0 rfl) ?_
                                                            refine lv_iload_n hx hb dL_law_928 rfl (lv_at hl 3 rfl) ?_
                                                            refine lv_iconst (v := 3) hx hb dL_law_929 kI_3 ?_
                                                            refine lv_iadd hx hb dL_law_930 ?_
                                                            obtain ⟨c194, hf⟩ := gd_e hf
                                                            refine va_sld hx hb hX hbl hbA hS (inb_in c194) dL_law_931 ?_
                                                            refine lv_aload_n hx hb dL_law_932 rfl (lv_at hl 0 rfl) ?_
                                                            refine lv_iload_n hx hb dL_law_933 rfl (lv_at hl 3 rfl) ?_
                                                            refine lv_iconst (v := 4) hx hb dL_law_934 kI_4 ?_
                                                            refine lv_iadd hx hb dL_law_935 ?_
                                                            obtain ⟨c195, hf⟩ := gd_e hf
                                                            refine va_sld hx hb hX hbl hbA hS (inb_in c195) dL_law_936 ?_
                                                            refine lv_aload_n hx hb dL_law_937 rfl (lv_at hl 0 rfl) ?_
                                                            refine lv_iload_n hx hb dL_law_938 rfl (lv_at hl 3 rfl) ?_
                                                            refine lv_iconst (v := 5) hx hb dL_law_939 kI_5 ?_
                                                            refine lv_iadd hx hb dL_law_940 ?_
                                                            obtain ⟨c196, hf⟩ := gd_e hf
                                                            refine va_sld hx hb hX hbl hbA hS (inb_in c196) dL_law_941 ?_
                                                            obtain ⟨q197, eq197, hf⟩ := bd_e hf
                                                            refine zkic (w := pX) (v := v) (cl_X hc) hS (zrVc (w := pX) (v := v) (u := x.2.1) (As := [.int (xs ((x.1 + (1 : Int32))).toNatClampNeg), .int (xs ((x.1 + (2 : Int32))).toNatClampNeg), .int (xs ((x.1 + (3 : Int32))).toNatClampNeg), .int (xs ((x.1 + (4 : Int32))).toNatClampNeg), .int (xs ((x.1 + (5 : Int32))).toNatClampNeg)]) (rest := []) okX hx hb hml hown hts hc.1 (va_P_l hP) hS (fun q h1 h2 => absurd h1 (Nat.not_lt.mpr h2)) (t_X7_copy l v N (xs ((x.1 + (1 : Int32))).toNatClampNeg) (xs ((x.1 + (2 : Int32))).toNatClampNeg) (xs ((x.1 + (3 : Int32))).toNatClampNeg) (xs ((x.1 + (4 : Int32))).toNatClampNeg) (xs ((x.1 + (5 : Int32))).toNatClampNeg) x.2.1 _ eq197) vk_X7_copy ml_L_119 rfl rfl ⟨(Nat.le_of_ble_eq_true rfl), (Nat.le_of_ble_eq_true rfl)⟩ (zlr_X hP hc) rfl hl.1 rfl (Nat.le_of_ble_eq_true rfl) dL_law_942 ⟨(Nat.le_of_ble_eq_true rfl), (Nat.le_of_ble_eq_true rfl)⟩) (fun H1 locs hP1 hS hk1 => ?_)
                                                            have hP : va_P (zD v) vwCl (zL ab v (q197.2, x.2.2)) H1 := zl_backX hc (G := x.2) hP hP1 hk1
                                                            generalize H1 = H at hP hS ⊢
                                                            refine lv_aload_n hx hb dL_law_945 rfl (lv_at hl 2 rfl) ?_
                                                            refine lv_aload_n hx hb dL_law_946 rfl (lv_at hl 0 rfl) ?_
                                                            refine lv_iload_n hx hb dL_law_947 rfl (lv_at hl 3 rfl) ?_
                                                            refine lv_iconst (v := 1) hx hb dL_law_948 kI_1 ?_
                                                            refine lv_iadd hx hb dL_law_949 ?_
                                                            obtain ⟨c198, hf⟩ := gd_e hf
                                                            refine va_sld hx hb hX hbl hbA hS (inb_in c198) dL_law_950 ?_
                                                            refine lv_aload_n hx hb dL_law_951 rfl (lv_at hl 0 rfl) ?_
                                                            refine lv_iload_n hx hb dL_law_952 rfl (lv_at hl 3 rfl) ?_
                                                            refine lv_iconst (v := 2) hx hb dL_law_953 kI_2 ?_
                                                            refine lv_iadd hx hb dL_law_954 ?_
                                                            obtain ⟨c199, hf⟩ := gd_e hf
                                                            refine va_sld hx hb hX hbl hbA hS (inb_in c199) dL_law_955 ?_
                                                            refine lv_aload_n hx hb dL_law_956 rfl (lv_at hl 0 rfl) ?_
                                                            refine lv_iload_n hx hb dL_law_957 rfl (lv_at hl 3 rfl) ?_
                                                            refine lv_iconst (v := 3) hx hb dL_law_958 kI_3 ?_
                                                            refine lv_iadd hx hb dL_law_959 ?_
                                                            obtain ⟨c200, hf⟩ := gd_e hf
                                                            refine va_sld hx hb hX hbl hbA hS (inb_in c200) dL_law_960 ?_
                                                            refine lv_aload_n hx hb dL_law_961 rfl (lv_at hl 0 rfl) ?_
                                                            refine lv_iload_n hx hb dL_law_962 rfl (lv_at hl 3 rfl) ?_
                                                            refine lv_iconst (v := 4) hx hb dL_law_963 kI_4 ?_
                                                            refine lv_iadd hx hb dL_law_964 ?_
                                                            obtain ⟨c201, hf⟩ := gd_e hf
                                                            refine va_sld hx hb hX hbl hbA hS (inb_in c201) dL_law_965 ?_
                                                            refine lv_aload_n hx hb dL_law_966 rfl (lv_at hl 0 rfl) ?_
                                                            refine lv_iload_n hx hb dL_law_967 rfl (lv_at hl 3 rfl) ?_
                                                            refine lv_iconst (v := 5) hx hb dL_law_968 kI_5 ?_
                                                            refine lv_iadd hx hb dL_law_969 ?_
                                                            obtain ⟨c202, hf⟩ := gd_e hf
                                                            refine va_sld hx hb hX hbl hbA hS (inb_in c202) dL_law_970 ?_
                                                            obtain ⟨q203, eq203, hf⟩ := bd_e hf
                                                            refine zkic (w := pM) (v := (vb v ab)) (cl_M hc) hS (zrVc (w := pM) (v := (vb v ab)) (u := x.2.2) (As := [.int (xs ((x.1 + (1 : Int32))).toNatClampNeg), .int (xs ((x.1 + (2 : Int32))).toNatClampNeg), .int (xs ((x.1 + (3 : Int32))).toNatClampNeg), .int (xs ((x.1 + (4 : Int32))).toNatClampNeg), .int (xs ((x.1 + (5 : Int32))).toNatClampNeg)]) (rest := [.int q197.1]) okM hx hb hml hown hts hc.2.1 (va_P_r hP) hS (fun q h1 h2 => absurd h1 (Nat.not_lt.mpr h2)) (t_X8_copy l (vb v ab) N (xs ((x.1 + (1 : Int32))).toNatClampNeg) (xs ((x.1 + (2 : Int32))).toNatClampNeg) (xs ((x.1 + (3 : Int32))).toNatClampNeg) (xs ((x.1 + (4 : Int32))).toNatClampNeg) (xs ((x.1 + (5 : Int32))).toNatClampNeg) x.2.2 _ eq203) vk_X8_copy ml_L_123 rfl rfl ⟨(Nat.le_of_ble_eq_true rfl), (Nat.le_of_ble_eq_true rfl)⟩ (zlr_M hP hc) rfl hl.1 rfl (Nat.le_of_ble_eq_true rfl) dL_law_971 ⟨(Nat.le_of_ble_eq_true rfl), (Nat.le_of_ble_eq_true rfl)⟩) (fun H1 locs hP1 hS hk1 => ?_)
                                                            have hP : va_P (zD v) vwCl (zL ab v (q197.2, q203.2)) H1 := zl_backM hc (G := (q197.2, x.2.2)) hP hP1 hk1
                                                            generalize H1 = H at hP hS ⊢
                                                            refine lv_icmp_eq (tgt := 1065) hx hb dL_law_974 (by decide) (fun c204 => ?_) (fun c204 => ?_)
                                                            · have hf := ite_t c204 hf
                                                              exact wb1065 h18 hh18 x.1 (q197.2, q203.2) hf _ _ _ hP hS (lv_sub hl [0, 1, 2, 3] rfl)
                                                            · have hf := ite_f c204 hf
                                                              exact nn_e hf
                                                          · have hf := ite_f c191 hf
                                                            by_cases c205 : ((((xs (x.1).toNatClampNeg) &&& (31 : Int32))).toInt - (0)).toNat = 26
                                                            · have hf := ite_t c205 hf
                                                              refine lv_tableIn (tgt := 979) hx hb dL_law_33 (fun h => c3 (Or.inl h)) (fun h => c3 (Or.inr h)) (by rw [c205]; rfl) (by decide) ?_
                                                              refine lv_aload_n hx hb dL_law_979 rfl (lv_at hl 1 rfl) ?_
                                                              refine lv_aload_n hx hb dL_law_980 rfl (lv_at hl 0 rfl) ?_
                                                              refine lv_iload_n hx hb dL_law_981 rfl (lv_at hl 3 rfl) ?_
                                                              refine lv_iconst (v := 1) hx hb dL_law_982 kI_1 ?_
                                                              refine lv_iadd hx hb dL_law_983 ?_
                                                              obtain ⟨c206, hf⟩ := gd_e hf
                                                              refine va_sld hx hb hX hbl hbA hS (inb_in c206) dL_law_984 ?_
                                                              refine lv_aload_n hx hb dL_law_985 rfl (lv_at hl 0 rfl) ?_
                                                              refine lv_iload_n hx hb dL_law_986 rfl (lv_at hl 3 rfl) ?_
                                                              refine lv_iconst (v := 2) hx hb dL_law_987 kI_2 ?_
                                                              refine lv_iadd hx hb dL_law_988 ?_
                                                              obtain ⟨c207, hf⟩ := gd_e hf
                                                              refine va_sld hx hb hX hbl hbA hS (inb_in c207) dL_law_989 ?_
                                                              refine lv_aload_n hx hb dL_law_990 rfl (lv_at hl 0 rfl) ?_
                                                              refine lv_iload_n hx hb dL_law_991 rfl (lv_at hl 3 rfl) ?_
                                                              refine lv_iconst (v := 3) hx hb dL_law_992 kI_3 ?_
                                                              refine lv_iadd hx hb dL_law_993 ?_
                                                              obtain ⟨c208, hf⟩ := gd_e hf
                                                              refine va_sld hx hb hX hbl hbA hS (inb_in c208) dL_law_994 ?_
                                                              refine lv_aload_n hx hb dL_law_995 rfl (lv_at hl 0 rfl) ?_
                                                              refine lv_iload_n hx hb dL_law_996 rfl (lv_at hl 3 rfl) ?_
                                                              refine lv_iconst (v := 4) hx hb dL_law_997 kI_4 ?_
                                                              refine lv_iadd hx hb dL_law_998 ?_
                                                              obtain ⟨c209, hf⟩ := gd_e hf
                                                              refine va_sld hx hb hX hbl hbA hS (inb_in c209) dL_law_999 ?_
                                                              obtain ⟨q210, eq210, hf⟩ := bd_e hf
                                                              refine zkic (w := pX) (v := v) (cl_X hc) hS (zrVc (w := pX) (v := v) (u := x.2.1) (As := [.int (xs ((x.1 + (1 : Int32))).toNatClampNeg), .int (xs ((x.1 + (2 : Int32))).toNatClampNeg), .int (xs ((x.1 + (3 : Int32))).toNatClampNeg), .int (xs ((x.1 + (4 : Int32))).toNatClampNeg)]) (rest := []) okX hx hb hml hown hts hc.1 (va_P_l hP) hS (fun q h1 h2 => absurd h1 (Nat.not_lt.mpr h2)) (t_X7_town l v N (xs ((x.1 + (1 : Int32))).toNatClampNeg) (xs ((x.1 + (2 : Int32))).toNatClampNeg) (xs ((x.1 + (3 : Int32))).toNatClampNeg) (xs ((x.1 + (4 : Int32))).toNatClampNeg) x.2.1 _ eq210) vk_X7_town ml_L_124 rfl rfl ⟨(Nat.le_of_ble_eq_true rfl), (Nat.le_of_ble_eq_true rfl)⟩ (zlr_X hP hc) rfl hl.1 rfl (Nat.le_of_ble_eq_true rfl) dL_law_1000 ⟨(Nat.le_of_ble_eq_true rfl), (Nat.le_of_ble_eq_true rfl)⟩) (fun H1 locs hP1 hS hk1 => ?_)
                                                              have hP : va_P (zD v) vwCl (zL ab v (q210.2, x.2.2)) H1 := zl_backX hc (G := x.2) hP hP1 hk1
                                                              generalize H1 = H at hP hS ⊢
                                                              refine lv_aload_n hx hb dL_law_1003 rfl (lv_at hl 2 rfl) ?_
                                                              refine lv_aload_n hx hb dL_law_1004 rfl (lv_at hl 0 rfl) ?_
                                                              refine lv_iload_n hx hb dL_law_1005 rfl (lv_at hl 3 rfl) ?_
                                                              refine lv_iconst (v := 1) hx hb dL_law_1006 kI_1 ?_
                                                              refine lv_iadd hx hb dL_law_1007 ?_
                                                              obtain ⟨c211, hf⟩ := gd_e hf
                                                              refine va_sld hx hb hX hbl hbA hS (inb_in c211) dL_law_1008 ?_
                                                              refine lv_aload_n hx hb dL_law_1009 rfl (lv_at hl 0 rfl) ?_
                                                              refine lv_iload_n hx hb dL_law_1010 rfl (lv_at hl 3 rfl) ?_
                                                              refine lv_iconst (v := 2) hx hb dL_law_1011 kI_2 ?_
                                                              refine lv_iadd hx hb dL_law_1012 ?_
                                                              obtain ⟨c212, hf⟩ := gd_e hf
                                                              refine va_sld hx hb hX hbl hbA hS (inb_in c212) dL_law_1013 ?_
                                                              refine lv_aload_n hx hb dL_law_1014 rfl (lv_at hl 0 rfl) ?_
                                                              refine lv_iload_n hx hb dL_law_1015 rfl (lv_at hl 3 rfl) ?_
                                                              refine lv_iconst (v := 3) hx hb dL_law_1016 kI_3 ?_
                                                              refine lv_iadd hx hb dL_law_1017 ?_
                                                              obtain ⟨c213, hf⟩ := gd_e hf
                                                              refine va_sld hx hb hX hbl hbA hS (inb_in c213) dL_law_1018 ?_
                                                              refine lv_aload_n hx hb dL_law_1019 rfl (lv_at hl 0 rfl) ?_
                                                              refine lv_iload_n hx hb dL_law_1020 rfl (lv_at hl 3 rfl) ?_
                                                              refine lv_iconst (v := 4) hx hb dL_law_1021 kI_4 ?_
                                                              refine lv_iadd hx hb dL_law_1022 ?_
                                                              obtain ⟨c214, hf⟩ := gd_e hf
                                                              refine va_sld hx hb hX hbl hbA hS (inb_in c214) dL_law_1023 ?_
                                                              obtain ⟨q215, eq215, hf⟩ := bd_e hf
                                                              refine zkic (w := pM) (v := (vb v ab)) (cl_M hc) hS (zrVc (w := pM) (v := (vb v ab)) (u := x.2.2) (As := [.int (xs ((x.1 + (1 : Int32))).toNatClampNeg), .int (xs ((x.1 + (2 : Int32))).toNatClampNeg), .int (xs ((x.1 + (3 : Int32))).toNatClampNeg), .int (xs ((x.1 + (4 : Int32))).toNatClampNeg)]) (rest := [.int q210.1]) okM hx hb hml hown hts hc.2.1 (va_P_r hP) hS (fun q h1 h2 => absurd h1 (Nat.not_lt.mpr h2)) (t_X8_town l (vb v ab) N (xs ((x.1 + (1 : Int32))).toNatClampNeg) (xs ((x.1 + (2 : Int32))).toNatClampNeg) (xs ((x.1 + (3 : Int32))).toNatClampNeg) (xs ((x.1 + (4 : Int32))).toNatClampNeg) x.2.2 _ eq215) vk_X8_town ml_L_127 rfl rfl ⟨(Nat.le_of_ble_eq_true rfl), (Nat.le_of_ble_eq_true rfl)⟩ (zlr_M hP hc) rfl hl.1 rfl (Nat.le_of_ble_eq_true rfl) dL_law_1024 ⟨(Nat.le_of_ble_eq_true rfl), (Nat.le_of_ble_eq_true rfl)⟩) (fun H1 locs hP1 hS hk1 => ?_)
                                                              have hP : va_P (zD v) vwCl (zL ab v (q210.2, q215.2)) H1 := zl_backM hc (G := (q210.2, x.2.2)) hP hP1 hk1
                                                              generalize H1 = H at hP hS ⊢
                                                              refine lv_icmp_eq (tgt := 1065) hx hb dL_law_1027 (by decide) (fun c216 => ?_) (fun c216 => ?_)
                                                              · have hf := ite_t c216 hf
                                                                exact wb1065 h18 hh18 x.1 (q210.2, q215.2) hf _ _ _ hP hS (lv_sub hl [0, 1, 2, 3] rfl)
                                                              · have hf := ite_f c216 hf
                                                                exact nn_e hf
                                                            · have hf := ite_f c205 hf
                                                              by_cases c217 : ((((xs (x.1).toNatClampNeg) &&& (31 : Int32))).toInt - (0)).toNat = 27
                                                              · have hf := ite_t c217 hf
                                                                refine lv_tableIn (tgt := 1032) hx hb dL_law_33 (fun h => c3 (Or.inl h)) (fun h => c3 (Or.inr h)) (by rw [c217]; rfl) (by decide) ?_
                                                                refine lv_aload_n hx hb dL_law_1032 rfl (lv_at hl 1 rfl) ?_
                                                                refine lv_aload_n hx hb dL_law_1033 rfl (lv_at hl 0 rfl) ?_
                                                                refine lv_iload_n hx hb dL_law_1034 rfl (lv_at hl 3 rfl) ?_
                                                                refine lv_iconst (v := 1) hx hb dL_law_1035 kI_1 ?_
                                                                refine lv_iadd hx hb dL_law_1036 ?_
                                                                obtain ⟨c218, hf⟩ := gd_e hf
                                                                refine va_sld hx hb hX hbl hbA hS (inb_in c218) dL_law_1037 ?_
                                                                refine lv_aload_n hx hb dL_law_1038 rfl (lv_at hl 0 rfl) ?_
                                                                refine lv_iload_n hx hb dL_law_1039 rfl (lv_at hl 3 rfl) ?_
                                                                refine lv_iconst (v := 2) hx hb dL_law_1040 kI_2 ?_
                                                                refine lv_iadd hx hb dL_law_1041 ?_
                                                                obtain ⟨c219, hf⟩ := gd_e hf
                                                                refine va_sld hx hb hX hbl hbA hS (inb_in c219) dL_law_1042 ?_
                                                                obtain ⟨q220, eq220, hf⟩ := bd_e hf
                                                                refine zkic (w := pX) (v := v) (cl_X hc) hS (zrVc (w := pX) (v := v) (u := x.2.1) (As := [.int (xs ((x.1 + (1 : Int32))).toNatClampNeg), .int (xs ((x.1 + (2 : Int32))).toNatClampNeg)]) (rest := []) okX hx hb hml hown hts hc.1 (va_P_l hP) hS (fun q h1 h2 => absurd h1 (Nat.not_lt.mpr h2)) (t_X7_taken l v N (xs ((x.1 + (1 : Int32))).toNatClampNeg) (xs ((x.1 + (2 : Int32))).toNatClampNeg) x.2.1 _ eq220) vk_X7_taken ml_L_128 rfl rfl ⟨(Nat.le_of_ble_eq_true rfl), (Nat.le_of_ble_eq_true rfl)⟩ (zlr_X hP hc) rfl hl.1 rfl (Nat.le_of_ble_eq_true rfl) dL_law_1043 ⟨(Nat.le_of_ble_eq_true rfl), (Nat.le_of_ble_eq_true rfl)⟩) (fun H1 locs hP1 hS hk1 => ?_)
                                                                have hP : va_P (zD v) vwCl (zL ab v (q220.2, x.2.2)) H1 := zl_backX hc (G := x.2) hP hP1 hk1
                                                                generalize H1 = H at hP hS ⊢
                                                                refine lv_aload_n hx hb dL_law_1046 rfl (lv_at hl 2 rfl) ?_
                                                                refine lv_aload_n hx hb dL_law_1047 rfl (lv_at hl 0 rfl) ?_
                                                                refine lv_iload_n hx hb dL_law_1048 rfl (lv_at hl 3 rfl) ?_
                                                                refine lv_iconst (v := 1) hx hb dL_law_1049 kI_1 ?_
                                                                refine lv_iadd hx hb dL_law_1050 ?_
                                                                obtain ⟨c221, hf⟩ := gd_e hf
                                                                refine va_sld hx hb hX hbl hbA hS (inb_in c221) dL_law_1051 ?_
                                                                refine lv_aload_n hx hb dL_law_1052 rfl (lv_at hl 0 rfl) ?_
                                                                refine lv_iload_n hx hb dL_law_1053 rfl (lv_at hl 3 rfl) ?_
                                                                refine lv_iconst (v := 2) hx hb dL_law_1054 kI_2 ?_
                                                                refine lv_iadd hx hb dL_law_1055 ?_
                                                                obtain ⟨c222, hf⟩ := gd_e hf
                                                                refine va_sld hx hb hX hbl hbA hS (inb_in c222) dL_law_1056 ?_
                                                                obtain ⟨q223, eq223, hf⟩ := bd_e hf
                                                                refine zkic (w := pM) (v := (vb v ab)) (cl_M hc) hS (zrVc (w := pM) (v := (vb v ab)) (u := x.2.2) (As := [.int (xs ((x.1 + (1 : Int32))).toNatClampNeg), .int (xs ((x.1 + (2 : Int32))).toNatClampNeg)]) (rest := [.int q220.1]) okM hx hb hml hown hts hc.2.1 (va_P_r hP) hS (fun q h1 h2 => absurd h1 (Nat.not_lt.mpr h2)) (t_X8_taken l (vb v ab) N (xs ((x.1 + (1 : Int32))).toNatClampNeg) (xs ((x.1 + (2 : Int32))).toNatClampNeg) x.2.2 _ eq223) vk_X8_taken ml_L_131 rfl rfl ⟨(Nat.le_of_ble_eq_true rfl), (Nat.le_of_ble_eq_true rfl)⟩ (zlr_M hP hc) rfl hl.1 rfl (Nat.le_of_ble_eq_true rfl) dL_law_1057 ⟨(Nat.le_of_ble_eq_true rfl), (Nat.le_of_ble_eq_true rfl)⟩) (fun H1 locs hP1 hS hk1 => ?_)
                                                                have hP : va_P (zD v) vwCl (zL ab v (q220.2, q223.2)) H1 := zl_backM hc (G := (q220.2, x.2.2)) hP hP1 hk1
                                                                generalize H1 = H at hP hS ⊢
                                                                refine lv_icmp_eq (tgt := 1065) hx hb dL_law_1060 (by decide) (fun c224 => ?_) (fun c224 => ?_)
                                                                · have hf := ite_t c224 hf
                                                                  exact wb1065 h18 hh18 x.1 (q220.2, q223.2) hf _ _ _ hP hS (lv_sub hl [0, 1, 2, 3] rfl)
                                                                · have hf := ite_f c224 hf
                                                                  exact nn_e hf
                                                              · have hf := ite_f c217 hf
                                                                exact nn_e hf
  unfold x_L_law at hf
  exact wL18 N (a3, g) hf _ _ _ hP hS (lv_sub hl [0, 1, 2, 3] rfl)
