/-! the first rule, read -/
def g57 : Sg := fun j => if j = 21 then (fun p => byRULE.getD p 0) else if j = 3 then (fun k => if k = 1 then 57 else 0) else fun _ => 0
def g64 : Sg := fun j => if j = 21 then (fun p => if p < 57 then byRULE.getD p 0 else 32) else if j = 3 then (fun k => if k = 1 then 64 else 0) else fun _ => 0
def st57 : List Int32 := [112, 11, 18, 103, 17, 8, 120, 6, 15]
def sa57 : List Int32 := [0, 5, 6, 9]
def rdOk (g : Sg) : Bool := match x_X2_read 1200 g with
  | some r => decide (r.1 = -1) && (List.range 160).all (fun i => decide (r.2 24 i = st57.getD i 0)) && (List.range 4).all (fun q => decide (r.2 25 q = sa57.getD q 0))
  | none => false
theorem rd57 : rdOk g57 = true := by decide +kernel
theorem rd64 : rdOk g64 = true := by decide +kernel
def srtP : Nat → Int32 := upd (upd (upd (upd (fun _ => 0) (0 : Int32).toNatClampNeg (-1)) (1 : Int32).toNatClampNeg (-1)) (2 : Int32).toNatClampNeg (-1)) (3 : Int32).toNatClampNeg (-1)
def gzP : Sg := fun i => if i = 1 then (fun k => if k = 0 then 40 else if k = 1 then 40 else if k = 2 then 9 else 0) else if i = 2 then (fun k => if k = 0 then 40 else if k = 1 then 40 else if k = 2 then 9 else 0) else if i = 30 then srtP else fun _ => 0
def gmP : Sg := fun i => if i = 0 then (fun k => if k = 7 then 40 else if k = 8 then 40 else if k = 9 then 9 else if k = 46 then -1 else 0) else fun _ => 0
def stOk : Bool := match x_X7_init 1200 gzP, x_X8_init 1200 (gmP, 0) with
  | some g, some S => decide (g 1 0 = 40) && decide (g 1 1 = 40) && decide (g 1 2 = 9) && decide (g 1 3 = 0) && decide (g 1 4 = 0) && decide (S.1 0 7 = 40) && decide (S.1 0 8 = 40) && decide (S.1 0 9 = 9) && decide (S.1 0 4 = 0) && decide (S.1 0 15 = 0) && decide (g 0 2 = 0) && decide (S.1 0 46 = -1) && decide (g 3 1 = 0) && decide (S.1 0 6 = 0) && decide (g 4 0 = 1) && decide (S.1 0 3 = 1) && decide (S.1 2 0 = 64) && (List.range 100).all (fun f => decide (g 11 f = 0) && decide (S.1 4 f = 0)) && (List.range 5).all (fun m => decide (g 13 m = 0) && decide (g 14 m = 0) && decide (g 15 m = 0) && decide (S.1 6 m = 0) && decide (S.1 7 m = 0) && decide (S.1 8 m = 0)) && (List.range 4).all (fun k => decide (g 30 k = -1) && decide (S.1 18 k = 0)) && (List.range 160).all (fun i => decide (g 26 i = st57.getD i 0)) && (List.range 4).all (fun q => decide (g 27 q = sa57.getD q 0)) && (List.range 64).all (fun p => decide (S.1 1 p = (if p < 57 then byRULE.getD p 0 else 32)))
  | _, _ => false
theorem stOk_ok : stOk = true := by decide +kernel
