/-! the sets of sizes, each behind the one before it -/
def ntzA (y0 y1 : Int32) : Int32 := y1 + (((y0).toUInt32 >>> (((1 : Int32)).toUInt32 &&& Int32.toUInt32 31)).toInt32)
def ntzB (y0 y1 : Int32) : Int32 := if y0 ≤ (4 : Int32) then ntzA y0 y1 else ntzA (((y0).toUInt32 >>> (((2 : Int32)).toUInt32 &&& Int32.toUInt32 31)).toInt32) (y1 + 2)
def ntzC (y0 y1 : Int32) : Int32 := if y0 ≤ (16 : Int32) then ntzB y0 y1 else ntzB (((y0).toUInt32 >>> (((4 : Int32)).toUInt32 &&& Int32.toUInt32 31)).toInt32) (y1 + 4)
def ntzD (y0 y1 : Int32) : Int32 := if y0 ≤ (256 : Int32) then ntzC y0 y1 else ntzC (((y0).toUInt32 >>> (((8 : Int32)).toUInt32 &&& Int32.toUInt32 31)).toInt32) (y1 + 8)
def ntzE (a : Int32) : Int32 := if 0 < (a ^^^ (-1 : Int32)) &&& (a - 1) then (if (a ^^^ (-1 : Int32)) &&& (a - 1) ≤ (65536 : Int32) then ntzD ((a ^^^ (-1 : Int32)) &&& (a - 1)) 1 else ntzD (((((a ^^^ (-1 : Int32)) &&& (a - 1))).toUInt32 >>> (((16 : Int32)).toUInt32 &&& Int32.toUInt32 31)).toInt32) (1 + 16)) else ((a ^^^ (-1 : Int32)) &&& (a - 1)) &&& 32
def gos (a : Int32) : Int32 := if 0 < a then (a + (a &&& (-a))) ||| ((a ^^^ (a + (a &&& (-a)))) >>> ((2 + ntzE a) &&& 31)) else 1048576
theorem c_next (N : Nat) (a : Int32) (g : Sg) : x_X7_nextSet N a g = some (gos a, g) := by
  have hA : ∀ (y0 y1 : Int32), x_J6_numberOfTrailingZeros_0f7a4_b74 N y0 y1 g = some (ntzA y0 y1, g) := fun _ _ => rfl
  have hB : ∀ (y0 y1 : Int32), x_J6_numberOfTrailingZeros_0f7a4_b62 N y0 y1 g = some (ntzB y0 y1, g) := by
    intro y0 y1
    unfold x_J6_numberOfTrailingZeros_0f7a4_b62 ntzB
    simp only [lt, hA]
    split <;> rfl
  have hC : ∀ (y0 y1 : Int32), x_J6_numberOfTrailingZeros_0f7a4_b49 N y0 y1 g = some (ntzC y0 y1, g) := by
    intro y0 y1
    unfold x_J6_numberOfTrailingZeros_0f7a4_b49 ntzC
    simp only [lt, hB]
    split <;> rfl
  have hD : ∀ (y0 y1 : Int32), x_J6_numberOfTrailingZeros_0f7a4_b34 N y0 y1 g = some (ntzD y0 y1, g) := by
    intro y0 y1
    unfold x_J6_numberOfTrailingZeros_0f7a4_b34 ntzD
    simp only [lt, hC]
    split <;> rfl
  have hE : x_J6_numberOfTrailingZeros_0f7a4 N a g = some (ntzE a, g) := by
    unfold x_J6_numberOfTrailingZeros_0f7a4 ntzE
    simp only [lt, hD]
    split
    · split <;> rfl
    · rfl
  unfold x_X7_nextSet gos
  simp only [lt, hE, Option.bind_some]
  split <;> rfl
def cx1 : List Nat := (List.range 20).map (fun c => 2 ^ c)
def cx2 : List Nat := (List.range 20).flatMap (fun c => (List.range c).map (fun b => 2 ^ b ||| 2 ^ c))
def cx3 : List Nat := (List.range 20).flatMap (fun c => (List.range c).flatMap (fun b => (List.range b).map (fun a => (2 ^ a ||| 2 ^ b) ||| 2 ^ c)))
/-- each one's next is the one behind it, and the last one's is beyond all -/
def chk : List Nat → Bool
  | [] => true
  | s :: r => (match r with | [] => decide ((1048575 : Int32) < gos (Int32.ofNat s)) | t :: _ => decide (gos (Int32.ofNat s) = Int32.ofNat t) && decide (s < t)) && chk r
theorem chk1 : chk cx1 = true := by decide +kernel
theorem chk2 : chk cx2 = true := by decide +kernel
theorem chk3 : chk cx3 = true := by decide +kernel
