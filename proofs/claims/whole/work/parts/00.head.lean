/-! the store of a world: cell, place, int; the long of the reference beside it -/
abbrev Sg : Type := Nat → Nat → Int32
abbrev SM : Type := Sg × Int64
def up (g : Sg) (i : Nat) (f : Nat → Int32) : Sg := fun j => if j = i then f else g j
/-- the tables' numbers: classes; classes of int[], boolean[], int[][]; the cells' addresses; the constants' addresses -/
abbrev Ev : Type := va_G × (Nat → ClassId) × (Nat → Nat) × (Nat → Nat)
abbrev zD (v : Ev) : va_G := v.1
def zC (v : Ev) : Nat → ClassId := v.2.1
def zA (v : Ev) : Nat → Nat := v.2.2.1
def zT (v : Ev) : Nat → Nat := v.2.2.2
abbrev zY (v : Ev) : List (ClassId × FieldType) := [(zC v 0, .int), (zC v 1, .boolean), (zC v 2, .array .int)]
/-! what the models of the methods are made of -/
def lt {α β : Type} (x : α) (f : α → β) : β := f x
theorem lt_e {α β : Type} {x : α} {f : α → β} {r : β} (h : lt x f = r) : ∃ y, y = x ∧ f y = r := ⟨x, rfl, h⟩
theorem bd_e {α β : Type} {o : Option α} {f : α → Option β} {r : β} (h : o.bind f = some r) : ∃ q, o = some q ∧ f q = some r := by
  cases o with
  | none => cases h
  | some q => exact ⟨q, rfl, h⟩
theorem ite_t {α : Type} {c : Prop} [Decidable c] {A B r : α} (h : c) (hf : ite c A B = r) : A = r := (if_pos h).symm.trans hf
theorem ite_f {α : Type} {c : Prop} [Decidable c] {A B r : α} (h : ¬ c) (hf : ite c A B = r) : B = r := (if_neg h).symm.trans hf
theorem gd_e {α : Type} {c : Prop} [Decidable c] {A : Option α} {r : α} (hf : ite c A none = some r) : c ∧ A = some r := by
  by_cases h : c
  · exact ⟨h, ite_t h hf⟩
  · rw [if_neg h] at hf
    cases hf
theorem nn_e {α : Type} {r : α} {P : Prop} (h : (none : Option α) = some r) : P := by cases h
def inb (i : Int32) (n : Nat) : Bool := !decide (i < 0) && decide (i.toNatClampNeg < n)
theorem inb_in {i : Int32} {n : Nat} (h : inb i n = true) : vp_in i n := by
  unfold inb at h
  simp only [Bool.and_eq_true, Bool.not_eq_true', decide_eq_false_iff_not, decide_eq_true_eq] at h
  intro q
  rcases q with q | q
  · exact h.1 q
  · exact absurd h.2 (Nat.not_lt.mpr q)
def lp {α β : Type} (F : (α → Option β) → α → Option β) : Nat → α → Option β
  | 0, _ => none
  | n + 1, x => F (lp F n) x
theorem lp_w {α β : Type} {F : (α → Option β) → α → Option β} {res : β} {P : α → Prop} (step : ∀ h : α → Option β, (∀ x, h x = some res → P x) → ∀ x, F h x = some res → P x) : ∀ (n : Nat) (x : α), lp F n x = some res → P x := by
  intro n
  induction n with
  | zero => intro x h; cases h
  | succ n ih => intro x h; exact step _ ih x h
def tLOW : List Int32 := [0, 0, 0, 0, 0, -9, 0]
def tHIGH : List Int32 := [99, 99, 23, 9, 9, 9, 1048575]
def tUNDER : List Int32 := [-1, 0, 0, 1, 2, 0]
def tBOUNDS : List Int32 := [-4, -1, 5, 9, -4, -1, 5, 9, -4, -1, 5, 9, -4, 5, 9, 1000, -4, -1, 5, 9, -4, -1, 9, 9]
def txRULE : String := "swells ( 12 < hour ) * 3 ; rubs apart ; price 20 + size ;"
def txSIGNS : String := "();+-*<="
def txWORDS : String := "swellsrubs  price or    and   not   size  make  apart numberfoot  hour  "
def byRULE : List Int32 := [115, 119, 101, 108, 108, 115, 32, 40, 32, 49, 50, 32, 60, 32, 104, 111, 117, 114, 32, 41, 32, 42, 32, 51, 32, 59, 32, 114, 117, 98, 115, 32, 97, 112, 97, 114, 116, 32, 59, 32, 112, 114, 105, 99, 101, 32, 50, 48, 32, 43, 32, 115, 105, 122, 101, 32, 59]
def bySIGNS : List Int32 := [40, 41, 59, 43, 45, 42, 60, 61]
def byWORDS : List Int32 := [115, 119, 101, 108, 108, 115, 114, 117, 98, 115, 32, 32, 112, 114, 105, 99, 101, 32, 111, 114, 32, 32, 32, 32, 97, 110, 100, 32, 32, 32, 110, 111, 116, 32, 32, 32, 115, 105, 122, 101, 32, 32, 109, 97, 107, 101, 32, 32, 97, 112, 97, 114, 116, 32, 110, 117, 109, 98, 101, 114, 102, 111, 111, 116, 32, 32, 104, 111, 117, 114, 32, 32]
def mxI (x y : Int32) : Int32 := if x < y then y else x
def mnI (x y : Int32) : Int32 := if y < x then y else x
def abI (x : Int32) : Int32 := if 0 ≤ x then x else 0 - x
def rmI (x y : Int32) : Int32 := x - x / y * y
def rmL (x y : Int64) : Int64 := x - x / y * y
def acb (sp dp n : Int32) (n0 n1 : Nat) : Bool := !decide (sp < 0) && !decide (dp < 0) && !decide (n < 0) && decide (sp.toNatClampNeg + n.toNatClampNeg ≤ n0) && decide (dp.toNatClampNeg + n.toNatClampNeg ≤ n1)
/-! (the library's own words on rows of rows, named here so that every round reads the whole library from its first part on) -/
theorem hz_fill (s : State) (c comp : ClassId) (N M : Nat) (dv : Value) (i j : Nat) (h : j < i) : (Jvm.Free.Multi.fill s c comp N M dv i).heap[s.heap.size + 1 + j]? = some (Jvm.Free.Multi.innerC comp M dv) := Jvm.Free.Multi.fill_inner s c comp N M dv i j h
