/-! MODELS: what a method's model is made of -/
def gd {α : Type} (b : Bool) (x : Option α) : Option α := match b with
  | true => x
  | false => none
theorem gdE {α : Type} {b : Bool} {x : Option α} {r : α} (h : gd b x = some r) : b = true ∧ x = some r := by
  cases b with
  | true => exact ⟨rfl, h⟩
  | false => cases h
theorem bindE {α β : Type} {x : Option α} {f : α → Option β} {r : β} (h : x.bind f = some r) : ∃ o, x = some o ∧ f o = some r := by
  cases x with
  | none => cases h
  | some o => exact ⟨o, rfl, h⟩
theorem ipos {α : Sort _} {c : Prop} {d : Decidable c} {a b r : α} (h : c) (hm : (@ite _ c d a b) = r) : a = r := by
  rw [if_pos h] at hm; exact hm
theorem ineg {α : Sort _} {c : Prop} {d : Decidable c} {a b r : α} (h : ¬ c) (hm : (@ite _ c d a b) = r) : b = r := by
  rw [if_neg h] at hm; exact hm
def inb (i : Int32) (n : Nat) : Bool := decide (¬ (i < 0 ∨ n ≤ i.toNatClampNeg))
theorem inbE {i : Int32} {n : Nat} (h : inb i n = true) : vp_in i n := of_decide_eq_true (p := ¬ (i < 0 ∨ n ≤ i.toNatClampNeg)) h
def nz (y : Int32) : Bool := decide (¬ y = 0)
def nzL (y : Int64) : Bool := decide (¬ y = 0)
def isB (v : Int32) : Bool := decide (narrow .boolean (.int v) = .int v)
def isBy (v : Int32) : Bool := decide (narrow .byte (.int v) = .int v)
def ushr (x y : Int32) : Int32 := (x.toUInt32 >>> (y.toUInt32 &&& Int32.toUInt32 31)).toInt32
def lushr (x : Int64) (y : Int32) : Int64 := (x.toUInt64 >>> (y.toInt64.toUInt64 &&& Int64.toUInt64 63)).toInt64
def lshl (x : Int64) (y : Int32) : Int64 := x <<< (y.toInt64 &&& 63)
def lshr (x : Int64) (y : Int32) : Int64 := x >>> (y.toInt64 &&& 63)
def cpyok (sp dp n : Int32) (n0 n1 : Nat) : Bool := decide (¬ sp < 0 ∧ ¬ dp < 0 ∧ ¬ n < 0 ∧ sp.toNatClampNeg + n.toNatClampNeg ≤ n0 ∧ dp.toNatClampNeg + n.toNatClampNeg ≤ n1)
def iter {F : Type} (z : F) (b : F → F) : Nat → F
  | 0 => z
  | n + 1 => b (iter z b n)
