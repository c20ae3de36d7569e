def clr (d a : Nat) : Nat := if d.testBit a then d - 2 ^ a else d
theorem clr_eq : ∀ d, d < 128 → ∀ a, a < 7 → nI d &&& (((1 : Int32) <<< (nI a &&& 31)) ^^^ (-1)) = nI (clr d a) := by decide +kernel
theorem set_eq : ∀ d, d < 128 → ∀ a, a < 7 → nI d ||| ((1 : Int32) <<< (nI a &&& 31)) = nI (d ||| 2 ^ a) := by decide +kernel
def srcU (so : Int64) (a : Nat) : Int64 := so &&& (((7 : Int64) <<< ((nI (3 * a)).toInt64 &&& 63)) ^^^ (-1))
def srcP (so : Int64) (q a : Nat) : Int64 := so ||| ((nI q).toInt64 <<< ((nI (3 * a)).toInt64 &&& 63))
def keyP (so : Int64) (dn : Nat) : Int64 := (so <<< ((7 : Int32).toInt64 &&& 63)) ||| (nI dn).toInt64
