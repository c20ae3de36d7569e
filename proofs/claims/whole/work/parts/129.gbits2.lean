def andn (a b : Nat) : Nat := a - (a &&& b)
theorem andn_eq : ∀ a, a < 128 → ∀ b, b < 128 → nI a &&& (nI b ^^^ (-1)) = nI (andn a b) := by decide +kernel
theorem andn_lt {a b : Nat} (h : a < 128) : andn a b < 128 := Nat.lt_of_le_of_lt (Nat.sub_le _ _) h
theorem or_eq : ∀ a, a < 128 → ∀ b, b < 128 → nI a ||| nI b = nI (a ||| b) := by decide +kernel
theorem bef_eq : ∀ a, a < 128 → ∀ b, b < 7 → nI a &&& (((1 : Int32) <<< (nI b &&& 31)) - 1) = nI (a % 2 ^ b) := by decide +kernel
theorem aft_eq : ∀ a, a < 128 → ∀ b, b < 7 → nI a &&& ((((2 : Int32) <<< (nI b &&& 31)) - 1) ^^^ (-1)) = nI (a - a % 2 ^ (b + 1)) := by decide +kernel
def rivS (k onV ofT reads adds : Nat) : Nat := if 4 ≤ k then 0 else if k = 0 then andn (andn onV ofT) reads else if k = 3 then andn (andn onV ofT) adds else andn onV ofT
def pop7 (q : Nat) : Nat := q % 2 + q / 2 % 2 + q / 4 % 2 + q / 8 % 2 + q / 16 % 2 + q / 32 % 2 + q / 64 % 2
