theorem sh_amt : ∀ a, a < 32 → ((nI a &&& 31).toBitVec.smod 32).toNat = a := by decide +kernel
theorem bit_eq {q a : Nat} (hq : q < 2 ^ 31) (ha : a < 31) : (nI q >>> (nI a &&& 31)) &&& 1 = nI (q / 2 ^ a % 2) := by
  rw [pk_shrN hq _ a (sh_amt a (by omega))]
  exact pk_andN (Nat.lt_of_le_of_lt (Nat.div_le_self _ _) (by omega)) 1 (by decide)
theorem and_eq {a b : Nat} (ha : a < 128) (hb : b < 128) : nI a &&& nI b = nI (a &&& b) := by
  have h : ∀ a, a < 128 → ∀ b, b < 128 → nI a &&& nI b = nI (a &&& b) := by decide +kernel
  exact h a ha b hb
/-- of each variable the source of its value, three bits each -/
def srcM (mm x : Nat) : Nat := mm / 8 ^ x % 8
theorem srcM_eq : ∀ mm, mm < 512 → ∀ x, x < 3 → (nI mm >>> (nI (3 * x) &&& 31)) &&& 7 = nI (srcM mm x) := by decide +kernel
def putM (mm x a : Nat) : Nat := mm - srcM mm x * 8 ^ x + (a + 1) * 8 ^ x
theorem putM_eq : ∀ mm, mm < 512 → ∀ x, x < 3 → ∀ a, a < 7 → (nI mm &&& (((7 : Int32) <<< (nI (3 * x) &&& 31)) ^^^ (-1))) ||| (nI (a + 1) <<< (nI (3 * x) &&& 31)) = nI (putM mm x a) := by decide +kernel
