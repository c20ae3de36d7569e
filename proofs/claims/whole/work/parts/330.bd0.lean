/-- how many smaller ones of other threads -/
def othN (t : Nat) : List Nat → Nat
  | [] => 0
  | u :: l => (if u = t then 0 else 1) + othN t l
/-- the writers' threads, the last one first: the product of the choices -/
def prdW : List Nat → Nat
  | [] => 1
  | t :: l => (1 + othN t l) * prdW l
/-- all rows of n threads' numbers -/
def allL : Nat → List (List Nat)
  | 0 => [[]]
  | n + 1 => (allL n).flatMap (fun l => [0 :: l, 1 :: l, 2 :: l, 3 :: l])
theorem allL_mem : ∀ (l : List Nat), (∀ t, t ∈ l → t < 4) → l ∈ allL l.length
  | [], _ => List.mem_singleton.mpr rfl
  | t :: l, h => by
    have ih := allL_mem l (fun u hu => h u (List.mem_cons_of_mem _ hu))
    have ht := h t (List.mem_cons_self ..)
    show t :: l ∈ (allL l.length).flatMap _
    rw [List.mem_flatMap]
    refine ⟨l, ih, ?_⟩
    rcases (by omega : t = 0 ∨ t = 1 ∨ t = 2 ∨ t = 3) with rfl | rfl | rfl | rfl <;> simp
theorem prd_bd : ∀ w, w < 8 → (allL w).all (fun l => prdW l * (1 + w) ^ (7 - w) ≤ 4000) = true := by decide +kernel
/-- the number of ends of a program with w writers, r others: at most 4000 -/
theorem prd_4000 {l : List Nat} {r : Nat} (h4 : ∀ t, t ∈ l → t < 4) (h : l.length + r ≤ 7) : prdW l * (1 + l.length) ^ r ≤ 4000 := by
  have h1 := prd_bd l.length (by omega)
  rw [List.all_eq_true] at h1
  have h2 := of_decide_eq_true (h1 l (allL_mem l h4))
  refine Nat.le_trans (Nat.mul_le_mul_left _ ?_) h2
  exact Nat.pow_le_pow_right (by omega) (by omega)
