theorem lcL {x y : Int64} {z : Int32} (h : z = lg_cmp x y) : z < 0 ↔ x < y := by
  subst h; unfold lg_cmp
  by_cases h1 : x > y
  · rw [if_pos h1]
    exact ⟨fun q => absurd q (by decide), fun q => (Int64.lt_irrefl (Int64.lt_trans q h1)).elim⟩
  · rw [if_neg h1]
    by_cases h2 : x = y
    · rw [if_pos (by simp [h2])]; exact ⟨fun q => absurd q (by decide), fun q => (Int64.lt_irrefl (h2 ▸ q)).elim⟩
    · rw [if_neg (by simp [h2])]
      refine ⟨fun _ => ?_, fun _ => by decide⟩
      rcases Int64.lt_or_le x y with h | h
      · exact h
      · rcases Int64.lt_or_eq_of_le h with h3 | h3
        · exact absurd h3 h1
        · exact absurd h3.symm h2
/-- a row of outcomes ahead of a key -/
def ltK (r : Int64) (v : Int32) (rk : Int64) (vk : Int32) : Prop := r < rk ∨ (r = rk ∧ v < vk)
def updN (g : Nat → Nat) (k v : Nat) : Nat → Nat := fun i => if i = k then v else g i
theorem upd_nI {g : Nat → Nat} {k v : Nat} : upd (fun i => nI (g i)) k (nI v) = fun i => nI (updN g k v i) := by
  funext i; simp only [upd, updN]; split <;> rfl
theorem cpy_nI {g : Nat → Nat} {C : Nat} : va_cpy (fun i => nI (g i)) (fun _ => 0) 0 0 C = fun i => nI (if i < C then g i else 0) := by
  funext i
  by_cases h : i < C
  · rw [pk_cpy_in (Nat.zero_le _) (by omega), if_pos h]; congr 2; omega
  · rw [pk_cpy_out (by omega), if_neg h]; rfl
/-- k values from the place p on move one on -/
def shN (g : Nat → Nat) (p k : Nat) : Nat → Nat := fun i => if p + 1 ≤ i ∧ i < p + 1 + k then g (i - 1) else g i
theorem cpy_sh {g : Nat → Nat} {p k : Nat} : va_cpy (fun i => nI (g i)) (fun i => nI (g i)) p (p + 1) k = fun i => nI (shN g p k i) := by
  funext i
  by_cases h : p + 1 ≤ i ∧ i < p + 1 + k
  · rw [pk_cpy_in h.1 h.2, shN, if_pos h]; congr 2; omega
  · rw [pk_cpy_out (by omega), shN, if_neg h]
