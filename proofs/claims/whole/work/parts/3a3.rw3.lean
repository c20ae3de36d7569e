section RD3
variable {pg : Nat → Nat → Nat} {fm : Nat → Nat} {M : Nat}
theorem rd_bit9 {q a : Nat} : ∀ n, (rdN pg fm M n q).testBit a = true ↔ a < n ∧ M.testBit a = true ∧ tkr9 pg a ∧ 1 < fm a ∧ fm a - 1 = q
  | 0 => by
    show Nat.testBit 0 a = true ↔ _
    rw [Nat.zero_testBit]
    exact ⟨fun h => absurd h Bool.false_ne_true, fun h => absurd h.1 (Nat.not_lt_zero a)⟩
  | n + 1 => by
    have e : rdN pg fm M (n + 1) = if M / 2 ^ n % 2 = 1 ∧ (pg 4 n = 0 ∨ pg 4 n = 3) then nrR fm n (rdN pg fm M n) else rdN pg fm M n := rfl
    rw [e]
    have up : (a < n ∧ M.testBit a = true ∧ tkr9 pg a ∧ 1 < fm a ∧ fm a - 1 = q) → (a < n + 1 ∧ M.testBit a = true ∧ tkr9 pg a ∧ 1 < fm a ∧ fm a - 1 = q) := fun h => ⟨by omega, h.2⟩
    by_cases c : M / 2 ^ n % 2 = 1 ∧ (pg 4 n = 0 ∨ pg 4 n = 3)
    · rw [if_pos c]
      unfold nrR
      by_cases f : 1 < fm n
      · rw [if_pos f]
        by_cases eq : q = fm n - 1
        · rw [eq, updN_s, or_b9, ← eq, rd_bit9 n]
          constructor
          · rintro (h | h)
            · exact up h
            · rw [← h]; exact ⟨by omega, tb_div.mp c.1, c.2, f, eq.symm⟩
          · rintro ⟨h1, h2⟩
            by_cases w : n = a
            · exact Or.inr w
            · exact Or.inl ⟨by omega, h2⟩
        · rw [updN_n eq, rd_bit9 n]
          refine ⟨up, fun ⟨h1, h2⟩ => ⟨?_, h2⟩⟩
          by_cases w : a = n
          · rw [w] at h2; exact absurd h2.2.2.2.symm eq
          · omega
      · rw [if_neg f, rd_bit9 n]
        refine ⟨up, fun ⟨h1, h2⟩ => ⟨?_, h2⟩⟩
        by_cases w : a = n
        · rw [w] at h2; exact absurd h2.2.2.1 f
        · omega
    · rw [if_neg c, rd_bit9 n]
      refine ⟨up, fun ⟨h1, h2⟩ => ⟨?_, h2⟩⟩
      by_cases w : a = n
      · rw [w] at h2; exact absurd ⟨tb_div.mpr h2.1, h2.2.1⟩ c
      · omega
theorem fr_bit9 {x a : Nat} : ∀ n, (frN pg fm M n x).testBit a = true ↔ a < n ∧ M.testBit a = true ∧ tkr9 pg a ∧ ¬ 1 < fm a ∧ pg 5 a = x
  | 0 => by
    show Nat.testBit 0 a = true ↔ _
    rw [Nat.zero_testBit]
    exact ⟨fun h => absurd h Bool.false_ne_true, fun h => absurd h.1 (Nat.not_lt_zero a)⟩
  | n + 1 => by
    have e : frN pg fm M (n + 1) = if M / 2 ^ n % 2 = 1 ∧ (pg 4 n = 0 ∨ pg 4 n = 3) then nrF pg fm n (frN pg fm M n) else frN pg fm M n := rfl
    rw [e]
    have up : (a < n ∧ M.testBit a = true ∧ tkr9 pg a ∧ ¬ 1 < fm a ∧ pg 5 a = x) → (a < n + 1 ∧ M.testBit a = true ∧ tkr9 pg a ∧ ¬ 1 < fm a ∧ pg 5 a = x) := fun h => ⟨by omega, h.2⟩
    by_cases c : M / 2 ^ n % 2 = 1 ∧ (pg 4 n = 0 ∨ pg 4 n = 3)
    · rw [if_pos c]
      unfold nrF
      by_cases f : 1 < fm n
      · rw [if_pos f, fr_bit9 n]
        refine ⟨up, fun ⟨h1, h2⟩ => ⟨?_, h2⟩⟩
        by_cases w : a = n
        · rw [w] at h2; exact absurd f h2.2.2.1
        · omega
      · rw [if_neg f]
        by_cases eq : x = pg 5 n
        · rw [eq, updN_s, or_b9, ← eq, fr_bit9 n]
          constructor
          · rintro (h | h)
            · exact up h
            · rw [← h]; exact ⟨by omega, tb_div.mp c.1, c.2, f, eq.symm⟩
          · rintro ⟨h1, h2⟩
            by_cases w : n = a
            · exact Or.inr w
            · exact Or.inl ⟨by omega, h2⟩
        · rw [updN_n eq, fr_bit9 n]
          refine ⟨up, fun ⟨h1, h2⟩ => ⟨?_, h2⟩⟩
          by_cases w : a = n
          · rw [w] at h2; exact absurd h2.2.2.2.symm eq
          · omega
    · rw [if_neg c, fr_bit9 n]
      refine ⟨up, fun ⟨h1, h2⟩ => ⟨?_, h2⟩⟩
      by_cases w : a = n
      · rw [w] at h2; exact absurd ⟨tb_div.mpr h2.1, h2.2.1⟩ c
      · omega
theorem bf_at9 {b : Nat} : ∀ n, bfN pg fm M n b = if b < n ∧ M.testBit b = true ∧ tkr9 pg b ∧ 1 < fm b then 2 ^ (fm b - 1 - 1) else 0
  | 0 => by rw [if_neg (fun h => absurd h.1 (Nat.not_lt_zero b))]; rfl
  | n + 1 => by
    have e : bfN pg fm M (n + 1) = if M / 2 ^ n % 2 = 1 ∧ (pg 4 n = 0 ∨ pg 4 n = 3) then nrB fm n (bfN pg fm M n) else bfN pg fm M n := rfl
    rw [e]
    have sm : ¬ (b = n ∧ M.testBit b = true ∧ tkr9 pg b ∧ 1 < fm b) → (if b < n ∧ M.testBit b = true ∧ tkr9 pg b ∧ 1 < fm b then 2 ^ (fm b - 1 - 1) else 0) = if b < n + 1 ∧ M.testBit b = true ∧ tkr9 pg b ∧ 1 < fm b then 2 ^ (fm b - 1 - 1) else 0 := fun h => by
      by_cases w : b < n ∧ M.testBit b = true ∧ tkr9 pg b ∧ 1 < fm b
      · rw [if_pos w, if_pos ⟨by omega, w.2⟩]
      · rw [if_neg w, if_neg (fun v => ?_)]
        by_cases z : b = n
        · exact h ⟨z, v.2⟩
        · exact w ⟨by omega, v.2⟩
    by_cases c : M / 2 ^ n % 2 = 1 ∧ (pg 4 n = 0 ∨ pg 4 n = 3)
    · rw [if_pos c]
      unfold nrB
      by_cases f : 1 < fm n
      · rw [if_pos f]
        by_cases eq : b = n
        · rw [eq, updN_s, if_pos ⟨Nat.lt_succ_self n, tb_div.mp c.1, c.2, f⟩]
        · rw [updN_n eq, bf_at9 n]; exact sm (fun h => eq h.1)
      · rw [if_neg f, bf_at9 n]
        exact sm (fun h => f (by rw [← h.1]; exact h.2.2.2))
    · rw [if_neg c, bf_at9 n]
      exact sm (fun h => c (by rw [← h.1]; exact ⟨tb_div.mpr h.2.1, h.2.2.1⟩))
end RD3
section RD4
variable {Ac : Nat} {pg : Nat → Nat → Nat} {sc : Nat → Nat → Nat} {s : S8}
/-- the class keeps the readers of its choice -/
theorem sc_R9 (hH : ∀ a, (mbE pg s).testBit a = true → a < Ac) : scR9 pg (scE pg Ac sc s) (fun a => fmS8 s a - 1) (mbE pg s) := by
  refine ⟨fun v a => ?_, fun x a => ?_⟩
  · show (rdN pg (fmS8 s) (mbE pg s) Ac (v + 1)).testBit a = true ↔ _
    rw [rd_bit9]
    exact ⟨fun h => ⟨h.2.1, h.2.2.1, h.2.2.2.2⟩, fun h => ⟨hH a h.1, h.1, h.2.1, by have h3 : fmS8 s a - 1 = v + 1 := h.2.2; omega, h.2.2⟩⟩
  · show (frN pg (fmS8 s) (mbE pg s) Ac x).testBit a = true ↔ _
    rw [fr_bit9]
    exact ⟨fun h => ⟨h.2.1, h.2.2.1, by have := h.2.2.2.1; show fmS8 s a - 1 = 0; omega, h.2.2.2.2⟩, fun h => ⟨hH a h.1, h.1, h.2.1, by have h3 : fmS8 s a - 1 = 0 := h.2.2.1; omega, h.2.2.2⟩⟩
end RD4
