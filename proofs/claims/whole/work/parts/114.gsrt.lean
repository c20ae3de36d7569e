theorem ltK_trans {a c k : Int64} {b d v : Int32} (h1 : ltK a b c d) (h2 : ltK c d k v) : ltK a b k v := by
  rcases h1 with h | ⟨h, q⟩ <;> rcases h2 with h' | ⟨h', q'⟩
  · exact Or.inl (Int64.lt_trans h h')
  · exact Or.inl (h' ▸ h)
  · exact Or.inl (h ▸ h')
  · exact Or.inr ⟨h.trans h', Int32.lt_trans q q'⟩
theorem ltK_irr {a : Int64} {b : Int32} : ¬ ltK a b a b := fun q => q.elim (fun q => Int64.lt_irrefl q) (fun q => Int32.lt_irrefl q.2)
theorem ltK_tot {a c : Int64} {b d : Int32} (h : ¬ ltK a b c d) (hne : ¬ (a = c ∧ b = d)) : ltK c d a b := by
  rcases Int64.lt_or_le c a with q | q
  · exact Or.inl q
  · rcases Int64.lt_or_eq_of_le q with q2 | q2
    · exact absurd (Or.inl q2) h
    · refine Or.inr ⟨q2.symm, ?_⟩
      rcases Int32.lt_or_le d b with r | r
      · exact r
      · rcases Int32.lt_or_eq_of_le r with r2 | r2
        · exact absurd (Or.inr ⟨q2, r2⟩) h
        · exact absurd ⟨q2, r2⟩ hne
/-- n rows of outcomes stand in order -/
def srt (n : Nat) (rf : Nat → Int64) (vf : Nat → Int32) (of : Nat → Nat) : Prop :=
  (∀ i, i < n → of i < n) ∧ ∀ i j, i < j → j < n → ltK (rf (of i)) (vf (of i)) (rf (of j)) (vf (of j))
theorem srt_mo {n : Nat} {rf : Nat → Int64} {vf : Nat → Int32} {of : Nat → Nat} {rk : Int64} {vk : Int32} (h : srt n rf vf of) : ∀ i j, i ≤ j → j < n → ltK (rf (of j)) (vf (of j)) rk vk → ltK (rf (of i)) (vf (of i)) rk vk := fun i j hij hj q => by
  rcases Nat.lt_or_eq_of_le hij with h1 | h1
  · exact ltK_trans (h.2 i j h1 hj) q
  · subst h1; exact q
def hasO (rf : Nat → Int64) (vf : Nat → Int32) (of : Nat → Nat) (rk : Int64) (vk : Int32) : Nat → Bool
  | 0 => false
  | n + 1 => (rf (of n) == rk && vf (of n) == vk) || hasO rf vf of rk vk n
theorem hasO_yes {rf : Nat → Int64} {vf : Nat → Int32} {of : Nat → Nat} {rk : Int64} {vk : Int32} : ∀ {n : Nat}, hasO rf vf of rk vk n = true → ∃ j, j < n ∧ rf (of j) = rk ∧ vf (of j) = vk
  | 0, h => by simp [hasO] at h
  | n + 1, h => by
    rw [hasO, Bool.or_eq_true, Bool.and_eq_true] at h
    rcases h with h | h
    · exact ⟨n, by omega, by simpa using h.1, by simpa using h.2⟩
    · obtain ⟨j, hj, e⟩ := hasO_yes h
      exact ⟨j, by omega, e⟩
theorem hasO_no {rf : Nat → Int64} {vf : Nat → Int32} {of : Nat → Nat} {rk : Int64} {vk : Int32} : ∀ {n : Nat}, hasO rf vf of rk vk n = false → ∀ j, j < n → ¬ (rf (of j) = rk ∧ vf (of j) = vk)
  | 0, _, j, hj => absurd hj (Nat.not_lt_zero j)
  | n + 1, h, j, hj => by
    rw [hasO, Bool.or_eq_false_iff] at h
    rcases Nat.lt_or_ge j n with q | q
    · exact hasO_no h.2 j q
    · have : j = n := by omega
      subst this
      exact fun e => by simp [e.1, e.2] at h
theorem srt_put {n : Nat} {rf rf2 : Nat → Int64} {vf vf2 : Nat → Int32} {of of2 : Nat → Nat} {rk : Int64} {vk : Int32} {p : Nat} (h : srt n rf vf of) (x1 : ∀ i, i < n → rf2 i = rf i ∧ vf2 i = vf i) (x2 : rf2 n = rk) (x3 : vf2 n = vk) (hp : p ≤ n)
    (a1 : ∀ i, i < p → ltK (rf (of i)) (vf (of i)) rk vk ∧ of2 i = of i) (a2 : of2 p = n) (a3 : ∀ i, p ≤ i → i < n → ¬ ltK (rf (of i)) (vf (of i)) rk vk ∧ of2 (i + 1) = of i) (hno : ∀ i, i < n → ¬ (rf (of i) = rk ∧ vf (of i) = vk)) : srt (n + 1) rf2 vf2 of2 := by
  have lo : ∀ i, i < p → of2 i = of i ∧ of i < n := fun i hi => ⟨(a1 i hi).2, h.1 i (by omega)⟩
  have hi' : ∀ i, p < i → i < n + 1 → of2 i = of (i - 1) ∧ of (i - 1) < n := fun i h1 h2 => by
    have := (a3 (i - 1) (by omega) (by omega)).2
    rw [show i - 1 + 1 = i from by omega] at this
    exact ⟨this, h.1 _ (by omega)⟩
  refine ⟨fun i hi => ?_, fun i j hij hj => ?_⟩
  · rcases Nat.lt_trichotomy i p with q | q | q
    · rw [(lo i q).1]; have := (lo i q).2; omega
    · rw [q, a2]; omega
    · rw [(hi' i q hi).1]; have := (hi' i q hi).2; omega
  · rcases Nat.lt_trichotomy i p with q | q | q
    · obtain ⟨e1, l1⟩ := lo i q
      rw [e1, (x1 _ l1).1, (x1 _ l1).2]
      rcases Nat.lt_trichotomy j p with r | r | r
      · obtain ⟨e2, l2⟩ := lo j r
        rw [e2, (x1 _ l2).1, (x1 _ l2).2]; exact h.2 i j hij (by omega)
      · rw [r, a2, x2, x3]; exact (a1 i q).1
      · obtain ⟨e2, l2⟩ := hi' j r hj
        rw [e2, (x1 _ l2).1, (x1 _ l2).2]; exact h.2 i (j - 1) (by omega) (by omega)
    · obtain ⟨e2, l2⟩ := hi' j (by omega) hj
      rw [q, a2, x2, x3, e2, (x1 _ l2).1, (x1 _ l2).2]
      exact ltK_tot (a3 (j - 1) (by omega) (by omega)).1 (hno (j - 1) (by omega))
    · obtain ⟨e1, l1⟩ := hi' i q (by omega)
      obtain ⟨e2, l2⟩ := hi' j (by omega) hj
      rw [e1, (x1 _ l1).1, (x1 _ l1).2, e2, (x1 _ l2).1, (x1 _ l2).2]; exact h.2 (i - 1) (j - 1) (by omega) (by omega)
def roomO (n : Nat) : Nat := if 8 < 2 * n then 2 * n else 8
/-- an outcome comes to the set: rows, room, cells, slots -/
def addO (b : Bool) (n C E : Nat) : Nat × Nat × Nat × Nat :=
  match b with
  | true => (n, C, 0, 0)
  | false => if n < C then (n + 1, C, 0, 0) else (n + 1, roomO n, 5, 4 * roomO n + roomO n * E)
