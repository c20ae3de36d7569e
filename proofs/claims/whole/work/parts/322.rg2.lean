theorem btN_bit {p : Nat → Bool} : ∀ n k, (btN p 0 n).testBit k = (decide (k < n) && p k)
  | 0, k => by rw [btN, Nat.zero_testBit]; simp
  | n + 1, k => by
    have ih := btN_bit (p := p) n k
    rw [btN]
    by_cases e : n = k
    · subst e
      cases hp : p n with
      | true => rw [if_pos rfl, bit_set]; simp
      | false => rw [if_neg (by decide), ih, hp]; simp
    · have e2 : decide (k < n + 1) = decide (k < n) := by
        by_cases c : k < n
        · rw [decide_eq_true c, decide_eq_true (by omega)]
        · rw [decide_eq_false c, decide_eq_false (by omega)]
      rw [e2]
      cases hp : p n with
      | true => rw [if_pos rfl, bit_set, ih, decide_eq_false e, Bool.or_false]
      | false => rw [if_neg (by decide), ih]
theorem btN_7 {p : Nat → Bool} : btN p 0 7 < 128 := btN_lt (by decide) 7 (Nat.le_refl 7)
/-- a walk by a choice -/
def wlk (c : Nat → Nat) (a : Nat) : Nat → Nat
  | 0 => a
  | n + 1 => c (wlk c a n)
theorem wlk_conn {F c : Nat → Nat} {N a : Nat} (h : ∀ n, (F (wlk c a n)).testBit (wlk c a (n + 1)) = true) (hN : ∀ n, wlk c a n < N) (i : Nat) : ∀ d, conn F N (wlk c a i) (wlk c a (i + d + 1))
  | 0 => ⟨0, h i⟩
  | d + 1 => conn_tr (hN _) (wlk_conn h hN i d) ⟨0, h (i + d + 1)⟩
/-- a set in which each has one of it before it: just when there is a ring -/
theorem set_ring {F : Nat → Nat} : (∃ S, ¬ S = 0 ∧ S < 128 ∧ ∀ a, S.testBit a = true → ¬ F a &&& S = 0) ↔ ∃ i, i < 7 ∧ conn F 7 i i := by
  constructor
  · rintro ⟨S, s1, s2, s3⟩
    have hb : ∀ a, ∃ b, S.testBit a = true → S.testBit b = true ∧ (F a).testBit b = true := fun a => by
      by_cases q : S.testBit a = true
      · refine Classical.byContradiction fun hn => s3 a q (and_0.mpr fun b h1 h2 => hn ⟨b, fun _ => ⟨h2, h1⟩⟩)
      · exact ⟨0, fun h => absurd h q⟩
    obtain ⟨c, hc⟩ := Classical.axiomOfChoice hb
    obtain ⟨a0, ha0⟩ : ∃ a, S.testBit a = true := Classical.byContradiction fun hn => s1 (Nat.eq_of_testBit_eq fun b => by
      rw [Nat.zero_testBit]
      cases q : S.testBit b with
      | false => rfl
      | true => exact absurd ⟨b, q⟩ hn)
    have hin : ∀ n, S.testBit (wlk c a0 n) = true := fun n => by
      induction n with
      | zero => exact ha0
      | succ n ih => exact (hc _ ih).1
    have hst : ∀ n, (F (wlk c a0 n)).testBit (wlk c a0 (n + 1)) = true := fun n => (hc _ (hin n)).2
    have h7 : ∀ n, wlk c a0 n < 7 := fun n => bit_hi s2 (hin n)
    refine Classical.byContradiction fun hn => ?_
    have := pigeon 7 8 (fun n => wlk c a0 n + 1) (fun n _ => by have := h7 n; exact ⟨by omega, by omega⟩) (fun i j _ _ e => by
      replace e : wlk c a0 i + 1 = wlk c a0 j + 1 := e
      have e2 : wlk c a0 i = wlk c a0 j := by omega
      rcases Nat.lt_trichotomy i j with q | q | q
      · have h := wlk_conn hst h7 i (j - i - 1)
        rw [show i + (j - i - 1) + 1 = j from by omega, ← e2] at h
        exact absurd ⟨_, h7 i, h⟩ hn
      · exact q
      · have h := wlk_conn hst h7 j (i - j - 1)
        rw [show j + (i - j - 1) + 1 = i from by omega, e2] at h
        exact absurd ⟨_, h7 j, h⟩ hn)
    omega
  · rintro ⟨i, hi, h⟩
    have dec : ∀ b, Decidable (conn F 7 i b ∧ conn F 7 b i) := fun b => Classical.propDecidable _
    obtain ⟨p, hp⟩ : ∃ p : Nat → Bool, ∀ b, p b = true ↔ conn F 7 i b ∧ conn F 7 b i := ⟨fun b => @decide _ (dec b), fun b => by simp⟩
    have bt : ∀ b, (btN p 0 7).testBit b = true ↔ b < 7 ∧ conn F 7 i b ∧ conn F 7 b i := fun b => by
      rw [btN_bit, Bool.and_eq_true, decide_eq_true_eq, hp]
    refine ⟨btN p 0 7, fun e => ?_, btN_7, fun a ha e => ?_⟩
    · have := (bt i).mpr ⟨hi, h, h⟩
      rw [e, Nat.zero_testBit] at this; exact absurd this (by decide)
    · obtain ⟨a7, q1, n, q2⟩ := (bt a).mp ha
      cases n with
      | zero => exact and_0.mp e i q2 ((bt i).mpr ⟨hi, h, h⟩)
      | succ n =>
        obtain ⟨c, hc, r1, r2⟩ := q2
        exact and_0.mp e c r1 ((bt c).mpr ⟨hc, conn_tr a7 q1 ⟨0, r1⟩, ⟨n, r2⟩⟩)
