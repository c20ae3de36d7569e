/-- the list of takers as it grows -/
def lbI (kd : Nat → Nat) (t : Nat) (s : (Nat → Nat) × Nat) : Nat → (Nat → Nat) × Nat
  | 0 => s
  | i + 1 => if kd (7 * t + i) = 0 ∨ kd (7 * t + i) = 3 then (updN (lbI kd t s i).1 (lbI kd t s i).2 (7 * t + i), (lbI kd t s i).2 + 1) else lbI kd t s i
def lbT (zs kd : Nat → Nat) (s : (Nat → Nat) × Nat) : Nat → (Nat → Nat) × Nat
  | 0 => s
  | t + 1 => lbI kd t (lbT zs kd s t) (zs t)
def lbO (zs kd : Nat → Nat) (t i : Nat) (s : (Nat → Nat) × Nat) : Prop :=
  (∀ q, q < s.2 → ∃ u k, (u < t ∨ (u = t ∧ k < i)) ∧ k < zs u ∧ s.1 q = 7 * u + k ∧ (kd (7 * u + k) = 0 ∨ kd (7 * u + k) = 3)) ∧ (∀ q r, q < r → r < s.2 → s.1 q < s.1 r) ∧
  (∀ u k, (u < t ∨ (u = t ∧ k < i)) → k < zs u → (kd (7 * u + k) = 0 ∨ kd (7 * u + k) = 3) → ∃ q, q < s.2 ∧ s.1 q = 7 * u + k) ∧ s.2 ≤ smN zs t + i ∧ ∀ q, q < 7 → s.1 q < 28
theorem lbI_ok {zs kd : Nat → Nat} {t : Nat} {s : (Nat → Nat) × Nat} (ht : t < 4) (hz : ∀ u, u ≤ t → zs u ≤ 7) (h : lbO zs kd t 0 s) : ∀ i, i ≤ zs t → lbO zs kd t i (lbI kd t s i)
  | 0, _ => h
  | i + 1, hi => by
    obtain ⟨a1, a2, a3, a4, a5⟩ := lbI_ok ht hz h i (by omega)
    have hzt := hz t (Nat.le_refl t)
    rw [lbI]
    by_cases c : kd (7 * t + i) = 0 ∨ kd (7 * t + i) = 3
    · rw [if_pos c]
      generalize lbI kd t s i = s1 at a1 a2 a3 a4 a5
      refine ⟨fun q hq => ?_, fun q r hqr hr => ?_, fun u k h1 h2 h3 => ?_, by show s1.2 + 1 ≤ smN zs t + (i + 1); omega, fun q hq => ?_⟩
      · replace hq : q < s1.2 + 1 := hq
        by_cases e : q = s1.2
        · exact ⟨t, i, Or.inr ⟨rfl, Nat.lt_succ_self i⟩, by omega, by rw [e]; exact updN_s, c⟩
        · obtain ⟨u, k, h1, h2, h3, h4⟩ := a1 q (by omega)
          exact ⟨u, k, by omega, h2, by show updN s1.1 s1.2 (7 * t + i) q = _; rw [updN_n e]; exact h3, h4⟩
      · replace hr : r < s1.2 + 1 := hr
        show updN s1.1 s1.2 (7 * t + i) q < updN s1.1 s1.2 (7 * t + i) r
        by_cases e : r = s1.2
        · rw [e, updN_s, updN_n (by omega)]
          obtain ⟨u, k, h1, h2, h3, h4⟩ := a1 q (by omega)
          have hu := hz u (by omega)
          rw [h3]; omega
        · rw [updN_n e, updN_n (by omega)]; exact a2 q r hqr (by omega)
      · show ∃ q, q < s1.2 + 1 ∧ updN s1.1 s1.2 (7 * t + i) q = 7 * u + k
        by_cases e : u = t ∧ k = i
        · obtain ⟨e1, e2⟩ := e
          exact ⟨s1.2, Nat.lt_succ_self _, by rw [e1, e2]; exact updN_s⟩
        · obtain ⟨q, q1, q2⟩ := a3 u k (by omega) h2 h3
          exact ⟨q, by omega, by rw [updN_n (by omega)]; exact q2⟩
      · show updN s1.1 s1.2 (7 * t + i) q < 28
        unfold updN; split
        · omega
        · exact a5 q hq
    · rw [if_neg c]
      refine ⟨fun q hq => ?_, a2, fun u k h1 h2 h3 => ?_, by omega, a5⟩
      · obtain ⟨u, k, h1, h2⟩ := a1 q hq
        exact ⟨u, k, by omega, h2⟩
      · by_cases e : u = t ∧ k = i
        · rw [e.1, e.2] at h3; exact absurd h3 c
        · exact a3 u k (by omega) h2 h3
theorem lbT_ok {zs kd : Nat → Nat} {s : (Nat → Nat) × Nat} (h0 : s.2 = 0) (h7 : ∀ q, q < 7 → s.1 q < 28) : ∀ t, t ≤ 4 → (∀ u, u < t → zs u ≤ 7) → lbO zs kd t 0 (lbT zs kd s t)
  | 0, _, _ => ⟨fun q hq => by rw [lbT, h0] at hq; exact absurd hq (Nat.not_lt_zero q), fun q r _ hr => by rw [lbT, h0] at hr; exact absurd hr (Nat.not_lt_zero r), fun u k h1 => by omega, by rw [lbT, h0]; exact Nat.zero_le _, h7⟩
  | t + 1, ht, hz => by
    obtain ⟨a1, a2, a3, a4, a5⟩ := lbI_ok (by omega) (fun u hu => hz u (by omega)) (lbT_ok (kd := kd) h0 h7 t (by omega) (fun u hu => hz u (by omega))) (zs t) (Nat.le_refl _)
    rw [lbT]
    refine ⟨fun q hq => ?_, a2, fun u k h1 h2 h3 => a3 u k (by
      rcases Nat.lt_or_ge u t with q | q
      · exact Or.inl q
      · have : u = t := by omega
        subst this; exact Or.inr ⟨rfl, h2⟩) h2 h3, by show _ ≤ smN zs t + zs t + 0; omega, a5⟩
    obtain ⟨u, k, h1, h2⟩ := a1 q hq
    exact ⟨u, k, by omega, h2⟩
theorem lb_liO {T : Nat} {zs kd : Nat → Nat} {s : (Nat → Nat) × Nat} (hz : ∀ u, u < T → zs u ≤ 7) (h : lbO zs kd T 0 s) : liO T s.2 zs kd s.1 := by
  obtain ⟨a1, a2, a3, a4, a5⟩ := h
  refine ⟨fun q hq => ?_, fun q r hq hr e => ?_, fun a h1 h2 h3 => ?_⟩
  · obtain ⟨u, k, h1, h2, h3, h4⟩ := a1 q hq
    have hu := hz u (by omega)
    rw [h3, show (7 * u + k) / 7 = u from by omega, show (7 * u + k) % 7 = k from by omega]
    exact ⟨⟨by omega, h2⟩, h4⟩
  · rcases Nat.lt_trichotomy q r with c | c | c
    · have := a2 q r c hr; omega
    · exact c
    · have := a2 r q c hq; omega
  · obtain ⟨q, q1, q2⟩ := a3 (a / 7) (a % 7) (Or.inl h1) h2 (by rw [show 7 * (a / 7) + a % 7 = a from by omega]; exact h3)
    exact ⟨q, q1, by rw [q2]; omega⟩
theorem lbI_my {kd : Nat → Nat} {t : Nat} {s : (Nat → Nat) × Nat} : ∀ i, (lbI kd t s i).2 ≤ s.2 + i
  | 0 => Nat.le_refl _
  | i + 1 => by
    have := lbI_my (kd := kd) (t := t) (s := s) i
    rw [lbI]; split
    · show (lbI kd t s i).2 + 1 ≤ _; omega
    · omega
theorem lbT_my {zs kd : Nat → Nat} {s : (Nat → Nat) × Nat} (h0 : s.2 = 0) : ∀ t, (lbT zs kd s t).2 ≤ smN zs t
  | 0 => by rw [lbT, h0]; exact Nat.zero_le _
  | t + 1 => by
    have h1 := lbT_my (zs := zs) (kd := kd) h0 t
    have h2 := lbI_my (kd := kd) (t := t) (s := lbT zs kd s t) (zs t)
    rw [lbT]; show _ ≤ smN zs t + zs t; omega
