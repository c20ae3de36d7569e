section STR
variable {T Ac : Nat} {pg : Nat → Nat → Nat} {nm : Nat → Int32} {zs kd vx rr : Nat → Nat} {vv : Nat → Int32} {s : S9K} {t a s9 pc : Nat}
theorem rowP_o {dn x b : Nat} (h : b ≠ a) : rowP pg (dn ||| 2 ^ a) x b = rowP pg dn x b := by unfold rowP; rw [b_ne h]
theorem rowP_n {dn x : Nat} (h : ¬ (1 ≤ pg 4 a ∧ pg 4 a ≤ 4 ∧ rowN pg a = x)) (b : Nat) : rowP pg (dn ||| 2 ^ a) x b = rowP pg dn x b := by
  by_cases e : b = a
  · unfold rowP; rw [e, decide_eq_false h, Bool.and_false, Bool.and_false]
  · exact rowP_o e
theorem le_own (hX : PX T Ac pg nm zs kd vx rr vv) (hI : IvQ T Ac pg nm s) (ht : t < T) (hq : s.2.2.1 t < pg 0 t) (ha : a = pg 1 (t * 7 + s.2.2.1 t)) (hS : StK9 pg s a s9 pc) (hle : (tkC pg nm s a s9 pc).2.2.2.2.2.2.2.1 = updN s.2.2.2.2.2.2.2.1 (pg 2 a) (s.2.2.2.2.2.2.2.1 (pg 2 a) ||| s.2.2.2.2.2.2.2.2 s9 ||| w9K pg a)) :
    (∀ u b, u < T → ((tkC pg nm s a s9 pc).2.2.2.2.2.2.2.1 u).testBit b = true → (tkC pg nm s a s9 pc).1.testBit b = true) ∧
    (∀ b, s.1.testBit b = true → 1 ≤ pg 4 b → pg 4 b ≤ 4 → ((tkC pg nm s a s9 pc).2.2.2.2.2.2.2.1 (pg 2 b)).testBit b = true) ∧
    (∀ u, u < T → (tkC pg nm s a s9 pc).2.2.2.2.2.2.2.1 u = oM pg (tkC pg nm s a s9 pc).1 (tkC pg nm s a s9 pc).2.1 (tkC pg nm s a s9 pc).2.2.2.2.2.2.2.2 u 7) := by
  obtain ⟨a1, a2, a3, a4, a5, a6⟩ := px_next hX hI.1 ht hq ha
  obtain ⟨w1, w2⟩ := st_src hX hI a2 hS
  obtain ⟨-, -, -, -, -, -, -, oMc, -, -⟩ := st_com hX hI ht hq ha hS
  obtain ⟨j1, j2, j3, j4, j5, j6, j7, j8, j9, j10, j11, j12, j13, j14, j15, -⟩ := hI
  have hdone : ∀ b, s.1.testBit b = true → (tkC pg nm s a s9 pc).1.testBit b = true := fun b hb => by
    show (s.1 ||| 2 ^ a).testBit b = true
    rw [bit_set, hb]; rfl
  refine ⟨fun u b hu hb => ?_, fun b hb k1 k4 => ?_, fun u hu => ?_⟩
  · rw [hle] at hb
    by_cases e : u = pg 2 a
    · rw [e, updN_s, Nat.testBit_or, Nat.testBit_or, Bool.or_eq_true, Bool.or_eq_true] at hb
      rcases hb with (h | h) | h
      · exact hdone b (j7 _ b (by rw [a3]; exact ht) h)
      · exact hdone b (j8 _ b w1 h)
      · unfold w9K at h
        split at h
        · have e2 : a = b := by rw [Nat.testBit_two_pow] at h; exact of_decide_eq_true h
          rw [← e2]; exact b_eq
        · rw [Nat.zero_testBit] at h; exact absurd h Bool.false_ne_true
    · rw [updN_n e] at hb; exact hdone b (j7 u b hu hb)
  · rw [hle]
    have h := j9 b hb k1 k4
    by_cases e : pg 2 b = pg 2 a
    · rw [e, updN_s, Nat.testBit_or, Nat.testBit_or]; rw [e] at h; rw [h]; rfl
    · rw [updN_n e]; exact h
  · rw [oMc, hle]
    by_cases e : u = pg 2 a
    · rw [if_pos ⟨e, a1⟩, e, updN_s, j11 _ (by rw [a3]; exact ht)]
    · rw [if_neg (fun q => e q.1), updN_n e]; exact j11 u hu
/-- a READ or a SKIP -/
theorem IvQ_rd (hX : PX T Ac pg nm zs kd vx rr vv) (hI : IvQ T Ac pg nm s) (ht : t < T) (hq : s.2.2.1 t < pg 0 t) (ha : a = pg 1 (t * 7 + s.2.2.1 t)) (hS : StK9 pg s a s9 0) : IvQ T Ac pg nm (tkC pg nm s a s9 0) := by
  obtain ⟨a1, a2, a3, a4, a5, a6⟩ := px_next hX hI.1 ht hq ha
  have hk := hS.1 rfl
  have e9 : w9K pg a = 0 := by unfold w9K; exact if_neg (by omega)
  have hle : (tkC pg nm s a s9 0).2.2.2.2.2.2.2.1 = updN s.2.2.2.2.2.2.2.1 (pg 2 a) (s.2.2.2.2.2.2.2.1 (pg 2 a) ||| s.2.2.2.2.2.2.2.2 s9 ||| w9K pg a) := by
    show leT pg a 0 _ _ s9 = _
    unfold leT
    rw [if_neg (Nat.lt_irrefl 0), e9, Nat.or_zero]
  obtain ⟨l1, l2, l3⟩ := le_own hX hI ht hq ha hS hle
  obtain ⟨m1, m2, m3, m4, m5, m6, m7, m8, m9, m10⟩ := st_com hX hI ht hq ha hS
  have hI0 := hI
  obtain ⟨j1, j2, j3, j4, j5, j6, j7, j8, j9, j10, j11, j12, j13, j14, j15, -⟩ := hI
  have ez : (tkC pg nm s a s9 0).2.2.2.2.2.2.1 = s.2.2.2.2.2.2.1 := by show zsT pg a 0 _ = _; unfold zsT; exact if_neg (Nat.lt_irrefl 0)
  have er : (tkC pg nm s a s9 0).2.2.2.2.2.1 = s.2.2.2.2.2.1 := by show rwT pg a 0 _ = _; unfold rwT; exact if_neg (Nat.lt_irrefl 0)
  have ec : (tkC pg nm s a s9 0).2.2.2.2.2.2.2.2 = s.2.2.2.2.2.2.2.2 := by show ctT pg a 0 s.2.2.2.2.2.2.2.1 s.2.2.2.2.2.2.2.2 s9 = _; unfold ctT; exact if_neg (Nat.lt_irrefl 0)
  have es : ∀ x p, sr9 (tkC pg nm s a s9 0) x p = sr9 s x p := fun x p => by unfold sr9; rw [er, ez]
  have ek : ∀ K x, kq (tkC pg nm s a s9 0) K x = kq s K x := fun K x => by unfold kq; rw [er, ez]
  have hbit : ∀ b, (tkC pg nm s a s9 0).1.testBit b = true → 1 ≤ pg 4 b → pg 4 b ≤ 4 → s.1.testBit b = true := fun b hb k1 k4 => by
    have hb : (s.1 ||| 2 ^ a).testBit b = true := hb
    by_cases e : b = a
    · rw [e] at k1 k4; omega
    · rw [b_ne e] at hb; exact hb
  have hdone : ∀ b, s.1.testBit b = true → (tkC pg nm s a s9 0).1.testBit b = true := fun b hb => by
    show (s.1 ||| 2 ^ a).testBit b = true
    rw [bit_set, hb]; rfl
  have wback : ∀ q, wrT pg (tkC pg nm s a s9 0).1 q → wrT pg s.1 q := fun q h => by
    rcases h with z | ⟨z1, z2, z3, z4⟩
    · exact Or.inl z
    · exact Or.inr ⟨z1, hbit _ z2 z3 z4, z3, z4⟩
  refine ⟨m1, m2, fun x hx => ?_, fun x p p' hx => by rw [ez, es, es]; exact j4 x p p' hx, fun b hb k1 k4 => ?_, m7, l1, fun q b hq2 hb => ?_, fun b hb k1 k4 => l2 b (hbit b hb k1 k4) k1 k4, fun x p hx h1 h2 => ?_, l3, fun b hb k1 k4 => ?_, fun x p p' hx h1 h2 h3 => ?_, fun x p hx h1 h2 hk2 => ?_, m9, m10⟩
  · rw [ez, j3 x hx]
    show _ = ctB (rowP pg (s.1 ||| 2 ^ a) x) 7
    exact (ctB_cg9 (rowP_n (by omega)) 7).symm
  · obtain ⟨p, q1, q2, q3⟩ := j5 b (hbit b hb k1 k4) k1 k4
    exact ⟨p, q1, by rw [ez]; exact q2, by rw [es]; exact q3⟩
  · rw [ec] at hb; exact hdone b (j8 q b (wback q hq2) hb)
  · rw [ez] at h2
    rw [es, ec, ek]; exact j10 x p hx h1 h2
  · have hb2 := hbit b hb k1 k4
    rw [m8, ec, if_neg, j12 b hb2 k1 k4]
    intro q
    have := a6 b hb2 (by rw [q.1, a3])
    omega
  · rw [ez] at h3; rw [es, es]; exact j13 x p p' hx h1 h2 h3
  · rw [ez] at h2
    rw [es] at hk2 ⊢
    rw [es]
    have hin := row_in hI0 hx h1 h2
    rw [m3 _ hin.2.2.1]
    exact j14 x p hx h1 h2 hk2
end STR
