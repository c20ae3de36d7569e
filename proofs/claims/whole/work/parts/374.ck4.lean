section STW
variable {T Ac : Nat} {pg : Nat → Nat → Nat} {nm : Nat → Int32} {zs kd vx rr : Nat → Nat} {vv : Nat → Int32} {s : S9K} {t a s9 pc : Nat}
/-- the rows when one comes -/
theorem put_rows (hX : PX T Ac pg nm zs kd vx rr vv) (hI : IvQ T Ac pg nm s) (ht : t < T) (hq : s.2.2.1 t < pg 0 t) (ha : a = pg 1 (t * 7 + s.2.2.1 t)) (hS : StK9 pg s a s9 pc) (hp : 0 < pc) :
    (∀ x, (tkC pg nm s a s9 pc).2.2.2.2.2.2.1 x = if x = rowN pg a then s.2.2.2.2.2.2.1 x + 1 else s.2.2.2.2.2.2.1 x) ∧
    (∀ x p, x ≠ rowN pg a → sr9 (tkC pg nm s a s9 pc) x p = sr9 s x p) ∧
    (∀ p, 1 ≤ p → p ≤ s.2.2.2.2.2.2.1 (rowN pg a) + 1 → sr9 (tkC pg nm s a s9 pc) (rowN pg a) p = if p < pc then sr9 s (rowN pg a) p else if p = pc then a + 1 else sr9 s (rowN pg a) (p - 1)) ∧
    (∀ K x, x ≠ rowN pg a → kq (tkC pg nm s a s9 pc) K x = kq s K x) ∧
    (∀ K, K.testBit a = false → kq (tkC pg nm s a s9 pc) K (rowN pg a) = if pc ≤ kq s K (rowN pg a) then kq s K (rowN pg a) + 1 else kq s K (rowN pg a)) ∧
    (∀ K, K.testBit a = true → kq s K (rowN pg a) < pc → kq (tkC pg nm s a s9 pc) K (rowN pg a) = pc) := by
  obtain ⟨a1, a2, a3, a4, a5, a6⟩ := px_next hX hI.1 ht hq ha
  obtain ⟨k1, k4, kz, kk, -⟩ := hS.2.1 hp
  obtain ⟨-, -, -, -, -, p6, r4⟩ := k_next hX.1 hI.2.1 ht hq ha
  have hz6 : s.2.2.2.2.2.2.1 (rowN pg a) ≤ 6 := by have := (hI.2.1.2.2.2.2.1 _ r4).1; omega
  have ez : (tkC pg nm s a s9 pc).2.2.2.2.2.2.1 = updN s.2.2.2.2.2.2.1 (rowN pg a) (s.2.2.2.2.2.2.1 (rowN pg a) + 1) := by show zsT pg a pc _ = _; unfold zsT; exact if_pos hp
  have er : (tkC pg nm s a s9 pc).2.2.2.2.2.1 = updN s.2.2.2.2.2.1 (rowN pg a) (insR (s.2.2.2.2.2.1 (rowN pg a)) pc (a + 1)) := by show rwT pg a pc _ = _; unfold rwT; exact if_pos hp
  have z1 : ∀ x, (tkC pg nm s a s9 pc).2.2.2.2.2.2.1 x = if x = rowN pg a then s.2.2.2.2.2.2.1 x + 1 else s.2.2.2.2.2.2.1 x := fun x => by
    rw [ez]
    by_cases e : x = rowN pg a
    · rw [if_pos e, e, updN_s]
    · rw [if_neg e, updN_n e]
  have s1 : ∀ x p, x ≠ rowN pg a → sr9 (tkC pg nm s a s9 pc) x p = sr9 s x p := fun x p e => by unfold sr9; rw [er, ez]; exact srA_o e
  have s2 : ∀ p, 1 ≤ p → p ≤ s.2.2.2.2.2.2.1 (rowN pg a) + 1 → sr9 (tkC pg nm s a s9 pc) (rowN pg a) p = if p < pc then sr9 s (rowN pg a) p else if p = pc then a + 1 else sr9 s (rowN pg a) (p - 1) := fun p h1 h2 => by
    unfold sr9
    rw [er, ez]
    exact srA_ins hp kz hz6 (by omega) h1 h2
  refine ⟨z1, s1, s2, fun K x e => ?_, fun K hK => ?_, fun K hK hlt => ?_⟩
  · rw [kq_la, kq_la, z1, if_neg e]
    exact laP_cgn _ (fun i _ => by rw [s1 x _ e])
  · rw [kq_la, kq_la, z1, if_pos rfl]
    rw [laP_ins (p := fun i => K.testBit (sr9 s (rowN pg a) (i + 1) - 1)) (k := pc - 1) (fun i hi => ?_) ?_ _ (by omega) (fun i h1 h2 => ?_)]
    · by_cases q : pc ≤ laP (fun i => K.testBit (sr9 s (rowN pg a) (i + 1) - 1)) (s.2.2.2.2.2.2.1 (rowN pg a))
      · rw [if_pos q, if_pos (by omega)]
      · rw [if_neg q, if_neg (by omega)]
    · rw [s2 _ (by omega) (by omega), if_neg (by omega), if_pos (by omega), Nat.add_sub_cancel]; exact hK
    · rw [s2 _ (by omega) (by omega), if_pos (by omega)]
    · rw [s2 _ (by omega) (by omega), if_neg (by omega), if_neg (by omega), Nat.add_sub_cancel, (by omega : i - 1 + 1 = i)]
  · rw [kq_la] at hlt
    rw [kq_la, z1, if_pos rfl]
    have := laP_is (p := fun i => K.testBit (sr9 (tkC pg nm s a s9 pc) (rowN pg a) (i + 1) - 1)) (k := pc - 1) (by
      rw [s2 _ (by omega) (by omega), if_neg (by omega), if_pos (by omega), Nat.add_sub_cancel]; exact hK) (s.2.2.2.2.2.2.1 (rowN pg a) + 1) (by omega) (fun i h1 h2 => by
      rw [s2 _ (by omega) (by omega), if_neg (by omega), if_neg (by omega), Nat.add_sub_cancel]
      have h3 := laP_hi _ (i - 1) (by omega : laP (fun i => K.testBit (sr9 s (rowN pg a) (i + 1) - 1)) (s.2.2.2.2.2.2.1 (rowN pg a)) ≤ i - 1) (by omega)
      rw [(by omega : i - 1 + 1 = i)] at h3
      exact h3)
    rw [this]; omega
/-- one comes to a row -/
theorem IvQ_wr (hX : PX T Ac pg nm zs kd vx rr vv) (hI : IvQ T Ac pg nm s) (ht : t < T) (hq : s.2.2.1 t < pg 0 t) (ha : a = pg 1 (t * 7 + s.2.2.1 t)) (hS : StK9 pg s a s9 pc) (hp : 0 < pc) : IvQ T Ac pg nm (tkC pg nm s a s9 pc) := by
  obtain ⟨a1, a2, a3, a4, a5, a6⟩ := px_next hX hI.1 ht hq ha
  obtain ⟨k1, k4, kz, kk, kad⟩ := hS.2.1 hp
  obtain ⟨w1, w2⟩ := st_src hX hI a2 hS
  have r4 := row_4 hX a2
  have e9 : w9K pg a = 2 ^ a := by unfold w9K; exact if_pos ⟨k1, k4⟩
  have hle : (tkC pg nm s a s9 pc).2.2.2.2.2.2.2.1 = updN s.2.2.2.2.2.2.2.1 (pg 2 a) (s.2.2.2.2.2.2.2.1 (pg 2 a) ||| s.2.2.2.2.2.2.2.2 s9 ||| w9K pg a) := by
    show leT pg a pc _ _ s9 = _
    unfold leT
    rw [if_pos hp, e9]
  obtain ⟨l1, l2, l3⟩ := le_own hX hI ht hq ha hS hle
  obtain ⟨m1, m2, m3, m4, m5, m6, m7, m8, m9, m10⟩ := st_com hX hI ht hq ha hS
  obtain ⟨z1, s1, s2, q1, q2, q3⟩ := put_rows hX hI ht hq ha hS hp
  have hI0 := hI
  obtain ⟨j1, j2, j3, j4, j5, j6, j7, j8, j9, j10, j11, j12, j13, j14, j15, -⟩ := hI
  have ca : (tkC pg nm s a s9 pc).2.2.2.2.2.2.2.2 (a + 1) = s.2.2.2.2.2.2.2.1 (pg 2 a) ||| s.2.2.2.2.2.2.2.2 s9 ||| 2 ^ a := by
    show ctT pg a pc s.2.2.2.2.2.2.2.1 s.2.2.2.2.2.2.2.2 s9 (a + 1) = _
    unfold ctT; rw [if_pos hp, updN_s]
  have hbit : ∀ b, (tkC pg nm s a s9 pc).1.testBit b = true → s.1.testBit b = true ∨ b = a := fun b hb => by
    have hb : (s.1 ||| 2 ^ a).testBit b = true := hb
    by_cases e : b = a
    · exact Or.inr e
    · rw [b_ne e] at hb; exact Or.inl hb
  have hdone : ∀ b, s.1.testBit b = true → (tkC pg nm s a s9 pc).1.testBit b = true := fun b hb => by
    show (s.1 ||| 2 ^ a).testBit b = true
    rw [bit_set, hb]; rfl
  have hda : (tkC pg nm s a s9 pc).1.testBit a = true := b_eq
  have wback : ∀ q, wrT pg (tkC pg nm s a s9 pc).1 q → wrT pg s.1 q ∨ q = a + 1 := fun q h => by
    rcases h with z | ⟨z1, z2, z3, z4⟩
    · exact Or.inl (Or.inl z)
    · rcases hbit _ z2 with y | y
      · exact Or.inl (Or.inr ⟨z1, y, z3, z4⟩)
      · by_cases z0 : q = 0
        · exact Or.inl (Or.inl z0)
        · exact Or.inr (by omega)
  have old : ∀ x p, x < 4 → 1 ≤ p → p ≤ s.2.2.2.2.2.2.1 x → sr9 s x p ≠ a + 1 ∧ 1 ≤ sr9 s x p ∧ s.1.testBit (sr9 s x p - 1) = true := fun x p hx h1 h2 => by
    obtain ⟨y1, y2, y3, -⟩ := row_in hI0 hx h1 h2
    refine ⟨fun e => ?_, y1, y3⟩
    rw [e, Nat.add_sub_cancel, a5] at y3; exact Bool.false_ne_true y3
  have ctna : ∀ q, wrT pg s.1 q → (s.2.2.2.2.2.2.2.2 q).testBit a = false := fun q hq2 => by
    cases z : (s.2.2.2.2.2.2.2.2 q).testBit a with
    | false => rfl
    | true => have := j8 q a hq2 z; rw [a5] at this; exact absurd this Bool.false_ne_true
  have lena : (s.2.2.2.2.2.2.2.1 (pg 2 a)).testBit a = false := by
    cases z : (s.2.2.2.2.2.2.2.1 (pg 2 a)).testBit a with
    | false => rfl
    | true => have := j7 _ a (by rw [a3]; exact ht) z; rw [a5] at this; exact absurd this Bool.false_ne_true
  -- the place of an old one in its row
  have ctold : ∀ x p, x < 4 → p ≤ s.2.2.2.2.2.2.1 x → (tkC pg nm s a s9 pc).2.2.2.2.2.2.2.2 (sr9 s x p) = s.2.2.2.2.2.2.2.2 (sr9 s x p) := fun x p hx h2 => m6 _ (row_wr hI0 hx h2)
  have knew : kq s (s.2.2.2.2.2.2.2.1 (pg 2 a) ||| s.2.2.2.2.2.2.2.2 s9 ||| 2 ^ a) (rowN pg a) < pc := by
    have e : kq s (s.2.2.2.2.2.2.2.1 (pg 2 a) ||| s.2.2.2.2.2.2.2.2 s9 ||| 2 ^ a) (rowN pg a) = kq s (s.2.2.2.2.2.2.2.1 (pg 2 a) ||| s.2.2.2.2.2.2.2.2 s9) (rowN pg a) := by
      rw [kq_la, kq_la]
      refine laP_cgn _ (fun i hi => ?_)
      obtain ⟨y1, y2, y3⟩ := old (rowN pg a) (i + 1) r4 (by omega) (by omega)
      rw [Nat.testBit_or, Nat.testBit_two_pow, decide_eq_false (by omega), Bool.or_false]
    rw [e]; exact kk
  have hown : ∀ p, pc ≤ p → p ≤ s.2.2.2.2.2.2.1 (rowN pg a) → pg 2 (sr9 s (rowN pg a) p - 1) ≠ pg 2 a := fun p h1 h2 e => by
    obtain ⟨y1, y2, y3, y4, y5, y6⟩ := row_in hI0 r4 (by omega) h2
    have h9 := j9 _ y3 y4 y5
    rw [e] at h9
    rw [kq_la] at kk
    have h3 := laP_hi _ (p - 1) (by omega : laP (fun i => (s.2.2.2.2.2.2.2.1 (pg 2 a) ||| s.2.2.2.2.2.2.2.2 s9).testBit (sr9 s (rowN pg a) (i + 1) - 1)) (s.2.2.2.2.2.2.1 (rowN pg a)) ≤ p - 1) (by omega)
    rw [(by omega : p - 1 + 1 = p), Nat.testBit_or, h9, Bool.true_or] at h3
    exact absurd h3 (by decide)
  refine ⟨m1, m2, fun x hx => ?_, fun x p p' hx h1 h2 h3 h4 e => ?_, fun b hb y1 y4 => ?_, m7, l1, fun q b hq2 hb => ?_, fun b hb y1 y4 => ?_, fun x p hx h1 h2 => ?_, l3, fun b hb y1 y4 => ?_, fun x p p' hx h1 h2 h3 e => ?_, fun x p hx h1 h2 hk2 => ?_, m9, m10⟩
  · rw [z1]
    show _ = ctB (rowP pg (s.1 ||| 2 ^ a) x) 7
    by_cases e : x = rowN pg a
    · rw [if_pos e, ctB_set (p := rowP pg s.1 x) (a := a) (fun b hb => rowP_o hb) (by unfold rowP; rw [a5]; rfl) (by unfold rowP; rw [b_eq, decide_eq_true ⟨k1, k4, e.symm⟩]; rfl) 7, if_pos a1, j3 x hx]
    · rw [if_neg e, ctB_cg9 (rowP_n (fun q => e q.2.2.symm)) 7]; exact j3 x hx
  · rw [z1] at h2 h4
    by_cases c : x = rowN pg a
    · rw [c] at h2 h4 e
      rw [if_pos rfl] at h2 h4
      rw [s2 p h1 h2, s2 p' h3 h4] at e
      have o := fun i (y1 : 1 ≤ i) (y2 : i ≤ s.2.2.2.2.2.2.1 (rowN pg a)) => (old (rowN pg a) i r4 y1 y2).1
      by_cases c1 : p < pc
      · rw [if_pos c1] at e
        by_cases c2 : p' < pc
        · rw [if_pos c2] at e; exact j4 _ p p' r4 h1 (by omega) h3 (by omega) e
        · rw [if_neg c2] at e
          by_cases c3 : p' = pc
          · rw [if_pos c3] at e; exact absurd e (o p h1 (by omega))
          · rw [if_neg c3] at e
            have := j4 _ p (p' - 1) r4 h1 (by omega) (by omega) (by omega) e
            omega
      · rw [if_neg c1] at e
        by_cases c4 : p = pc
        · rw [if_pos c4] at e
          by_cases c2 : p' < pc
          · rw [if_pos c2] at e; exact absurd e.symm (o p' h3 (by omega))
          · rw [if_neg c2] at e
            by_cases c3 : p' = pc
            · omega
            · rw [if_neg c3] at e; exact absurd e.symm (o (p' - 1) (by omega) (by omega))
        · rw [if_neg c4] at e
          by_cases c2 : p' < pc
          · rw [if_pos c2] at e
            have := j4 _ (p - 1) p' r4 (by omega) (by omega) h3 (by omega) e
            omega
          · rw [if_neg c2] at e
            by_cases c3 : p' = pc
            · rw [if_pos c3] at e; exact absurd e (o (p - 1) (by omega) (by omega))
            · rw [if_neg c3] at e
              have := j4 _ (p - 1) (p' - 1) r4 (by omega) (by omega) (by omega) (by omega) e
              omega
    · rw [if_neg c] at h2 h4
      rw [s1 x p c, s1 x p' c] at e
      exact j4 x p p' hx h1 h2 h3 h4 e
  · by_cases e : b = a
    · rw [e]
      exact ⟨pc, hp, by rw [z1, if_pos rfl]; exact kz, by rw [s2 pc hp kz, if_neg (Nat.lt_irrefl pc), if_pos rfl]⟩
    · obtain ⟨p, y5, y6, y7⟩ := j5 b ((hbit b hb).resolve_right e) y1 y4
      by_cases c : rowN pg b = rowN pg a
      · rw [c] at y6 y7 ⊢
        by_cases c1 : p < pc
        · exact ⟨p, y5, by rw [z1, if_pos rfl]; omega, by rw [s2 p y5 (by omega), if_pos c1]; exact y7⟩
        · exact ⟨p + 1, by omega, by rw [z1, if_pos rfl]; omega, by rw [s2 (p + 1) (by omega) (by omega), if_neg (by omega), if_neg (by omega), Nat.add_sub_cancel]; exact y7⟩
      · exact ⟨p, y5, by rw [z1, if_neg c]; exact y6, by rw [s1 _ p c]; exact y7⟩
  · rcases wback q hq2 with h | h
    · rw [m6 q h] at hb; exact hdone b (j8 q b h hb)
    · rw [h, ca, Nat.testBit_or, Nat.testBit_or, Bool.or_eq_true, Bool.or_eq_true] at hb
      rcases hb with (y | y) | y
      · exact hdone b (j7 _ b (by rw [a3]; exact ht) y)
      · exact hdone b (j8 _ b w1 y)
      · have e2 : a = b := by rw [Nat.testBit_two_pow] at y; exact of_decide_eq_true y
        rw [← e2]; exact hda
  · by_cases e : b = a
    · rw [hle, e, updN_s, Nat.testBit_or, e9, Nat.testBit_two_pow, decide_eq_true rfl, Bool.or_true]
    · exact l2 b ((hbit b hb).resolve_right e) y1 y4
  · rw [z1] at h2
    by_cases c : x = rowN pg a
    · rw [c] at h2 ⊢
      rw [if_pos rfl] at h2
      rw [s2 p h1 h2]
      by_cases c1 : p < pc
      · rw [if_pos c1, ctold _ p r4 (by omega), q2 _ (ctna _ (row_wr hI0 r4 (by omega))), j10 _ p r4 h1 (by omega), if_neg (by omega)]
      · rw [if_neg c1]
        by_cases c2 : p = pc
        · rw [if_pos c2, ca, q3 _ (by rw [Nat.testBit_or, Nat.testBit_two_pow, decide_eq_true rfl, Bool.or_true]) knew]; exact c2.symm
        · rw [if_neg c2, ctold _ (p - 1) r4 (by omega), q2 _ (ctna _ (row_wr hI0 r4 (by omega))), j10 _ (p - 1) r4 (by omega) (by omega), if_pos (by omega)]; omega
    · rw [if_neg c] at h2
      rw [s1 x p c, ctold x p hx h2, q1 _ x c]; exact j10 x p hx h1 h2
  · rw [m8]
    by_cases e : b = a
    · rw [e, ca, if_pos ⟨rfl, Nat.lt_succ_self a⟩, e9, j11 _ (by rw [a3]; exact ht)]
      have : oM pg s.1 s.2.1 s.2.2.2.2.2.2.2.2 (pg 2 a) 7 = oM pg s.1 s.2.1 s.2.2.2.2.2.2.2.2 (pg 2 a) (a + 1) := by
        have h : ∀ n, a ≤ n → oM pg s.1 s.2.1 s.2.2.2.2.2.2.2.2 (pg 2 a) n = oM pg s.1 s.2.1 s.2.2.2.2.2.2.2.2 (pg 2 a) a := fun n hn => by
          induction n with
          | zero => rw [(by omega : a = 0)]
          | succ n ih =>
            by_cases z : a = n + 1
            · rw [z]
            · rw [oM_s, if_neg, ih (by omega)]
              intro q
              have := a6 n q.1 (by rw [q.2, a3])
              omega
        rw [h 7 (by omega), h (a + 1) (by omega)]
      rw [this]
    · have hb2 := (hbit b hb).resolve_right e
      have hb7 := bit_hi j1.1 hb2
      rw [m6 _ (Or.inr ⟨by omega, by rw [Nat.add_sub_cancel]; exact hb2, by rw [Nat.add_sub_cancel]; exact y1, by rw [Nat.add_sub_cancel]; exact y4⟩), if_neg, j12 b hb2 y1 y4]
      intro q
      have := a6 b hb2 (by rw [q.1, a3])
      omega
  · rw [z1] at h3
    by_cases c : x = rowN pg a
    · rw [c] at h3 e ⊢
      rw [if_pos rfl] at h3
      rw [s2 p h1 (by omega), s2 p' (by omega) h3] at e ⊢
      by_cases c1 : p < pc
      · rw [if_pos c1] at e ⊢
        by_cases c2 : p' < pc
        · rw [if_pos c2] at e ⊢; exact j13 _ p p' r4 h1 h2 (by omega) e
        · rw [if_neg c2] at e ⊢
          by_cases c3 : p' = pc
          · rw [if_pos c3] at e ⊢
            rw [Nat.add_sub_cancel] at e
            obtain ⟨y1, y2, y3⟩ := old _ p r4 h1 (by omega)
            have := a6 _ y3 (by rw [e, a3])
            omega
          · rw [if_neg c3] at e ⊢; exact j13 _ p (p' - 1) r4 h1 (by omega) (by omega) e
      · rw [if_neg c1] at e ⊢
        have n1 : ¬ p' < pc := by omega
        have n2 : ¬ p' = pc := by omega
        rw [if_neg n1, if_neg n2] at e ⊢
        by_cases c4 : p = pc
        · rw [if_pos c4] at e
          rw [Nat.add_sub_cancel] at e
          exact absurd e.symm (hown (p' - 1) (by omega) (by omega))
        · rw [if_neg c4] at e ⊢; exact j13 _ (p - 1) (p' - 1) r4 (by omega) (by omega) (by omega) e
    · rw [if_neg c] at h3
      rw [s1 x p c, s1 x p' c] at e ⊢
      exact j13 x p p' hx h1 h2 h3 e
  · rw [z1] at h2
    by_cases c : x = rowN pg a
    · rw [c] at h2 hk2 ⊢
      rw [if_pos rfl] at h2
      have pr : sr9 (tkC pg nm s a s9 pc) (rowN pg a) (p - 1) = if p - 1 < pc then sr9 s (rowN pg a) (p - 1) else if p - 1 = pc then a + 1 else sr9 s (rowN pg a) (p - 1 - 1) := by
        by_cases z : p - 1 = 0
        · rw [z, sr9_0, if_pos hp, sr9_0]
        · exact s2 (p - 1) (by omega) (by omega)
      rw [s2 p h1 h2] at hk2 ⊢
      by_cases c1 : p < pc
      · rw [if_pos c1] at hk2 ⊢
        rw [pr, if_pos (by omega), m3 _ (old _ p r4 h1 (by omega)).2.2]
        exact j14 _ p r4 h1 (by omega) hk2
      · rw [if_neg c1] at hk2 ⊢
        by_cases c2 : p = pc
        · rw [if_pos c2, Nat.add_sub_cancel] at hk2 ⊢
          rw [m4, pr, if_pos (by omega), c2]
          exact (hS.2.2.2.1 hk2).2
        · rw [if_neg c2] at hk2 ⊢
          by_cases c3 : p - 1 = pc
          · exfalso
            rw [c3] at hk2
            exact kad (by omega) hk2
          · rw [pr, if_neg (by omega), if_neg c3, m3 _ (old _ (p - 1) r4 (by omega) (by omega)).2.2]
            exact j14 _ (p - 1) r4 (by omega) (by omega) hk2
    · rw [if_neg c] at h2
      rw [s1 x p c] at hk2 ⊢
      rw [s1 x (p - 1) c, m3 _ (old x p hx h1 h2).2.2]
      exact j14 x p hx h1 h2 hk2
end STW
