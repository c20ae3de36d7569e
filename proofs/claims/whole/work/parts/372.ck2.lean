/-- a step of the class in model 3 -/
def StK9 (pg : Nat → Nat → Nat) (s : S9K) (a s9 pc : Nat) : Prop :=
  (pc = 0 → pg 4 a = 0 ∨ pg 4 a = 5) ∧ (0 < pc → 1 ≤ pg 4 a ∧ pg 4 a ≤ 4 ∧ pc ≤ s.2.2.2.2.2.2.1 (rowN pg a) + 1 ∧ kq s (s.2.2.2.2.2.2.2.1 (pg 2 a) ||| s.2.2.2.2.2.2.2.2 s9) (rowN pg a) < pc ∧ (pc ≤ s.2.2.2.2.2.2.1 (rowN pg a) → ¬ (pg 4 (sr9 s (rowN pg a) pc - 1) = 3 ∨ pg 4 (sr9 s (rowN pg a) pc - 1) = 4))) ∧
  (pg 4 a = 0 → ∃ k, k ≤ s.2.2.2.2.2.2.1 (pg 5 a) ∧ s9 = sr9 s (pg 5 a) k) ∧ (pg 4 a = 3 ∨ pg 4 a = 4 → 0 < pc ∧ s9 = sr9 s (rowN pg a) (pc - 1)) ∧ (pg 4 a = 1 ∨ pg 4 a = 2 ∨ pg 4 a = 5 → s9 = 0)
theorem kok_0 {d T Ac : Nat} {pg : Nat → Nat → Nat} {dn : Nat} {so : Int64} {pl rw zs le ct : Nat → Nat} (h : KOk d T Ac pg dn so pl rw zs le ct) : KOk 0 T Ac pg dn so pl rw zs le ct := by
  obtain ⟨s1, s2, s3, s4, s5, s6, s7, s8, s10⟩ := h
  exact ⟨s1, s2, s3, s4, s5, s6, s7, s8, Nat.zero_le _⟩
theorem sr9_0 {s : S9K} {x : Nat} : sr9 s x 0 = 0 := by unfold sr9 srA; exact if_pos (Or.inl (by decide))
theorem sr9_hi {s : S9K} {x p : Nat} (h : s.2.2.2.2.2.2.1 x < p) : sr9 s x p = 0 := by unfold sr9 srA; exact if_pos (Or.inr h)
def w9K (pg : Nat → Nat → Nat) (n : Nat) : Nat := if 1 ≤ pg 4 n ∧ pg 4 n ≤ 4 then 2 ^ n else 0
theorem oM_s {pg : Nat → Nat → Nat} {dn : Nat} {so : Int64} {ct : Nat → Nat} {t n : Nat} : oM pg dn so ct t (n + 1) = if dn.testBit n = true ∧ pg 2 n = t then oM pg dn so ct t n ||| ct (sA so n) ||| w9K pg n else oM pg dn so ct t n := rfl
section STQ
variable {T Ac : Nat} {pg : Nat → Nat → Nat} {nm : Nat → Int32} {zs kd vx rr : Nat → Nat} {vv : Nat → Int32} {s : S9K} {t a s9 pc : Nat}
theorem row_in (hI : IvQ T Ac pg nm s) {x p : Nat} (hx : x < 4) (h1 : 1 ≤ p) (h2 : p ≤ s.2.2.2.2.2.2.1 x) : inR pg s.1 x (sr9 s x p) := hI.2.1.2.2.2.2.2.1 x p hx h1 h2
theorem row_wr (hI : IvQ T Ac pg nm s) {x p : Nat} (hx : x < 4) (h2 : p ≤ s.2.2.2.2.2.2.1 x) : wrT pg s.1 (sr9 s x p) := by
  by_cases h1 : 1 ≤ p
  · exact wrT_of (row_in hI hx h1 h2)
  · rw [(by omega : p = 0), sr9_0]; exact Or.inl rfl
theorem row_4 (hX : PX T Ac pg nm zs kd vx rr vv) (ha : a < Ac) : rowN pg a < 4 := by
  unfold rowN
  split
  · have := (hX.1.2.2.2.2.1 a ha).2.2.2.1 (by assumption); omega
  · decide
theorem st_src (hX : PX T Ac pg nm zs kd vx rr vv) (hI : IvQ T Ac pg nm s) (haA : a < Ac) (hS : StK9 pg s a s9 pc) : wrT pg s.1 s9 ∧ (pg 4 a = 0 ∨ pg 4 a = 3 → wr pg s.1 s9) := by
  obtain ⟨h1, h2, h3, h4, h5⟩ := hS
  have hk := (hX.1.2.2.2.2.1 a haA).2.2.1
  have hr4 := row_4 hX haA
  have wx : ∀ x p, x < 3 → p ≤ s.2.2.2.2.2.2.1 x → wr pg s.1 (sr9 s x p) := fun x p hx hp => by
    by_cases q : 1 ≤ p
    · exact wr_of hx (row_in hI (by omega) q hp)
    · rw [(by omega : p = 0), sr9_0]; exact Or.inl rfl
  by_cases k0 : pg 4 a = 0
  · obtain ⟨k, q1, q2⟩ := h3 k0
    have hx := (hX.1.2.2.2.2.1 a haA).2.2.2.1 (by omega)
    rw [q2]; exact ⟨row_wr hI (by omega) q1, fun _ => wx _ _ hx q1⟩
  · by_cases k34 : pg 4 a = 3 ∨ pg 4 a = 4
    · obtain ⟨q1, q2⟩ := h4 k34
      have q3 := (h2 q1).2.2.1
      rw [q2]
      refine ⟨row_wr hI hr4 (by omega), fun q => ?_⟩
      have k3 : pg 4 a = 3 := by omega
      have hx := (hX.1.2.2.2.2.1 a haA).2.2.2.1 (by omega)
      have e : rowN pg a = pg 5 a := by unfold rowN; exact if_pos (by omega)
      rw [e] at q3 ⊢
      exact wx _ _ hx (by omega)
    · rw [h5 (by omega)]; exact ⟨Or.inl rfl, fun _ => Or.inl rfl⟩
theorem oM_set {dn : Nat} {so so2 : Int64} {ct ct2 : Nat → Nat} (ha : dn.testBit a = false) (hlt : ∀ b, dn.testBit b = true → pg 2 b = pg 2 a → b < a) (h1 : ∀ b, dn.testBit b = true → ct2 (sA so2 b) = ct (sA so b)) (h2 : ct2 (sA so2 a) = ct s9) (u : Nat) :
    ∀ n, oM pg (dn ||| 2 ^ a) so2 ct2 u n = if u = pg 2 a ∧ a < n then oM pg dn so ct u n ||| ct s9 ||| w9K pg a else oM pg dn so ct u n
  | 0 => by rw [if_neg (fun q => absurd q.2 (Nat.not_lt_zero a))]; rfl
  | n + 1 => by
    have ih := oM_set ha hlt h1 h2 u n
    rw [oM_s, oM_s]
    by_cases e : n = a
    · rw [e] at ih ⊢
      rw [b_eq, ha]
      rw [if_neg (fun q => absurd q.2 (Nat.lt_irrefl a))] at ih
      by_cases q : u = pg 2 a
      · rw [if_pos (show true = true ∧ pg 2 a = u from ⟨rfl, q.symm⟩), if_pos (show u = pg 2 a ∧ a < a + 1 from ⟨q, Nat.lt_succ_self a⟩), if_neg (show ¬ (false = true ∧ pg 2 a = u) from fun z => Bool.false_ne_true z.1), ih, h2]
      · rw [if_neg (show ¬ (true = true ∧ pg 2 a = u) from fun z => q z.2.symm), if_neg (show ¬ (u = pg 2 a ∧ a < a + 1) from fun z => q z.1), if_neg (show ¬ (false = true ∧ pg 2 a = u) from fun z => Bool.false_ne_true z.1), ih]
    · rw [b_ne e]
      by_cases q : dn.testBit n = true ∧ pg 2 n = u
      · rw [if_pos q, if_pos q, h1 n q.1, ih]
        by_cases z : u = pg 2 a
        · have := hlt n q.1 (by rw [q.2, z])
          rw [if_neg (show ¬ (u = pg 2 a ∧ a < n) from fun y => absurd y.2 (by omega)), if_neg (show ¬ (u = pg 2 a ∧ a < n + 1) from fun y => absurd y.2 (by omega))]
        · rw [if_neg (show ¬ (u = pg 2 a ∧ a < n) from fun y => z y.1), if_neg (show ¬ (u = pg 2 a ∧ a < n + 1) from fun y => z y.1)]
      · rw [if_neg q, if_neg q, ih]
        by_cases z : u = pg 2 a ∧ a < n
        · rw [if_pos z, if_pos (show u = pg 2 a ∧ a < n + 1 from ⟨z.1, by omega⟩)]
        · rw [if_neg z, if_neg (show ¬ (u = pg 2 a ∧ a < n + 1) from fun y => z ⟨y.1, by omega⟩)]
/-- what a step leaves as it was, and what it adds -/
theorem st_com (hX : PX T Ac pg nm zs kd vx rr vv) (hI : IvQ T Ac pg nm s) (ht : t < T) (hq : s.2.2.1 t < pg 0 t) (ha : a = pg 1 (t * 7 + s.2.2.1 t)) (hS : StK9 pg s a s9 pc) :
    PgI T Ac pg nm (tkC pg nm s a s9 pc).1 (tkC pg nm s a s9 pc).2.1 (tkC pg nm s a s9 pc).2.2.1 (tkC pg nm s a s9 pc).2.2.2.1 (tkC pg nm s a s9 pc).2.2.2.2.1 ∧
    KOk 0 T Ac pg (tkC pg nm s a s9 pc).1 (tkC pg nm s a s9 pc).2.1 (tkC pg nm s a s9 pc).2.2.1 (tkC pg nm s a s9 pc).2.2.2.2.2.1 (tkC pg nm s a s9 pc).2.2.2.2.2.2.1 (tkC pg nm s a s9 pc).2.2.2.2.2.2.2.1 (tkC pg nm s a s9 pc).2.2.2.2.2.2.2.2 ∧
    (∀ b, s.1.testBit b = true → sA (tkC pg nm s a s9 pc).2.1 b = sA s.2.1 b) ∧ sA (tkC pg nm s a s9 pc).2.1 a = s9 ∧ (∀ b, b < 7 → b ≠ a → sA (tkC pg nm s a s9 pc).2.1 b = sA s.2.1 b) ∧
    (∀ q, wrT pg s.1 q → (tkC pg nm s a s9 pc).2.2.2.2.2.2.2.2 q = s.2.2.2.2.2.2.2.2 q) ∧ (tkC pg nm s a s9 pc).2.2.2.2.2.2.2.2 0 = 0 ∧
    (∀ u n, oM pg (tkC pg nm s a s9 pc).1 (tkC pg nm s a s9 pc).2.1 (tkC pg nm s a s9 pc).2.2.2.2.2.2.2.2 u n = if u = pg 2 a ∧ a < n then oM pg s.1 s.2.1 s.2.2.2.2.2.2.2.2 u n ||| s.2.2.2.2.2.2.2.2 s9 ||| w9K pg a else oM pg s.1 s.2.1 s.2.2.2.2.2.2.2.2 u n) ∧
    (∀ b, b < 7 → (pg 4 b = 1 ∨ pg 4 b = 2 ∨ pg 4 b = 5) → sA (tkC pg nm s a s9 pc).2.1 b = 0) ∧
    ∃ (ps : Nat → Nat) (N : Nat), (∀ b, (tkC pg nm s a s9 pc).1.testBit b = true → ps b < N) ∧ (∀ b d, (tkC pg nm s a s9 pc).1.testBit b = true → (tkC pg nm s a s9 pc).1.testBit d = true → pg 2 b = pg 2 d → b < d → ps b < ps d) ∧ (∀ b, (tkC pg nm s a s9 pc).1.testBit b = true → sA (tkC pg nm s a s9 pc).2.1 b ≠ 0 → wrT pg (tkC pg nm s a s9 pc).1 (sA (tkC pg nm s a s9 pc).2.1 b) ∧ ps (sA (tkC pg nm s a s9 pc).2.1 b - 1) < ps b) := by
  obtain ⟨a1, a2, a3, a4, a5, a6⟩ := px_next hX hI.1 ht hq ha
  obtain ⟨w1, w2⟩ := st_src hX hI a2 hS
  have hS' := hS
  obtain ⟨c1, c2, c3, c4, c5⟩ := hS'
  have hq8 := wrT_lt w1
  have hI' := hI
  obtain ⟨j1, j2, j3, j4, j5, j6, j7, j8, j9, j10, j11, j12, j13, j14, j15, ps, N, j16, j17, j18⟩ := hI'
  obtain ⟨sp, -, -⟩ := sA_P j1.2.2.2.1 j1.2.2.2.2.1 (j1.2.2.2.2.2.1 a a1 a5) hq8 a1
  have b7 : ∀ b, s.1.testBit b = true → b < 7 := fun b hb => bit_hi j1.1 hb
  have bn : ∀ b, s.1.testBit b = true → b ≠ a := fun b hb e => by rw [e, a5] at hb; exact absurd hb Bool.false_ne_true
  have spb : ∀ b, s.1.testBit b = true → sA (tkC pg nm s a s9 pc).2.1 b = sA s.2.1 b := fun b hb => by
    show sA (srcP s.2.1 s9 a) b = _
    rw [sp b (b7 b hb), if_neg (bn b hb)]
  have spa : sA (tkC pg nm s a s9 pc).2.1 a = s9 := by
    show sA (srcP s.2.1 s9 a) a = _
    rw [sp a a1, if_pos rfl]
  have spo : ∀ b, b < 7 → b ≠ a → sA (tkC pg nm s a s9 pc).2.1 b = sA s.2.1 b := fun b hb hn => by
    show sA (srcP s.2.1 s9 a) b = _
    rw [sp b hb, if_neg hn]
  have ctk : ∀ q, wrT pg s.1 q → (tkC pg nm s a s9 pc).2.2.2.2.2.2.2.2 q = s.2.2.2.2.2.2.2.2 q := fun q h => (ctT_bk h a5).1
  have swr : ∀ b, s.1.testBit b = true → wrT pg s.1 (sA s.2.1 b) := fun b hb => by
    by_cases z : sA s.2.1 b = 0
    · exact Or.inl z
    · exact (j18 b hb z).1
  have hbit : ∀ b, (tkC pg nm s a s9 pc).1.testBit b = true → s.1.testBit b = true ∨ b = a := fun b hb => by
    have hb : (s.1 ||| 2 ^ a).testBit b = true := hb
    by_cases e : b = a
    · exact Or.inr e
    · rw [b_ne e] at hb; exact Or.inl hb
  have hps := psP_in (K := pg 4 a) (r := s.2.2.2.1 (pg 6 a)) (v := nm a) (hX.1.2.2.2.2.1 a a2).2.2.2.2.1
  have wset : ∀ q, wrT pg s.1 q → wrT pg (tkC pg nm s a s9 pc).1 q := fun q h => (ctT_bk (pc := pc) (s9 := s9) (le := s.2.2.2.2.2.2.2.1) (ct := s.2.2.2.2.2.2.2.2) h a5).2
  refine ⟨PgI_step hX j1 ht hq ha hq8 w2, kok_0 (k_take hX.1 j2 ht hq ha hq8 hps (by
    by_cases z : pc = 0
    · exact Or.inl z
    · have := c2 (by omega); exact Or.inr ⟨by omega, this.2.2.1, this.1, this.2.1⟩)), spb, spa, spo, ctk, by rw [ctk 0 (Or.inl rfl)]; exact j6, fun u n => ?_, fun b hb hk => ?_, updN ps a N, N + 1, fun b hb => ?_, fun b d hb hd e l => ?_, fun b hb h0 => ?_⟩
  · exact oM_set (so := s.2.1) (ct := s.2.2.2.2.2.2.2.2) a5 (fun b hb e => a6 b hb (by rw [e, a3])) (fun b hb => by rw [spb b hb, ctk _ (swr b hb)]) (by rw [spa, ctk _ w1]) u n
  · by_cases e : b = a
    · rw [e, spa]; rw [e] at hk; exact c5 hk
    · rw [spo b hb e]; exact j15 b hb hk
  · rcases hbit b hb with h | h
    · rw [updN_n (bn b h)]; have := j16 b h; omega
    · rw [h, updN_s]; omega
  · rcases hbit b hb with h | h
    · rw [updN_n (bn b h)]
      rcases hbit d hd with h2 | h2
      · rw [updN_n (bn d h2)]; exact j17 b d h h2 e l
      · rw [h2, updN_s]; exact j16 b h
    · rcases hbit d hd with h2 | h2
      · rw [h, a3] at e
        have := a6 d h2 e.symm
        omega
      · omega
  · rcases hbit b hb with h | h
    · rw [spb b h] at h0 ⊢
      obtain ⟨q1, q2⟩ := j18 b h h0
      refine ⟨wset _ q1, ?_⟩
      rcases q1 with z | ⟨z1, z2, -⟩
      · exact absurd z h0
      · rw [updN_n (bn b h), updN_n (bn _ z2)]; exact q2
    · rw [h, spa] at h0 ⊢
      refine ⟨wset _ w1, ?_⟩
      rcases w1 with z | ⟨z1, z2, -⟩
      · exact absurd z h0
      · rw [updN_s, updN_n (bn _ z2)]; exact j16 _ z2
end STQ
