/-- one that can be told of: the first one, or of a done action that comes to a row -/
def wrT (pg : Nat → Nat → Nat) (dn q : Nat) : Prop := q = 0 ∨ (q < 8 ∧ dn.testBit (q - 1) = true ∧ 1 ≤ pg 4 (q - 1) ∧ pg 4 (q - 1) ≤ 4)
def rowN (pg : Nat → Nat → Nat) (a : Nat) : Nat := if pg 4 a < 4 then pg 5 a else 3
/-- one that stands in the row x -/
def inR (pg : Nat → Nat → Nat) (dn x q : Nat) : Prop := 1 ≤ q ∧ q < 8 ∧ dn.testBit (q - 1) = true ∧ 1 ≤ pg 4 (q - 1) ∧ pg 4 (q - 1) ≤ 4 ∧ rowN pg (q - 1) = x
/-- what holds of every state of a run of model 3 at depth d -/
def KOk (d T Ac : Nat) (pg : Nat → Nat → Nat) (dn : Nat) (so : Int64) (pl rw zs le ct : Nat → Nat) : Prop :=
  dn < 128 ∧ (∀ t, t < T → pl t ≤ 10) ∧ (∀ a, a < 7 → dn.testBit a = false → srcU so a = so) ∧
  (∀ t q, t < T → pl t ≤ q → q < pg 0 t → dn.testBit (pg 1 (t * 7 + q)) = false) ∧
  (∀ x, x < 4 → zs x ≤ pop7 dn ∧ rw x < 8 ^ zs x) ∧ (∀ x p9, x < 4 → 1 ≤ p9 → p9 ≤ zs x → inR pg dn x (srA rw zs x p9)) ∧
  (∀ t, le t < 128) ∧ (∀ q, ct q < 128) ∧ d ≤ pop7 dn
theorem insR_sum {q p9 q9 : Nat} (hq : q9 < 8) : insR q p9 q9 = q % 2 ^ (3 * (p9 - 1)) + q9 * 2 ^ (3 * (p9 - 1)) + q / 2 ^ (3 * (p9 - 1)) * 2 ^ (3 * (p9 - 1) + 3) := by
  unfold insR
  generalize 3 * (p9 - 1) = k
  have hr : q % 2 ^ k < 2 ^ k := Nat.mod_lt _ (Nat.two_pow_pos k)
  have h1 : (q % 2 ^ k) ||| (q9 * 2 ^ k) = 2 ^ k * q9 + q % 2 ^ k := by
    rw [Nat.two_pow_add_eq_or_of_lt hr, Nat.or_comm, Nat.mul_comm q9]
  have h2 : 2 ^ k * q9 + q % 2 ^ k < 2 ^ (k + 3) := by
    have : 2 ^ k * q9 ≤ 2 ^ k * 7 := Nat.mul_le_mul_left _ (by omega)
    rw [Nat.pow_add]; omega
  rw [h1, Nat.or_comm, Nat.mul_comm (q / 2 ^ k), ← Nat.two_pow_add_eq_or_of_lt h2, Nat.mul_comm q9]
  omega
theorem dm_lo {r b D M Y : Nat} (hb : b = D * (8 * M)) (hD : 0 < D) : (r + b * Y) / D % 8 = r / D % 8 := by
  rw [hb, Nat.mul_assoc, Nat.add_mul_div_left _ _ hD, Nat.mul_assoc, Nat.add_mul_mod_self_left]
theorem ins_X {q k q9 : Nat} : q % 2 ^ k + q9 * 2 ^ k + q / 2 ^ k * 2 ^ (k + 3) = q % 2 ^ k + 2 ^ k * (q9 + q / 2 ^ k * 8) := by
  rw [Nat.pow_add, Nat.mul_add, Nat.mul_comm (2 ^ k) q9, ← Nat.add_assoc, Nat.mul_left_comm (2 ^ k)]
theorem ins_at {q p9 q9 : Nat} (hp1 : 1 ≤ p9) (hp7 : p9 ≤ 7) (hq8 : q9 < 8) {i : Nat} (h1 : 1 ≤ i) (h7 : i ≤ 7) : insR q p9 q9 / 2 ^ (3 * (i - 1)) % 8 = if i < p9 then q / 2 ^ (3 * (i - 1)) % 8 else if i = p9 then q9 else q / 2 ^ (3 * (i - 1 - 1)) % 8 := by
  rw [insR_sum hq8, ins_X]
  have hB : 0 < 2 ^ (3 * (p9 - 1)) := Nat.two_pow_pos _
  have hD : 0 < 2 ^ (3 * (i - 1)) := Nat.two_pow_pos _
  by_cases c1 : i < p9
  · rw [if_pos c1]
    have hM : 2 ^ (3 * (p9 - 1)) = 2 ^ (3 * (i - 1)) * (8 * 2 ^ (3 * (p9 - 1) - 3 * (i - 1) - 3)) := by
      rw [show (8 : Nat) = 2 ^ 3 from rfl, ← Nat.pow_add, ← Nat.pow_add]; congr 1; omega
    rw [dm_lo hM hD]
    have := dm_lo (r := q % 2 ^ (3 * (p9 - 1))) (Y := q / 2 ^ (3 * (p9 - 1))) hM hD
    rw [Nat.mod_add_div] at this
    exact this.symm
  · rw [if_neg c1]
    by_cases c2 : i = p9
    · rw [if_pos c2, c2, Nat.add_mul_div_left _ _ hB, Nat.div_eq_of_lt (Nat.mod_lt _ hB), Nat.zero_add, Nat.add_mul_mod_self_right, Nat.mod_eq_of_lt hq8]
    · rw [if_neg c2]
      have hM : 2 ^ (3 * (i - 1)) = 2 ^ (3 * (p9 - 1)) * (8 * 2 ^ (3 * (i - 1 - 1) - 3 * (p9 - 1))) := by
        rw [show (8 : Nat) = 2 ^ 3 from rfl, ← Nat.pow_add, ← Nat.pow_add]; congr 1; omega
      have hN : 2 ^ (3 * (i - 1 - 1)) = 2 ^ (3 * (p9 - 1)) * 2 ^ (3 * (i - 1 - 1) - 3 * (p9 - 1)) := by
        rw [← Nat.pow_add]; congr 1; omega
      rw [hM, ← Nat.div_div_eq_div_mul, ← Nat.div_div_eq_div_mul, Nat.add_mul_div_left _ _ hB, Nat.div_eq_of_lt (Nat.mod_lt _ hB), Nat.zero_add, Nat.add_mul_div_right _ _ (by decide), Nat.div_eq_of_lt hq8, Nat.zero_add, hN, ← Nat.div_div_eq_div_mul]
theorem ins_lt {q p9 q9 z : Nat} (hp1 : 1 ≤ p9) (hpz : p9 ≤ z + 1) (hz : z ≤ 6) (hr : q < 8 ^ z) (hq8 : q9 < 8) : insR q p9 q9 < 8 ^ (z + 1) := by
  rw [insR_sum hq8, ins_X]
  have hB : 0 < 2 ^ (3 * (p9 - 1)) := Nat.two_pow_pos _
  have hM : (8 : Nat) ^ z = 2 ^ (3 * (p9 - 1)) * 8 ^ (z - (p9 - 1)) := by
    rw [show (8 : Nat) = 2 ^ 3 from rfl, ← Nat.pow_mul, ← Nat.pow_mul, ← Nat.pow_add]; congr 1; omega
  have hc : q / 2 ^ (3 * (p9 - 1)) < 8 ^ (z - (p9 - 1)) := by
    rw [hM] at hr; exact Nat.div_lt_of_lt_mul hr
  have hm := Nat.mod_lt q hB
  rw [Nat.pow_succ, hM]
  have h2 : 2 ^ (3 * (p9 - 1)) * (q9 + q / 2 ^ (3 * (p9 - 1)) * 8 + 1) ≤ 2 ^ (3 * (p9 - 1)) * (8 ^ (z - (p9 - 1)) * 8) := Nat.mul_le_mul_left _ (by omega)
  rw [← Nat.mul_assoc] at h2
  rw [Nat.mul_succ] at h2
  omega
theorem updN_s {f : Nat → Nat} {k v : Nat} : updN f k v k = v := if_pos rfl
theorem updN_n {f : Nat → Nat} {k v j : Nat} (h : j ≠ k) : updN f k v j = f j := if_neg h
theorem updN_2 {f : Nat → Nat} {k v w : Nat} : updN (updN f k v) k w = updN f k w := by
  funext j; unfold updN; split <;> rfl
theorem updN_bk {f : Nat → Nat} {k v w : Nat} (h : w = f k) : updN (updN f k v) k w = f := by
  funext j; unfold updN; split
  · rename_i q; rw [q, h]
  · rfl
theorem srA_o {rw zs : Nat → Nat} {x y v w i : Nat} (h : x ≠ y) : srA (updN rw y v) (updN zs y w) x i = srA rw zs x i := by
  unfold srA; rw [updN_n h, updN_n h]
theorem srA_ins {rw zs : Nat → Nat} {x p9 q9 i : Nat} (hp1 : 1 ≤ p9) (hpz : p9 ≤ zs x + 1) (hz : zs x ≤ 6) (hq8 : q9 < 8) (h1 : 1 ≤ i) (hi : i ≤ zs x + 1) :
    srA (updN rw x (insR (rw x) p9 q9)) (updN zs x (zs x + 1)) x i = if i < p9 then srA rw zs x i else if i = p9 then q9 else srA rw zs x (i - 1) := by
  have e := ins_at (q := rw x) hp1 (by omega) hq8 h1 (by omega)
  unfold srA
  rw [updN_s, updN_s, if_neg (by omega), e]
  by_cases c1 : i < p9
  · rw [if_pos c1, if_pos c1, if_neg (by omega)]
  · rw [if_neg c1, if_neg c1]
    by_cases c2 : i = p9
    · rw [if_pos c2, if_pos c2]
    · rw [if_neg c2, if_neg c2, if_neg (by omega)]
theorem inR_set {pg : Nat → Nat → Nat} {dn x q a : Nat} (h : inR pg dn x q) : inR pg (dn ||| 2 ^ a) x q := by
  obtain ⟨h1, h2, h3, h4⟩ := h
  exact ⟨h1, h2, by rw [bit_set, h3]; rfl, h4⟩
theorem wrT_of {pg : Nat → Nat → Nat} {dn x q : Nat} (h : inR pg dn x q) : wrT pg dn q := Or.inr ⟨h.2.1, h.2.2.1, h.2.2.2.1, h.2.2.2.2.1⟩
theorem wrT_lt {pg : Nat → Nat → Nat} {dn q : Nat} (h : wrT pg dn q) : q < 8 := by
  rcases h with h | h
  · omega
  · exact h.1
theorem wr_of {pg : Nat → Nat → Nat} {dn x q : Nat} (hx : x < 3) (h : inR pg dn x q) : wr pg dn q := by
  obtain ⟨h1, h2, h3, h4, h5, h6⟩ := h
  unfold rowN at h6
  by_cases c : pg 4 (q - 1) < 4
  · exact Or.inr ⟨h2, h3, h4, by omega⟩
  · rw [if_neg c] at h6; omega
/-- what a step does to rows and to what is known; pc: where its written one comes to the row, 0 if there is none -/
def rwT (pg : Nat → Nat → Nat) (a pc : Nat) (rw : Nat → Nat) : Nat → Nat := if 0 < pc then updN rw (rowN pg a) (insR (rw (rowN pg a)) pc (a + 1)) else rw
def zsT (pg : Nat → Nat → Nat) (a pc : Nat) (zs : Nat → Nat) : Nat → Nat := if 0 < pc then updN zs (rowN pg a) (zs (rowN pg a) + 1) else zs
def leT (pg : Nat → Nat → Nat) (a pc : Nat) (le ct : Nat → Nat) (s9 : Nat) : Nat → Nat := if 0 < pc then updN le (pg 2 a) (le (pg 2 a) ||| ct s9 ||| 2 ^ a) else updN le (pg 2 a) (le (pg 2 a) ||| ct s9)
def ctT (pg : Nat → Nat → Nat) (a pc : Nat) (le ct : Nat → Nat) (s9 : Nat) : Nat → Nat := if 0 < pc then updN ct (a + 1) (le (pg 2 a) ||| ct s9 ||| 2 ^ a) else ct
theorem k_next {d T Ac : Nat} {pg : Nat → Nat → Nat} {dn : Nat} {so : Int64} {pl rw zs le ct : Nat → Nat} {a t : Nat} (hPg : PgOk T Ac pg) (hK : KOk d T Ac pg dn so pl rw zs le ct) (ht : t < T) (hq : pl t < pg 0 t) (ha : a = pg 1 (t * 7 + pl t)) :
    a < 7 ∧ a < Ac ∧ pg 2 a = t ∧ pg 3 a = pl t ∧ dn.testBit a = false ∧ pop7 dn ≤ 6 ∧ rowN pg a < 4 := by
  obtain ⟨s1, s2, s3, s4, s5, s6, s7, s8, s9⟩ := hK
  obtain ⟨p1, p2, p3, p4, p5, p6, p7, p8, p9, p10, p11⟩ := hPg
  obtain ⟨b1, b2, b3⟩ := p4 t _ ht hq
  have hb := s4 t _ ht (Nat.le_refl _) hq
  rw [← ha] at b1 b2 b3 hb
  have a7 : a < 7 := by omega
  have h1 := pop7_set dn s1 a a7 hb
  have h2 := pop7_le _ (set_lt dn s1 a a7)
  refine ⟨a7, b1, b2, b3, hb, by omega, ?_⟩
  unfold rowN
  split
  · have := (p5 a b1).2.2.2.2.1; omega
  · decide
theorem k_take {d T Ac : Nat} {pg : Nat → Nat → Nat} {dn : Nat} {so : Int64} {pl rw zs le ct : Nat → Nat} {a t s9 ps pc : Nat} (hPg : PgOk T Ac pg) (hK : KOk d T Ac pg dn so pl rw zs le ct) (ht : t < T) (hq : pl t < pg 0 t) (ha : a = pg 1 (t * 7 + pl t)) (hs : s9 < 8) (hps : 1 ≤ ps ∧ ps ≤ 4) (hpc : pc = 0 ∨ (1 ≤ pc ∧ pc ≤ zs (rowN pg a) + 1 ∧ 1 ≤ pg 4 a ∧ pg 4 a ≤ 4)) :
    KOk (d + 1) T Ac pg (dn ||| 2 ^ a) (srcP so s9 a) (updN pl (pg 2 a) (pl (pg 2 a) + ps)) (rwT pg a pc rw) (zsT pg a pc zs) (leT pg a pc le ct s9) (ctT pg a pc le ct s9) := by
  obtain ⟨a7, aA, a2, a3, ab, a6, ar⟩ := k_next hPg hK ht hq ha
  obtain ⟨s1, s2, s3, s4, s5, s6, s7, s8, s10⟩ := hK
  obtain ⟨p1, p2, p3, p4, p5, p6, p7, p8, p9, p10, p11⟩ := hPg
  have h7 := p3 t ht
  have hpop := pop7_set dn s1 a a7 ab
  have hbit : 2 ^ a < 128 := (pop7_low a a7).2.2.2
  have hL : le (pg 2 a) ||| ct s9 < 128 := Nat.or_lt_two_pow (n := 7) (s7 _) (s8 _)
  have hL2 : le (pg 2 a) ||| ct s9 ||| 2 ^ a < 128 := Nat.or_lt_two_pow (n := 7) hL hbit
  refine ⟨set_lt dn s1 a a7, ?_, ?_, ?_, ?_, ?_, ?_, ?_, by omega⟩
  · intro t' ht'
    rw [a2]; unfold updN
    split
    · omega
    · exact s2 t' ht'
  · intro b hb hbt
    rw [bit_set, Bool.or_eq_false_iff] at hbt
    have hab : a ≠ b := by simpa using hbt.2
    exact srcU_O hs a7 hb hab (s3 b hb hbt.1)
  · intro t' q ht' hpl hq'
    rw [a2] at hpl
    obtain ⟨c1, c2, c3⟩ := p4 t' q ht' hq'
    rw [bit_set, Bool.or_eq_false_iff]
    by_cases e : t' = t
    · subst e
      unfold updN at hpl; rw [if_pos rfl] at hpl
      refine ⟨s4 t' q ht' (by omega) hq', ?_⟩
      have : a ≠ pg 1 (t' * 7 + q) := fun h => by rw [← h, a3] at c3; omega
      simpa using this
    · unfold updN at hpl; rw [if_neg e] at hpl
      refine ⟨s4 t' q ht' hpl hq', ?_⟩
      have : a ≠ pg 1 (t' * 7 + q) := fun h => by rw [← h, a2] at c2; exact e c2.symm
      simpa using this
  · intro x hx
    obtain ⟨e1, e2⟩ := s5 x hx
    unfold rwT zsT
    by_cases c : 0 < pc
    · rw [if_pos c, if_pos c]
      by_cases e : x = rowN pg a
      · rw [← e, updN_s, updN_s]
        have hz : zs x ≤ 6 := by omega
        have hp : pc ≤ zs x + 1 := by rw [e]; omega
        exact ⟨by omega, ins_lt c hp hz e2 (by omega)⟩
      · rw [updN_n e, updN_n e]; exact ⟨by omega, e2⟩
    · rw [if_neg c, if_neg c]; exact ⟨by omega, e2⟩
  · intro x i hx h1 hi
    obtain ⟨e1, e2⟩ := s5 x hx
    unfold rwT zsT at *
    by_cases c : 0 < pc
    · rw [if_pos c] at hi; rw [if_pos c, if_pos c]
      by_cases e : x = rowN pg a
      · rw [← e, updN_s] at hi
        rw [← e]
        have hz : zs x ≤ 6 := by omega
        have hp : pc ≤ zs x + 1 := by rw [e]; omega
        rw [srA_ins c hp hz (by omega) h1 hi]
        by_cases c1 : i < pc
        · rw [if_pos c1]; exact inR_set (s6 x i hx h1 (by omega))
        · rw [if_neg c1]
          by_cases c2 : i = pc
          · rw [if_pos c2]
            exact ⟨by omega, by omega, by rw [Nat.add_sub_cancel, bit_set]; simp, by rw [Nat.add_sub_cancel]; omega, by rw [Nat.add_sub_cancel]; omega, by rw [Nat.add_sub_cancel]; exact e.symm⟩
          · rw [if_neg c2]; exact inR_set (s6 x (i - 1) hx (by omega) (by omega))
      · rw [updN_n e] at hi; rw [srA_o e]; exact inR_set (s6 x i hx h1 hi)
    · rw [if_neg c] at hi; rw [if_neg c, if_neg c]; exact inR_set (s6 x i hx h1 hi)
  · intro t'
    unfold leT
    by_cases c : 0 < pc
    · rw [if_pos c]; unfold updN; split
      · exact hL2
      · exact s7 t'
    · rw [if_neg c]; unfold updN; split
      · exact hL
      · exact s7 t'
  · intro q
    unfold ctT
    by_cases c : 0 < pc
    · rw [if_pos c]; unfold updN; split
      · exact hL2
      · exact s8 q
    · rw [if_neg c]; exact s8 q
theorem ctT_ag {pg : Nat → Nat → Nat} {dn a pc s9 : Nat} {le ct tl : Nat → Nat} (hv : ∀ q, wrT pg dn q → tl q = ct q) (hs : wrT pg dn s9) (hpc : pc = 0 → pg 4 a = 0 ∨ pg 4 a = 5) (hk : pg 4 a < 6) : ∀ q, wrT pg (dn ||| 2 ^ a) q → ctT pg a pc le tl s9 q = ctT pg a pc le ct s9 q := fun q hq => by
  have hd : q ≠ a + 1 → tl q = ct q := fun hne => by
    refine hv q ?_
    rcases hq with h | ⟨h1, h2, h3⟩
    · exact Or.inl h
    · rw [bit_set, Bool.or_eq_true] at h2
      rcases h2 with h2 | h2
      · exact Or.inr ⟨h1, h2, h3⟩
      · have e : a = q - 1 := by simpa using h2
        exact Or.inl (by omega)
  unfold ctT
  by_cases c : 0 < pc
  · rw [if_pos c, if_pos c]; unfold updN; split
    · rw [hv s9 hs]
    · exact hd (by assumption)
  · rw [if_neg c, if_neg c]
    refine hd fun e => ?_
    have := hpc (by omega)
    rcases hq with h | ⟨h1, h2, h3, h4⟩
    · omega
    · rw [e, Nat.add_sub_cancel] at h3 h4; omega
theorem leT_ag {pg : Nat → Nat → Nat} {dn a pc s9 : Nat} {le ct tl : Nat → Nat} (hv : ∀ q, wrT pg dn q → tl q = ct q) (hs : wrT pg dn s9) : leT pg a pc le tl s9 = leT pg a pc le ct s9 := by
  unfold leT; rw [hv s9 hs]
theorem ctT_bk {pg : Nat → Nat → Nat} {dn a pc s9 q : Nat} {le ct : Nat → Nat} (hq : wrT pg dn q) (ha : dn.testBit a = false) : ctT pg a pc le ct s9 q = ct q ∧ wrT pg (dn ||| 2 ^ a) q := by
  have hne : q ≠ a + 1 := fun e => by
    rcases hq with h | ⟨h1, h2, h3⟩
    · omega
    · rw [e, Nat.add_sub_cancel, ha] at h2; exact absurd h2 (by decide)
  refine ⟨?_, ?_⟩
  · unfold ctT; split
    · exact updN_n hne
    · rfl
  · rcases hq with h | ⟨h1, h2, h3⟩
    · exact Or.inl h
    · exact Or.inr ⟨h1, by rw [bit_set, h2]; rfl, h3⟩
