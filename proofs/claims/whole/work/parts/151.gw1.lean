/-- what holds of every program -/
def PgOk (T Ac : Nat) (pg : Nat → Nat → Nat) : Prop :=
  T ≤ 4 ∧ Ac ≤ 7 ∧ (∀ t, t < T → pg 0 t ≤ 7) ∧ (∀ t q, t < T → q < pg 0 t → pg 1 (t * 7 + q) < Ac ∧ pg 2 (pg 1 (t * 7 + q)) = t ∧ pg 3 (pg 1 (t * 7 + q)) = q) ∧
  (∀ a, a < Ac → pg 2 a < T ∧ pg 3 a < 7 ∧ pg 4 a < 6 ∧ (pg 4 a < 4 → pg 5 a < 3) ∧ pg 5 a < 4 ∧ pg 6 a < 8) ∧
  (∀ i, pg 8 i < 128) ∧ (∀ i, pg 9 i < 128) ∧ (∀ i, pg 10 i < 128) ∧
  (∀ t a, t < T → ((pg 8 t).testBit a = true ↔ a < Ac ∧ pg 2 a = t)) ∧ (∀ k a, k < 6 → ((pg 9 k).testBit a = true ↔ a < Ac ∧ pg 4 a = k)) ∧ (∀ x a, x < 3 → ((pg 10 x).testBit a = true ↔ a < Ac ∧ pg 4 a < 4 ∧ pg 5 a = x))
/-- a source is written: the first one, or of a done action that writes -/
def wr (pg : Nat → Nat → Nat) (dn q : Nat) : Prop := q = 0 ∨ (q < 8 ∧ dn.testBit (q - 1) = true ∧ 1 ≤ pg 4 (q - 1) ∧ pg 4 (q - 1) ≤ 3)
/-- what holds of every state of a run at depth d -/
def StOk (md d T Ac : Nat) (pg : Nat → Nat → Nat) (dn : Nat) (so : Int64) (pl : Nat → Nat) (mm hd : Nat) : Prop :=
  dn < 128 ∧ mm < 512 ∧ hd < 128 ∧ (∀ t, t < T → pl t ≤ 10) ∧ (∀ a, a < 7 → dn.testBit a = false → srcU so a = so) ∧
  (∀ t q, t < T → pl t ≤ q → q < pg 0 t → dn.testBit (pg 1 (t * 7 + q)) = false) ∧ (∀ x, x < 3 → wr pg dn (srcM mm x)) ∧
  (∀ a, hd.testBit a = true → dn.testBit a = true ∧ a < Ac ∧ (pg 4 a = 1 ∨ pg 4 a = 2)) ∧ (md = 0 → hd = 0 ∧ d ≤ pop7 dn)
theorem I64_dist (x y z : Int64) : (x ||| y) &&& z = (x &&& z) ||| (y &&& z) := by
  apply Int64.toBitVec_inj.mp
  simp only [Int64.toBitVec_and, Int64.toBitVec_or]
  ext i hi
  simp only [BitVec.getElem_and, BitVec.getElem_or]
  cases x.toBitVec[i] <;> cases y.toBitVec[i] <;> cases z.toBitVec[i] <;> rfl
theorem I64_or0 (x : Int64) : x ||| 0 = x := by
  apply Int64.toBitVec_inj.mp
  simp only [Int64.toBitVec_or]
  ext i hi
  simp
theorem src_same : ∀ q, q < 8 → ∀ a, a < 7 → ((nI q).toInt64 <<< ((nI (3 * a)).toInt64 &&& 63)) &&& (((7 : Int64) <<< ((nI (3 * a)).toInt64 &&& 63)) ^^^ (-1)) = 0 := by decide +kernel
theorem src_other : ∀ q, q < 8 → ∀ a, a < 7 → ∀ b, b < 7 → a ≠ b → ((nI q).toInt64 <<< ((nI (3 * a)).toInt64 &&& 63)) &&& (((7 : Int64) <<< ((nI (3 * b)).toInt64 &&& 63)) ^^^ (-1)) = (nI q).toInt64 <<< ((nI (3 * a)).toInt64 &&& 63) := by decide +kernel
theorem srcU_P {so : Int64} {q a : Nat} (hq : q < 8) (ha : a < 7) (h : srcU so a = so) : srcU (srcP so q a) a = so := by
  unfold srcU srcP at *
  rw [I64_dist, src_same q hq a ha, I64_or0]; exact h
theorem srcU_O {so : Int64} {q a b : Nat} (hq : q < 8) (ha : a < 7) (hb : b < 7) (hab : a ≠ b) (h : srcU so b = so) : srcU (srcP so q a) b = srcP so q a := by
  unfold srcU srcP at *
  rw [I64_dist, src_other q hq a ha b hb hab, h]
theorem clr_set : ∀ d, d < 128 → ∀ a, a < 7 → d.testBit a = false → clr (d ||| 2 ^ a) a = d := by decide +kernel
theorem set_clr : ∀ d, d < 128 → ∀ a, a < 7 → d.testBit a = true → clr d a ||| 2 ^ a = d := by decide +kernel
theorem set_lt : ∀ d, d < 128 → ∀ a, a < 7 → d ||| 2 ^ a < 128 := by decide +kernel
theorem pop7_set : ∀ d, d < 128 → ∀ a, a < 7 → d.testBit a = false → pop7 (d ||| 2 ^ a) = pop7 d + 1 := by decide +kernel
theorem pop7_le : ∀ d, d < 128 → pop7 d ≤ 7 := by decide +kernel
theorem putM_lt : ∀ mm, mm < 512 → ∀ x, x < 3 → ∀ a, a < 7 → putM mm x a < 512 := by decide +kernel
theorem srcM_put : ∀ mm, mm < 512 → ∀ x, x < 3 → ∀ a, a < 7 → ∀ y, y < 3 → srcM (putM mm x a) y = if y = x then a + 1 else srcM mm y := by decide +kernel
theorem srcM_lt {mm x : Nat} : srcM mm x < 8 := Nat.mod_lt _ (by decide)
theorem hi9_in : ∀ w, w < 128 → w ≠ 0 → 1 ≤ hi9 w ∧ hi9 w ≤ 7 ∧ w.testBit (hi9 w - 1) = true := by decide +kernel
theorem nI_m1 : ∀ a, a < 128 → nI a ≠ -1 := by decide +kernel
/-- the least one of a set -/
def lo9 (w : Nat) : Nat := if w % 2 = 1 then 0 else if w / 2 % 2 = 1 then 1 else if w / 4 % 2 = 1 then 2 else if w / 8 % 2 = 1 then 3 else if w / 16 % 2 = 1 then 4 else if w / 32 % 2 = 1 then 5 else 6
theorem lo9_in : ∀ w, w < 128 → w ≠ 0 → lo9 w < 7 ∧ w.testBit (lo9 w) = true := by decide +kernel
theorem lo9_eq : ∀ w, w < 128 → w ≠ 0 → nI w &&& (-(nI w)) = nI (2 ^ lo9 w) := by decide +kernel
theorem clr_eq2 : ∀ d, d < 128 → ∀ a, a < 7 → nI d &&& (nI (2 ^ a) ^^^ (-1)) = nI (clr d a) := by decide +kernel
theorem or_eq2 : ∀ d, d < 128 → ∀ a, a < 7 → nI d ||| nI (2 ^ a) = nI (d ||| 2 ^ a) := by decide +kernel
theorem pop7_low : ∀ a, a < 7 → pop7 (2 ^ a - 1) = a ∧ 2 ^ a - 1 < 128 ∧ 1 ≤ 2 ^ a ∧ 2 ^ a < 128 := by decide +kernel
theorem clr_lt {d a : Nat} (h : d < 128) : clr d a < 128 := by
  unfold clr; split
  · exact Nat.lt_of_le_of_lt (Nat.sub_le _ _) h
  · exact h
theorem clr_bit : ∀ d, d < 128 → ∀ a, a < 7 → ∀ b, b < 7 → (clr d a).testBit b = (d.testBit b && !(a == b)) := by decide +kernel
theorem bit_hi {d b : Nat} (h : d < 128) (hb : d.testBit b = true) : b < 7 := by
  rcases Nat.lt_or_ge b 7 with q | q
  · exact q
  · have : d < 2 ^ b := Nat.lt_of_lt_of_le (show d < 2 ^ 7 from h) (Nat.pow_le_pow_right (by decide) q)
    rw [Nat.testBit_lt_two_pow this] at hb; exact absurd hb (by decide)
theorem bit_set {d a b : Nat} : (d ||| 2 ^ a).testBit b = (d.testBit b || decide (a = b)) := by
  rw [Nat.testBit_or, Nat.testBit_two_pow]
theorem wr_lt {pg : Nat → Nat → Nat} {dn q : Nat} (h : wr pg dn q) : q < 8 := by
  rcases h with h | h
  · omega
  · exact h.1
theorem wr_set {pg : Nat → Nat → Nat} {dn q a : Nat} (h : wr pg dn q) : wr pg (dn ||| 2 ^ a) q := by
  rcases h with h | ⟨h1, h2, h3⟩
  · exact Or.inl h
  · exact Or.inr ⟨h1, by rw [bit_set, h2]; rfl, h3⟩
theorem wr_new {pg : Nat → Nat → Nat} {dn a : Nat} (ha : a < 7) (h1 : 1 ≤ pg 4 a) (h3 : pg 4 a ≤ 3) : wr pg (dn ||| 2 ^ a) (a + 1) := Or.inr ⟨by omega, by rw [bit_set]; simp, h1, h3⟩
/-- where an action has its value from -/
def src9 (pg : Nat → Nat → Nat) (hd mm a : Nat) : Nat := if pg 4 a = 0 ∨ pg 4 a = 3 then srcF hd mm (pg 8 (pg 2 a)) (pg 10 (pg 5 a)) (pg 5 a) else 0
theorem wr_src {md d T Ac : Nat} {pg : Nat → Nat → Nat} {dn : Nat} {so : Int64} {pl : Nat → Nat} {mm hd a : Nat} (hPg : PgOk T Ac pg) (hSt : StOk md d T Ac pg dn so pl mm hd) (ha : a < Ac) : wr pg dn (src9 pg hd mm a) := by
  obtain ⟨s1, s2, s3, s4, s5, s6, s7, s8, s9⟩ := hSt
  obtain ⟨p1, p2, p3, p4, p5, p6, p7, p8, p9, p10, p11⟩ := hPg
  unfold src9
  by_cases hk : pg 4 a = 0 ∨ pg 4 a = 3
  · rw [if_pos hk]
    have hx : pg 5 a < 3 := (p5 a ha).2.2.2.1 (by omega)
    unfold srcF
    by_cases h0 : hd &&& pg 8 (pg 2 a) &&& pg 10 (pg 5 a) = 0
    · rw [if_pos h0]; exact s7 _ hx
    · rw [if_neg h0]
      obtain ⟨h1, h2, h3⟩ := hi9_in _ (Nat.and_lt_two_pow (n := 7) _ (p8 _)) h0
      rw [Nat.testBit_and, Nat.testBit_and, Bool.and_eq_true, Bool.and_eq_true] at h3
      have h4 := s8 _ h3.1.1
      exact Or.inr ⟨by omega, h4.1, by omega, by omega⟩
  · rw [if_neg hk]; exact Or.inl rfl
theorem st_next {md d T Ac : Nat} {pg : Nat → Nat → Nat} {dn : Nat} {so : Int64} {pl : Nat → Nat} {mm hd a t : Nat} (hPg : PgOk T Ac pg) (hSt : StOk md d T Ac pg dn so pl mm hd) (ht : t < T) (hq : pl t < pg 0 t) (ha : a = pg 1 (t * 7 + pl t)) :
    a < 7 ∧ a < Ac ∧ pg 2 a = t ∧ pg 3 a = pl t ∧ dn.testBit a = false := by
  obtain ⟨s1, s2, s3, s4, s5, s6, s7, s8, s9⟩ := hSt
  obtain ⟨p1, p2, p3, p4, p5, p6, p7, p8, p9, p10, p11⟩ := hPg
  obtain ⟨b1, b2, b3⟩ := p4 t _ ht hq
  rw [ha]
  exact ⟨by omega, b1, b2, b3, s6 t _ ht (Nat.le_refl _) hq⟩
theorem st_goN {md d T Ac : Nat} {pg : Nat → Nat → Nat} {dn : Nat} {so : Int64} {pl : Nat → Nat} {mm hd a t s9 ps : Nat} (hPg : PgOk T Ac pg) (hSt : StOk md d T Ac pg dn so pl mm hd) (ht : t < T) (hq : pl t < pg 0 t) (ha : a = pg 1 (t * 7 + pl t)) (hs : s9 < 8) (hps : 1 ≤ ps ∧ ps ≤ 4) :
    StOk md (d + 1) T Ac pg (dn ||| 2 ^ a) (srcP so s9 a) (updN pl (pg 2 a) (pl (pg 2 a) + ps)) (mmP md (pg 4 a) mm (pg 5 a) a) (hdP md (pg 4 a) hd a) := by
  obtain ⟨a7, aA, a2, a3, ab⟩ := st_next hPg hSt ht hq ha
  obtain ⟨s1, s2, s3, s4, s5, s6, s7, s8, s10⟩ := hSt
  obtain ⟨p1, p2, p3, p4, p5, p6, p7, p8, p9, p10, p11⟩ := hPg
  obtain ⟨b1, b2, b3, b4, b5, b6⟩ := p5 a aA
  have h7 := p3 t ht
  have hM : mmP md (pg 4 a) mm (pg 5 a) a < 512 ∧ ∀ x, x < 3 → wr pg (dn ||| 2 ^ a) (srcM (mmP md (pg 4 a) mm (pg 5 a) a) x) := by
    unfold mmP
    by_cases hk : pg 4 a = 3 ∨ (md = 0 ∧ (pg 4 a = 1 ∨ pg 4 a = 2))
    · rw [if_pos hk]
      have hx : pg 5 a < 3 := b4 (by omega)
      refine ⟨putM_lt mm s2 _ hx a a7, fun x h3 => ?_⟩
      rw [srcM_put mm s2 _ hx a a7 x h3]
      split
      · exact wr_new a7 (by omega) (by omega)
      · exact wr_set (s7 x h3)
    · rw [if_neg hk]; exact ⟨s2, fun x h3 => wr_set (s7 x h3)⟩
  refine ⟨set_lt dn s1 a a7, hM.1, ?_, ?_, ?_, ?_, hM.2, ?_, ?_⟩
  · unfold hdP; split
    · exact set_lt hd s3 a a7
    · exact s3
  · intro t' ht'
    rw [a2]; unfold updN
    split
    · omega
    · exact s4 t' ht'
  · intro b hb hbt
    rw [bit_set, Bool.or_eq_false_iff] at hbt
    have hab : a ≠ b := by simpa using hbt.2
    exact srcU_O hs a7 hb hab (s5 b hb hbt.1)
  · intro t' q ht' hpl hq'
    rw [a2] at hpl
    obtain ⟨c1, c2, c3⟩ := p4 t' q ht' hq'
    rw [bit_set, Bool.or_eq_false_iff]
    by_cases e : t' = t
    · subst e
      unfold updN at hpl; rw [if_pos rfl] at hpl
      refine ⟨s6 t' q ht' (by omega) hq', ?_⟩
      have : a ≠ pg 1 (t' * 7 + q) := fun h => by rw [← h, a3] at c3; omega
      simpa using this
    · unfold updN at hpl; rw [if_neg e] at hpl
      refine ⟨s6 t' q ht' hpl hq', ?_⟩
      have : a ≠ pg 1 (t' * 7 + q) := fun h => by rw [← h, a2] at c2; exact e c2.symm
      simpa using this
  · intro b hb
    unfold hdP at hb
    split at hb
    · rename_i hk
      rw [bit_set, Bool.or_eq_true] at hb
      rcases hb with hb | hb
      · obtain ⟨c1, c2, c3⟩ := s8 b hb
        exact ⟨by rw [bit_set, c1]; rfl, c2, c3⟩
      · have : a = b := by simpa using hb
        subst this
        exact ⟨by rw [bit_set]; simp, aA, hk.2⟩
    · obtain ⟨c1, c2, c3⟩ := s8 b hb
      exact ⟨by rw [bit_set, c1]; rfl, c2, c3⟩
  · intro h0
    obtain ⟨c1, c2⟩ := s10 h0
    refine ⟨by unfold hdP; rw [if_neg (fun q => q.1 h0)]; exact c1, ?_⟩
    rw [pop7_set dn s1 a a7 ab]; omega
theorem st_let {md d T Ac : Nat} {pg : Nat → Nat → Nat} {dn : Nat} {so : Int64} {pl : Nat → Nat} {mm hd a : Nat} (hPg : PgOk T Ac pg) (hSt : StOk md d T Ac pg dn so pl mm hd) (ha : hd.testBit a = true) :
    a < 7 ∧ pg 5 a < 3 ∧ StOk md (d + 1) T Ac pg dn so pl (putM mm (pg 5 a) a) (clr hd a) := by
  obtain ⟨s1, s2, s3, s4, s5, s6, s7, s8, s10⟩ := hSt
  obtain ⟨p1, p2, p3, p4, p5, p6, p7, p8, p9, p10, p11⟩ := hPg
  obtain ⟨c1, c2, c3⟩ := s8 a ha
  have a7 : a < 7 := by omega
  have hx : pg 5 a < 3 := (p5 a c2).2.2.2.1 (by omega)
  refine ⟨a7, hx, s1, putM_lt mm s2 _ hx a a7, clr_lt s3, s4, s5, s6, ?_, ?_, ?_⟩
  · intro x h3
    rw [srcM_put mm s2 _ hx a a7 x h3]
    split
    · exact Or.inr ⟨by omega, c1, by show 1 ≤ pg 4 a; omega, by show pg 4 a ≤ 3; omega⟩
    · exact s7 x h3
  · intro b hb
    have b7 := bit_hi (clr_lt s3) hb
    rw [clr_bit hd s3 a a7 b b7, Bool.and_eq_true] at hb
    exact s8 b hb.1
  · intro h0
    rw [(s10 h0).1] at ha; simp at ha
