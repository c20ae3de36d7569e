section PGS
variable {T Ac : Nat} {pg : Nat → Nat → Nat} {nm : Nat → Int32} {zs kd vx rr : Nat → Nat} {vv : Nat → Int32} {dn : Nat} {so : Int64} {pl : Nat → Nat} {rg cv : Nat → Int32}
theorem tkP_t {k b : Nat} (h : tkP pg dn k b = true) : dn.testBit b = true ∧ pg 6 b = k ∧ (pg 4 b = 0 ∨ pg 4 b = 3) := by
  unfold tkP at h
  rw [Bool.and_eq_true, Bool.and_eq_true] at h
  exact ⟨h.1, of_decide_eq_true h.2.1, of_decide_eq_true h.2.2⟩
theorem thP_t {t b : Nat} (h : thP pg dn t b = true) : dn.testBit b = true ∧ pg 2 b = t := by
  unfold thP at h
  rw [Bool.and_eq_true] at h
  exact ⟨h.1, of_decide_eq_true h.2⟩
theorem b_ne {dn a b : Nat} (h : b ≠ a) : (dn ||| 2 ^ a).testBit b = dn.testBit b := by
  rw [bit_set, decide_eq_false (fun q => h q.symm), Bool.or_false]
theorem b_eq {dn a : Nat} : (dn ||| 2 ^ a).testBit a = true := by rw [bit_set, decide_eq_true rfl, Bool.or_true]
theorem tk_set (hX : PX T Ac pg nm zs kd vx rr vv) (hI : PgI T Ac pg nm dn so pl rg cv) {t a k : Nat} (ht : t < T) (hq : pl t < pg 0 t) (ha : a = pg 1 (t * 7 + pl t)) (n : Nat) :
    laP (tkP pg (dn ||| 2 ^ a) k) n = if a < n ∧ pg 6 a = k ∧ (pg 4 a = 0 ∨ pg 4 a = 3) then a + 1 else laP (tkP pg dn k) n := by
  obtain ⟨a1, a2, a3, a4, a5, a6⟩ := px_next hX hI ht hq ha
  by_cases e : pg 6 a = k
  · rw [laP_set (p := tkP pg dn k) (a := a) (fun b hb => by unfold tkP; rw [b_ne hb]) (fun b hb => by
      obtain ⟨c1, c2, -⟩ := tkP_t hb
      obtain ⟨r1, l1, e1⟩ := px_cell hX (hI.2.1 b c1).1
      obtain ⟨r2, l2, e2⟩ := px_cell hX a2
      exact a6 b c1 (by omega)) n]
    have : tkP pg (dn ||| 2 ^ a) k a = true ↔ pg 6 a = k ∧ (pg 4 a = 0 ∨ pg 4 a = 3) := by
      unfold tkP
      rw [b_eq, Bool.true_and, Bool.and_eq_true, decide_eq_true_iff, decide_eq_true_iff]
    by_cases z : a < n ∧ tkP pg (dn ||| 2 ^ a) k a = true
    · rw [if_pos z, if_pos ⟨z.1, this.mp z.2⟩]
    · rw [if_neg z, if_neg (fun q => z ⟨q.1, this.mpr q.2⟩)]
  · rw [if_neg (fun q => e q.2.1)]
    refine laP_cg (fun b => ?_) n
    by_cases c : b = a
    · unfold tkP; rw [c, decide_eq_false e, Bool.false_and, Bool.and_false, Bool.and_false]
    · unfold tkP; rw [b_ne c]
theorem th_set (hX : PX T Ac pg nm zs kd vx rr vv) (hI : PgI T Ac pg nm dn so pl rg cv) {t a u : Nat} (ht : t < T) (hq : pl t < pg 0 t) (ha : a = pg 1 (t * 7 + pl t)) :
    laP (thP pg (dn ||| 2 ^ a) u) 7 = if u = t then a + 1 else laP (thP pg dn u) 7 := by
  obtain ⟨a1, a2, a3, a4, a5, a6⟩ := px_next hX hI ht hq ha
  by_cases e : u = t
  · rw [if_pos e, e, laP_set (p := thP pg dn t) (a := a) (fun b hb => by unfold thP; rw [b_ne hb]) (fun b hb => by
      obtain ⟨c1, c2⟩ := thP_t hb
      exact a6 b c1 c2) 7, if_pos ⟨a1, by unfold thP; rw [b_eq, decide_eq_true a3]; rfl⟩]
  · rw [if_neg e]
    refine laP_cg (fun b => ?_) 7
    by_cases c : b = a
    · unfold thP; rw [c, decide_eq_false (by rw [a3]; exact fun q => e q.symm), Bool.and_false, Bool.and_false]
    · unfold thP; rw [b_ne c]
/-- an action is done -/
theorem PgI_step (hX : PX T Ac pg nm zs kd vx rr vv) (hI : PgI T Ac pg nm dn so pl rg cv) {t a q9 : Nat} (ht : t < T) (hq : pl t < pg 0 t) (ha : a = pg 1 (t * 7 + pl t)) (hq8 : q9 < 8) (hs : pg 4 a = 0 ∨ pg 4 a = 3 → wr pg dn q9) :
    PgI T Ac pg nm (dn ||| 2 ^ a) (srcP so q9 a) (updN pl (pg 2 a) (pl (pg 2 a) + psP (pg 4 a) (rg (pg 6 a)) (nm a) (pg 5 a))) (rgP (pg 4 a) rg cv (pg 6 a) q9) (vlP (pg 4 a) rg cv (nm a) a (pg 6 a) q9) := by
  have hX0 := hX
  obtain ⟨a1, a2, a3, a4, a5, a6⟩ := px_next hX hI ht hq ha
  have tks := fun k n => tk_set (k := k) hX hI ht hq ha n
  have ths := fun u => th_set (u := u) hX hI ht hq ha
  have hcell : ∀ b, dn.testBit b = true → pg 6 b = pg 6 a → b < a := fun b hb e => by
    obtain ⟨r1, l1, e1⟩ := px_cell hX (hI.2.1 b hb).1
    obtain ⟨r2, l2, e2⟩ := px_cell hX a2
    exact a6 b hb (by omega)
  obtain ⟨i1, i2, i3, i4, i5, i6, i7, i8, i9, i10, i11, ps, N, i12, i13, i14⟩ := hI
  obtain ⟨sp, sl, sz⟩ := sA_P i4 i5 (i6 a a1 a5) hq8 a1
  obtain ⟨hP, hR, x1, x2, x3, x4⟩ := hX
  obtain ⟨p1, p2, p3, p4, p5, -⟩ := hP
  obtain ⟨b1, b2, b3, b4, b5, b6⟩ := p5 a a2
  have b7 : ∀ b, dn.testBit b = true → b < 7 := fun b hb => bit_hi i1 hb
  have bn : ∀ b, dn.testBit b = true → b ≠ a := fun b hb e => by rw [e, a5] at hb; exact absurd hb Bool.false_ne_true
  have spb : ∀ b, dn.testBit b = true → sA (srcP so q9 a) b = sA so b := fun b hb => by rw [sp b (b7 b hb), if_neg (bn b hb)]
  have spa : sA (srcP so q9 a) a = q9 := by rw [sp a a1, if_pos rfl]
  have cvk : ∀ q, wr pg dn q → vlP (pg 4 a) rg cv (nm a) a (pg 6 a) q9 q = cv q := fun q h => vlP_bk h a5
  have hbit : ∀ b, (dn ||| 2 ^ a).testBit b = true → dn.testBit b = true ∨ b = a := fun b hb => by
    by_cases e : b = a
    · exact Or.inr e
    · rw [b_ne e] at hb; exact Or.inl hb
  -- the registers
  have rgs : ∀ k n, rgV pg (dn ||| 2 ^ a) (srcP so q9 a) (vlP (pg 4 a) rg cv (nm a) a (pg 6 a) q9) k n = if a < n ∧ pg 6 a = k ∧ (pg 4 a = 0 ∨ pg 4 a = 3) then cv q9 else rgV pg dn so cv k n := fun k n => by
    unfold rgV
    rw [tks k n]
    by_cases c : a < n ∧ pg 6 a = k ∧ (pg 4 a = 0 ∨ pg 4 a = 3)
    · rw [if_pos c, if_pos c, if_neg (Nat.succ_ne_zero a), Nat.add_sub_cancel, spa, cvk q9 (hs c.2.2)]
    · rw [if_neg c, if_neg c]
      by_cases z : laP (tkP pg dn k) n = 0
      · rw [if_pos z, if_pos z]
      · obtain ⟨-, z2⟩ := laP_in n z
        obtain ⟨z3, -, z4⟩ := tkP_t z2
        rw [if_neg z, if_neg z, spb _ z3, cvk _ (i8 _ z3 z4)]
  have rga : rgV pg dn so cv (pg 6 a) a = rg (pg 6 a) := by
    rw [i10 _ b6]; unfold rgV
    rw [laP_up (a := a) (fun b hb => by obtain ⟨c1, c2, -⟩ := tkP_t hb; exact hcell b c1 c2) 7 (by omega)]
  have va : (pg 4 a = 1 → vlP (pg 4 a) rg cv (nm a) a (pg 6 a) q9 (a + 1) = nm a) ∧ (pg 4 a = 2 → vlP (pg 4 a) rg cv (nm a) a (pg 6 a) q9 (a + 1) = rg (pg 6 a) + nm a) ∧ (pg 4 a = 3 → vlP (pg 4 a) rg cv (nm a) a (pg 6 a) q9 (a + 1) = cv q9 + nm a) := by
    unfold vlP
    refine ⟨fun e => ?_, fun e => ?_, fun e => ?_⟩
    · rw [if_pos e, pk_us]
    · rw [if_neg (by omega), if_pos e, pk_us]
    · rw [if_neg (by omega), if_neg (by omega), if_pos e, pk_us, pk_us]
  have hpl : ∀ u, u < T → u ≠ t → updN pl (pg 2 a) (pl (pg 2 a) + psP (pg 4 a) (rg (pg 6 a)) (nm a) (pg 5 a)) u = pl u := fun u _ e => updN_n (by rw [a3]; exact e)
  have hplt : updN pl (pg 2 a) (pl (pg 2 a) + psP (pg 4 a) (rg (pg 6 a)) (nm a) (pg 5 a)) t = pl t + psP (pg 4 a) (rg (pg 6 a)) (nm a) (pg 5 a) := by rw [a3]; exact updN_s
  have hps := psP_in (K := pg 4 a) (r := rg (pg 6 a)) (v := nm a) b5
  refine ⟨set_lt dn i1 a a1, fun b hb => ?_, fun u q hu h1 h2 => ?_, sl, sz, fun b hb h0 => ?_, ?_, fun b hb hk => ?_, fun b hb => ?_, fun k hk => ?_, fun u hu => ?_, updN ps a N, N + 1, fun b hb => ?_, fun b d hb hd e l => ?_, fun b hb hk h0 => ?_⟩
  · rcases hbit b hb with h | h
    · obtain ⟨c1, c2⟩ := i2 b h
      refine ⟨c1, ?_⟩
      by_cases e : pg 2 b = t
      · rw [e, hplt]; rw [e] at c2; omega
      · rw [hpl _ (p5 b c1).1 e]; exact c2
    · rw [h, a3, updN_s, a4]; exact ⟨a2, by omega⟩
  · have hne : ∀ (h3 : pl u ≤ q), (u = t → pl t < q) → (dn ||| 2 ^ a).testBit (pg 1 (u * 7 + q)) = false := fun h3 h4 => by
      obtain ⟨c1, c2, c3⟩ := p4 u q hu h2
      rw [b_ne]
      · exact i3 u q hu h3 h2
      · intro e
        rw [e, a3] at c2
        rw [e, a4] at c3
        have := h4 c2.symm
        omega
    by_cases e : u = t
    · rw [e, hplt] at h1
      exact hne (by rw [e]; omega) (fun _ => by omega)
    · rw [hpl u hu e] at h1
      exact hne h1 (fun q => absurd q e)
  · have e : b ≠ a := fun q => by rw [q, b_eq] at h0; exact absurd h0.symm Bool.false_ne_true
    rw [b_ne e] at h0
    rw [sp b hb, if_neg e]; exact i6 b hb h0
  · rw [cvk 0 (Or.inl rfl)]; exact i7
  · rcases hbit b hb with h | h
    · rw [spb b h]; exact wr_set (i8 b h hk)
    · rw [h, spa]; rw [h] at hk; exact wr_set (hs hk)
  · rcases hbit b hb with h | h
    · obtain ⟨c1, c2, c3⟩ := i9 b h
      have hw : 1 ≤ pg 4 b → pg 4 b ≤ 3 → wr pg dn (b + 1) := fun q1 q2 => Or.inr ⟨by have := b7 b h; omega, by rw [Nat.add_sub_cancel]; exact h, by rw [Nat.add_sub_cancel]; exact q1, by rw [Nat.add_sub_cancel]; exact q2⟩
      refine ⟨fun e => by rw [cvk _ (hw (by omega) (by omega))]; exact c1 e, fun e => ?_, fun e => ?_⟩
      · rw [cvk _ (hw (by omega) (by omega)), rgs, if_neg (fun q => ?_)]
        · exact c2 e
        · have := hcell b h q.2.1.symm; omega
      · rw [cvk _ (hw (by omega) (by omega)), spb b h, cvk _ (i8 b h (Or.inr e))]; exact c3 e
    · rw [h]
      refine ⟨va.1, fun e => ?_, fun e => ?_⟩
      · rw [va.2.1 e, rgs, if_neg (fun q => absurd q.1 (Nat.lt_irrefl a)), rga]
      · rw [va.2.2 e, spa, cvk q9 (hs (Or.inr e))]
  · rw [rgs]
    unfold rgP
    by_cases c : pg 4 a = 0 ∨ pg 4 a = 3
    · rw [if_pos c]
      by_cases e : pg 6 a = k
      · rw [if_pos ⟨a1, e, c⟩, ← e, pk_us]
      · rw [if_neg (fun q => e q.2.1), pk_un (fun q => e q.symm)]; exact i10 k hk
    · rw [if_neg c, if_neg (fun q => c q.2.2)]; exact i10 k hk
  · unfold plV
    rw [ths u]
    by_cases e : u = t
    · rw [if_pos e, if_neg (Nat.succ_ne_zero a), Nat.add_sub_cancel, e, hplt, a4]
      congr 1
      unfold psP rgP
      by_cases k5 : pg 4 a = 5
      · rw [if_neg (by omega : ¬ (pg 4 a = 0 ∨ pg 4 a = 3))]
      · rw [if_neg (fun q => k5 q.1), if_neg (fun q => k5 q.1)]
    · rw [if_neg e, hpl u hu e, i11 u hu]
      unfold plV
      by_cases z : laP (thP pg dn u) 7 = 0
      · rw [if_pos z, if_pos z]
      · obtain ⟨-, z2⟩ := laP_in 7 z
        obtain ⟨z3, z4⟩ := thP_t z2
        rw [if_neg z, if_neg z]
        have : rgP (pg 4 a) rg cv (pg 6 a) q9 (pg 6 (laP (thP pg dn u) 7 - 1)) = rg (pg 6 (laP (thP pg dn u) 7 - 1)) := by
          unfold rgP
          by_cases c : pg 4 a = 0 ∨ pg 4 a = 3
          · rw [if_pos c, pk_un]
            intro q
            have h1 := hcell _ z3 q
            obtain ⟨r1, l1, e1⟩ := px_cell hX0 (i2 _ z3).1
            obtain ⟨r2, l2, e2⟩ := px_cell hX0 a2
            omega
          · rw [if_neg c]
        rw [this]
  · rcases hbit b hb with h | h
    · rw [updN_n (bn b h)]; have := i12 b h; omega
    · rw [h, updN_s]; omega
  · rcases hbit b hb with h | h
    · rw [updN_n (bn b h)]
      rcases hbit d hd with h2 | h2
      · rw [updN_n (bn d h2)]; exact i13 b d h h2 e l
      · rw [h2, updN_s]; exact i12 b h
    · rcases hbit d hd with h2 | h2
      · rw [h, a3] at e
        have := a6 d h2 e.symm
        omega
      · omega
  · rcases hbit b hb with h | h
    · rw [spb b h] at h0 ⊢
      have hw := i8 b h hk
      rcases hw with z | ⟨z1, z2, -⟩
      · exact absurd z h0
      · rw [updN_n (bn b h), updN_n (bn _ z2)]; exact i14 b h hk h0
    · rw [h, spa] at h0 ⊢
      rw [h] at hk
      rcases hs hk with z | ⟨z1, z2, -⟩
      · exact absurd z h0
      · rw [updN_s, updN_n (bn _ z2)]; exact i12 _ z2
/-- the same done from the same sources: the same values, registers, places -/
theorem PgI_uni {so2 : Int64} {pl2 : Nat → Nat} {rg2 cv2 : Nat → Int32} (hX : PX T Ac pg nm zs kd vx rr vv) (hI : PgI T Ac pg nm dn so pl rg cv) (hJ : PgI T Ac pg nm dn so2 pl2 rg2 cv2) (hso : ∀ a, dn.testBit a = true → pg 4 a = 0 ∨ pg 4 a = 3 → sA so a = sA so2 a) :
    (∀ q, wr pg dn q → cv q = cv2 q) ∧ (∀ k, k < 8 → rg k = rg2 k) ∧ ∀ t, t < T → pl t = pl2 t := by
  obtain ⟨i1, i2, i3, i4, i5, i6, i7, i8, i9, i10, i11, ps, N, i12, i13, i14⟩ := hI
  obtain ⟨j1, j2, j3, j4, j5, j6, j7, j8, j9, j10, j11, -⟩ := hJ
  have key : ∀ n a, ps a < n → dn.testBit a = true → 1 ≤ pg 4 a → pg 4 a ≤ 3 → cv (a + 1) = cv2 (a + 1) := by
    intro n
    induction n with
    | zero => intro a h; exact absurd h (Nat.not_lt_zero _)
    | succ n ih =>
      intro a h hd k1 k3
      obtain ⟨c1, c2, c3⟩ := i9 a hd
      obtain ⟨d1, d2, d3⟩ := j9 a hd
      have src : ∀ b, dn.testBit b = true → (pg 4 b = 0 ∨ pg 4 b = 3) → ps b ≤ ps a → cv (sA so b) = cv2 (sA so2 b) := fun b hb hk hle => by
        rw [← hso b hb hk]
        rcases i8 b hb hk with z | ⟨z1, z2, z3, z4⟩
        · rw [z, i7, j7]
        · by_cases z0 : sA so b = 0
          · rw [z0, i7, j7]
          · have hlt := i14 b hb hk z0
            have := ih (sA so b - 1) (by omega) z2 z3 z4
            rw [(by omega : sA so b - 1 + 1 = sA so b)] at this
            exact this
      rcases (by omega : pg 4 a = 1 ∨ pg 4 a = 2 ∨ pg 4 a = 3) with e | e | e
      · rw [c1 e, d1 e]
      · rw [c2 e, d2 e]
        congr 1
        unfold rgV
        by_cases z : laP (tkP pg dn (pg 6 a)) a = 0
        · rw [if_pos z, if_pos z]
        · obtain ⟨y1, y2⟩ := laP_in a z
          obtain ⟨y3, y4, y5⟩ := tkP_t y2
          rw [if_neg z, if_neg z]
          obtain ⟨r1, l1, e1⟩ := px_cell hX (i2 _ y3).1
          obtain ⟨r2, l2, e2⟩ := px_cell hX (i2 _ hd).1
          exact src _ y3 y5 (Nat.le_of_lt (i13 _ _ y3 hd (by omega) y1))
      · rw [c3 e, d3 e, src a hd (Or.inr e) (Nat.le_refl _)]
  have cve : ∀ q, wr pg dn q → cv q = cv2 q := fun q hq => by
    rcases hq with z | ⟨z1, z2, z3, z4⟩
    · rw [z, i7, j7]
    · by_cases z0 : q = 0
      · rw [z0, i7, j7]
      · have := key (ps (q - 1) + 1) (q - 1) (Nat.lt_succ_self _) z2 z3 z4
        rw [(by omega : q - 1 + 1 = q)] at this
        exact this
  have rge : ∀ k, k < 8 → rg k = rg2 k := fun k hk => by
    rw [i10 k hk, j10 k hk]
    unfold rgV
    by_cases z : laP (tkP pg dn k) 7 = 0
    · rw [if_pos z, if_pos z]
    · obtain ⟨-, y2⟩ := laP_in 7 z
      obtain ⟨y3, -, y5⟩ := tkP_t y2
      rw [if_neg z, if_neg z, ← hso _ y3 y5]; exact cve _ (i8 _ y3 y5)
  refine ⟨cve, rge, fun t ht => ?_⟩
  rw [i11 t ht, j11 t ht]
  unfold plV
  by_cases z : laP (thP pg dn t) 7 = 0
  · rw [if_pos z, if_pos z]
  · obtain ⟨-, y2⟩ := laP_in 7 z
    obtain ⟨y3, -⟩ := thP_t y2
    have hc := (hX.1.2.2.2.2.1 _ (i2 _ y3).1).2.2.2.2.2
    rw [if_neg z, if_neg z, rge _ hc]
end PGS
