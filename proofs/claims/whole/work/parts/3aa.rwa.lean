/-- the own order that is kept -/
def kpt9 (md : Nat) (pg : Nat → Nat → Nat) (a b : Nat) : Prop := ¬ (pg 4 a = 1 ∨ pg 4 a = 2) ∨ (¬ pg 4 b = 0 ∧ (md = 1 ∨ ¬ (pg 4 b = 1 ∨ pg 4 b = 2) ∨ pg 5 a = pg 5 b))
/-- a graph by the class's numbers stands -/
def stN9 (md : Nat) (pg : Nat → Nat → Nat) (F : Nat → Nat) (H : Nat) (RW : Nat → List Nat) : Prop :=
  (md = 0 ∧ ¬ rng9 (fun a b => cO9 pg H a b ∨ cI9 pg F H RW a b)) ∨
  (md = 3 ∧ ¬ rng9 (hB9 pg F H RW) ∧ ¬ bck9 (hB9 pg F H RW) (cI9 pg F H RW)) ∨
  ((md = 1 ∨ md = 2) ∧ ¬ rng9 (fun a b => cI9 pg F H RW a b ∨ (cO9 pg H a b ∧ ¬ pg 4 a = 4 ∧ ¬ pg 4 b = 4 ∧ pg 5 a = pg 5 b)) ∧
    ¬ rng9 (fun a b => (cB9 RW a b ∨ cS9 pg F H RW a b) ∨ ((cO9 pg H a b ∧ kpt9 md pg a b) ∨ (cR9 pg F H a b ∧ ¬ pg 2 a = pg 2 b))))
theorem way_res {E D : Nat → Nat → Prop} {P : Nat → Prop} (h1 : ∀ a b, P a → (D a b ↔ E a b)) (h2 : ∀ a b, E a b → P b) : ∀ n a b, P a → (way9 D n a b ↔ way9 E n a b)
  | 0, a, b, h => h1 a b h
  | n + 1, a, b, h => by
    constructor
    · rintro ⟨c, w1, w2⟩
      have e := (h1 a c h).mp w1
      exact ⟨c, e, (way_res h1 h2 n c b (h2 a c e)).mp w2⟩
    · rintro ⟨c, w1, w2⟩
      exact ⟨c, (h1 a c h).mpr w1, (way_res h1 h2 n c b (h2 a c w1)).mpr w2⟩
theorem con_res {E D : Nat → Nat → Prop} {P : Nat → Prop} (h1 : ∀ a b, P a → (D a b ↔ E a b)) (h2 : ∀ a b, E a b → P b) {a b : Nat} (h : P a) : con9 D a b ↔ con9 E a b :=
  ⟨fun ⟨n, w⟩ => ⟨n, (way_res h1 h2 n a b h).mp w⟩, fun ⟨n, w⟩ => ⟨n, (way_res h1 h2 n a b h).mpr w⟩⟩
theorem con_cg {E D : Nat → Nat → Prop} (h1 : ∀ a b, D a b → con9 E a b) (h2 : ∀ a b, E a b → con9 D a b) {a b : Nat} : con9 D a b ↔ con9 E a b := ⟨con_mo h1, con_mo h2⟩
section SDA
variable {T Ac md : Nat} {pg : Nat → Nat → Nat} {F : Nat → Nat} {H : Nat} {RW : Nat → List Nat} {sc : Nat → Nat → Nat} {bf : Nat → Nat}
theorem sdL_e {mb : Nat} {x : LF9} : sdL pg md Ac mb sc x = if md = 0 then decide (itR (sc 3) x.2.1 Ac 7 mb = 0) else if md = 3 then decide (fF (kno mb x.2.1 x.2.2) Ac 0 = 0) else decide (itR (sc 4) x.2.1 Ac 7 (andn mb (pg 9 4)) = 0) && decide (itR (sc 5) (tuN pg x.2.1 (fun _ => 0) Ac) Ac 7 mb = 0) := rfl
theorem gr_7 (hPg : PgOk T Ac pg) (hG : GrO9 Ac md pg F H RW) : H < 128 := lt_128 (fun i hi => by have := (hG.1 i hi).1; have := hPg.2.1; omega)
theorem sd_0 (hPg : PgOk T Ac pg) (hG : GrO9 Ac md pg F H RW) (hs3 : ∀ a, a < Ac → sc 3 a = ownT pg a) (hbf : ∀ a b, H.testBit b = true → ((bf b).testBit a = true ↔ cI9 pg F H RW a b)) : itR (sc 3) bf Ac 7 H = 0 ↔ ¬ rng9 (fun a b => cO9 pg H a b ∨ cI9 pg F H RW a b) := by
  refine itR_9 hPg.2.1 (gr_7 hPg hG) (fun a h => (hG.1 a h).1) (fun a b w => ?_) (fun a b ha hb => ?_)
  · exact w.elim (fun w => ⟨w.1, w.2.1⟩) (cI_H hPg hG)
  · have h0 := (hG.1 b hb).1
    rw [Nat.testBit_or, Bool.or_eq_true, hs3 b h0, own_9 hPg h0, hbf a b hb]
    exact or_congr ⟨fun w => ⟨ha, hb, w.2⟩, fun w => ⟨(hG.1 a ha).1, w.2.2⟩⟩ Iff.rfl
theorem cI_k (hPg : PgOk T Ac pg) (hG : GrO9 Ac md pg F H RW) (m3 : md ≠ 3) {a b : Nat} (h : cI9 pg F H RW a b) : pg 4 a ≠ 4 ∧ pg 4 b ≠ 4 := by
  have r3 : ∀ y c, y < 4 → c ∈ RW y → pg 4 c ≠ 4 := fun y c hy hc => by
    obtain ⟨-, -, k⟩ := row_k hPg hG hy hc
    rcases k with ⟨k, -⟩ | k
    · rw [k, hG.2.2.1 m3] at hc; exact absurd hc List.not_mem_nil
    · omega
  rcases h with (⟨h1, h2, h3⟩ | h) | h
  · obtain ⟨c1, c2, c3, c4, c5⟩ := src_k hG h1 h2 h3
    exact ⟨by omega, by rcases h2 with q | q <;> omega⟩
  · obtain ⟨y, hy, h1, h2, -⟩ := (cB_ix hG).mp h
    exact ⟨r3 y a hy h1, r3 y b hy h2⟩
  · obtain ⟨h1, h2, h3, h4, -⟩ := (cS_ix hPg hG).mp h
    exact ⟨by rcases h2 with q | q <;> omega, r3 _ b (by have := tk_5 hPg hG h1 h2; omega) h4⟩
theorem sd_1 (hPg : PgOk T Ac pg) (hG : GrO9 Ac md pg F H RW) (m3 : md ≠ 3) (hs4 : ∀ a, a < Ac → sc 4 a = onoT pg a) (hbf : ∀ a b, H.testBit b = true → ((bf b).testBit a = true ↔ cI9 pg F H RW a b)) : itR (sc 4) bf Ac 7 (andn H (pg 9 4)) = 0 ↔ ¬ rng9 (fun a b => cI9 pg F H RW a b ∨ (cO9 pg H a b ∧ ¬ pg 4 a = 4 ∧ ¬ pg 4 b = 4 ∧ pg 5 a = pg 5 b)) := by
  have h9 := hPg.2.2.2.2.2.2.1
  have nb : ∀ b : Bool, (!b) = true ↔ ¬ b = true := fun b => by cases b <;> decide
  have am : ∀ a, (andn H (pg 9 4)).testBit a = true ↔ H.testBit a = true ∧ ¬ pg 4 a = 4 := fun a => by
    rw [andn_b (gr_7 hPg hG) (h9 4), Bool.and_eq_true, nb, hPg.2.2.2.2.2.2.2.2.2.1 4 a (by decide)]
    exact ⟨fun w => ⟨w.1, fun q => w.2 ⟨(hG.1 a w.1).1, q⟩⟩, fun w => ⟨w.1, fun q => w.2 q.2⟩⟩
  refine itR_9 hPg.2.1 (andn_lt (gr_7 hPg hG)) (fun a h => (hG.1 a ((am a).mp h).1).1) (fun a b w => ?_) (fun a b ha hb => ?_)
  · rw [am, am]
    rcases w with w | w
    · obtain ⟨k1, k2⟩ := cI_k hPg hG m3 w
      obtain ⟨k3, k4⟩ := cI_H hPg hG w
      exact ⟨⟨k3, k1⟩, k4, k2⟩
    · exact ⟨⟨w.1.1, w.2.1⟩, w.1.2.1, w.2.2.1⟩
  · obtain ⟨ha1, ha2⟩ := (am a).mp ha
    obtain ⟨hb1, hb2⟩ := (am b).mp hb
    have h0 := hG.1 b hb1
    have g0 := hG.1 a ha1
    have kb := (hPg.2.2.2.2.1 b h0.1).2.2.1
    have ka := (hPg.2.2.2.2.1 a g0.1).2.2.1
    rw [Nat.testBit_or, Bool.or_eq_true, hs4 b h0.1, ono_9 hPg h0.1, hbf a b hb1, or_comm]
    refine or_congr Iff.rfl ⟨fun w => ⟨⟨ha1, hb1, w.1.2⟩, ha2, hb2, w.2.2.2⟩, fun w => ⟨⟨g0.1, w.1.2.2⟩, by omega, by omega, w.2.2.2⟩⟩
theorem sd_2 (hPg : PgOk T Ac pg) (hG : GrO9 Ac md pg F H RW) (hm : md = 1 ∨ md = 2) (hs5 : ∀ a, a < Ac → sc 5 a = okpT pg md a) (hbf : ∀ a b, H.testBit b = true → ((bf b).testBit a = true ↔ cI9 pg F H RW a b)) {g : Nat → Nat} : itR (sc 5) (tuN pg bf g Ac) Ac 7 H = 0 ↔ ¬ rng9 (fun a b => (cB9 RW a b ∨ cS9 pg F H RW a b) ∨ ((cO9 pg H a b ∧ kpt9 md pg a b) ∨ (cR9 pg F H a b ∧ ¬ pg 2 a = pg 2 b))) := by
  have nb : ∀ b : Bool, (!b) = true ↔ ¬ b = true := fun b => by cases b <;> decide
  refine itR_9 hPg.2.1 (gr_7 hPg hG) (fun a h => (hG.1 a h).1) (fun a b w => ?_) (fun a b ha hb => ?_)
  · rcases w with (w | w) | (w | w)
    · exact cI_H hPg hG (Or.inl (Or.inr w))
    · exact cI_H hPg hG (Or.inr w)
    · exact ⟨w.1.1, w.1.2.1⟩
    · exact cI_H hPg hG (Or.inl (Or.inl w.1))
  · have h0 := (hG.1 b hb).1
    have g0 := (hG.1 a ha).1
    have b7 : bf b < 128 := lt_128 (fun i hi => by
      have := (cI_H hPg hG ((hbf i b hb).mp hi)).1
      have := (hG.1 i this).1
      have := hPg.2.1; omega)
    rw [Nat.testBit_or, Bool.or_eq_true, hs5 b h0, okp_9 hPg h0 hm, tuN_at9 Ac h0]
    have e1 : ((a < Ac ∧ pg 2 a = pg 2 b ∧ a < b) ∧ (¬ (pg 4 a = 1 ∨ pg 4 a = 2) ∨ (¬ pg 4 b = 0 ∧ (md = 1 ∨ ¬ (pg 4 b = 1 ∨ pg 4 b = 2) ∨ pg 5 a = pg 5 b)))) ↔ (cO9 pg H a b ∧ kpt9 md pg a b) := ⟨fun w => ⟨⟨ha, hb, w.1.2⟩, w.2⟩, fun w => ⟨⟨g0, w.1.2.2⟩, w.2⟩⟩
    rw [e1]
    by_cases k : pg 4 b = 0
    · have nr : ∀ r, r < 4 → ¬ b ∈ RW r := fun r hr w => by
        obtain ⟨-, -, q⟩ := row_k hPg hG hr w
        omega
      rw [if_pos k, andn_b b7 (hPg.2.2.2.2.2.1 _), Bool.and_eq_true, nb, hbf a b hb, hPg.2.2.2.2.2.2.2.2.1 _ a (hPg.2.2.2.2.1 b h0).1]
      constructor
      · rintro (w | ⟨w1, w2⟩)
        · exact Or.inr (Or.inl w)
        · exact Or.inr (Or.inr ⟨cI_out hPg hG w1 nr, fun q => w2 ⟨g0, q⟩⟩)
      · rintro ((w | w) | (w | w))
        · obtain ⟨y, hy, h1, h2, -⟩ := (cB_ix hG).mp w
          exact absurd h2 (nr y hy)
        · obtain ⟨h1, h2, h3, h4, -⟩ := (cS_ix hPg hG).mp w
          exact absurd h4 (nr _ (by have := tk_5 hPg hG h1 h2; omega))
        · exact Or.inl w
        · exact Or.inr ⟨Or.inl (Or.inl w.1), fun q => w.2 q.2⟩
    · rw [if_neg k, hbf a b hb]
      constructor
      · rintro (w | (w | w) | w)
        · exact Or.inr (Or.inl w)
        · exact Or.inl (Or.inl (cR_B hPg hG w (by rcases w.2.1 with q | q <;> omega)))
        · exact Or.inl (Or.inl w)
        · exact Or.inl (Or.inr w)
      · rintro ((w | w) | (w | w))
        · exact Or.inr (Or.inl (Or.inr w))
        · exact Or.inr (Or.inr w)
        · exact Or.inl w
        · exact Or.inr (Or.inl (Or.inl w.1))
/-- what HAPPENS before, as the class tells it at once -/
theorem hp0_9 (hPg : PgOk T Ac pg) (hG : GrO9 Ac md pg F H RW) (m3 : md = 3) (hS : scR9 pg sc F H) {b2 : Nat → Nat} (hb2 : ∀ a b, H.testBit b = true → pg 4 b = 4 → ((b2 b).testBit a = true ↔ cI9 pg F H RW a b)) {i j : Nat} (hi : H.testBit i = true) :
    (hp0 pg H (sc 6) b2 i).testBit j = true ↔ (cO9 pg H i j ∨ cR9 pg F H i j) ∨ (pg 4 i = 4 ∧ cB9 RW i j) := by
  have h0 := (hG.1 i hi).1
  have nb : ∀ b : Bool, (!b) = true ↔ ¬ b = true := fun b => by cases b <;> decide
  have e1 : ((aft pg i &&& H) ||| sc 6 (i + 1)).testBit j = true ↔ cO9 pg H i j ∨ cR9 pg F H i j := by
    rw [Nat.testBit_or, Bool.or_eq_true, Nat.testBit_and, Bool.and_eq_true, aft_9 hPg h0, hS.1]
    exact or_congr ⟨fun w => ⟨hi, w.2, w.1.2.1.symm, w.1.2.2⟩, fun w => ⟨⟨(hG.1 j w.2.1).1, w.2.2.1.symm, w.2.2.2⟩, w.2.1⟩⟩ Iff.rfl
  unfold hp0
  by_cases k : pg 4 i = 4
  · have fi := row_f hPg hG m3 hi k
    have n3 := (gr_row hG (show 3 < 4 by decide)).1
    have b7 : b2 i < 128 := lt_128 (fun x hx => by
      have := (cI_H hPg hG ((hb2 x i hi k).mp hx)).1
      have := (hG.1 x this).1
      have := hPg.2.1; omega)
    have i7 : 2 ^ i < 128 := by
      have := hPg.2.1
      exact lt_128 (fun x hx => by rw [Nat.testBit_two_pow, decide_eq_true_iff] at hx; omega)
    have e2 : ∀ j, cI9 pg F H RW j i ↔ cB9 RW j i := fun j => by
      constructor
      · rintro ((w | w) | w)
        · rcases w.2.1 with q | q <;> omega
        · exact w
        · obtain ⟨h1, h2, h3, h4, -⟩ := (cS_ix hPg hG).mp w
          have := gr_uni hPg hG (by have := tk_5 hPg hG h1 h2; omega) (show 3 < 4 by decide) h4 fi
          have := tk_5 hPg hG h1 h2; omega
      · intro w; exact Or.inl (Or.inr w)
    have f3 : ∀ x y, cB9 RW x y → y ∈ RW 3 ∨ x ∈ RW 3 → x ∈ RW 3 ∧ y ∈ RW 3 ∧ (RW 3).idxOf x < (RW 3).idxOf y := fun x y w v => by
      obtain ⟨r, hr, h1, h2, h3⟩ := (cB_ix hG).mp w
      have e : r = 3 := v.elim (fun v => gr_uni hPg hG hr (by decide) h2 v) (fun v => gr_uni hPg hG hr (by decide) h1 v)
      subst e; exact ⟨h1, h2, h3⟩
    rw [if_pos k, Nat.testBit_or, Bool.or_eq_true, e1]
    refine or_congr Iff.rfl ?_
    rw [andn_b (and_lt (gr_7 hPg hG)) (or7 b7 i7), Bool.and_eq_true, Nat.testBit_and, Bool.and_eq_true, nb, or_b9, hb2 j i hi k, e2, hPg.2.2.2.2.2.2.2.2.2.1 4 j (by decide)]
    constructor
    · rintro ⟨⟨w1, w2⟩, w3⟩
      have fj := row_f hPg hG m3 w1 w2.2
      refine ⟨k, (cB_ix hG).mpr ⟨3, by decide, fi, fj, ?_⟩⟩
      have ne : (RW 3).idxOf i ≠ (RW 3).idxOf j := fun e => w3 (Or.inr (ix_inj fi fj e))
      have nl : ¬ (RW 3).idxOf j < (RW 3).idxOf i := fun e => w3 (Or.inl ((cB_ix hG).mpr ⟨3, by decide, fj, fi, e⟩))
      omega
    · rintro ⟨-, w⟩
      obtain ⟨h1, h2, h3⟩ := f3 i j w (Or.inr fi)
      obtain ⟨q1, q2, q3⟩ := row_k hPg hG (by decide) h2
      refine ⟨⟨q1, q2, by omega⟩, fun v => ?_⟩
      rcases v with v | v
      · obtain ⟨u1, u2, u3⟩ := f3 j i v (Or.inl fi)
        omega
      · rw [v] at h3; omega
  · rw [if_neg k, e1]
    exact ⟨Or.inl, fun w => w.elim id (fun w => absurd w.1 k)⟩
theorem sd_3 (hPg : PgOk T Ac pg) (hG : GrO9 Ac md pg F H RW) (m3 : md = 3) (hS : scR9 pg sc F H) {b2 g : Nat → Nat} (hb2 : ∀ a b, H.testBit b = true → pg 4 b = 4 → ((b2 b).testBit a = true ↔ cI9 pg F H RW a b)) (hbf : ∀ a b, H.testBit b = true → ((bf b).testBit a = true ↔ cI9 pg F H RW a b)) :
    fF (kno H bf (coN Ac (hpN pg H (sc 6) b2 g Ac) Ac)) Ac 0 = 0 ↔ ¬ rng9 (hB9 pg F H RW) ∧ ¬ bck9 (hB9 pg F H RW) (cI9 pg F H RW) := by
  have hcon : ∀ a b, H.testBit a = true → b < Ac → ((coN Ac (hpN pg H (sc 6) b2 g Ac) Ac a).testBit b = true ↔ con9 (hB9 pg F H RW) a b) := fun a b ha hb => by
    have h0 := (hG.1 a ha).1
    have hk : msk9 (hpN pg H (sc 6) b2 g Ac) Ac (fun i j => i < Ac ∧ j < Ac ∧ (hp0 pg H (sc 6) b2 i).testBit j = true) :=
      ⟨fun i j w => ⟨w.1, w.2.1⟩, fun i j hi hj => by rw [hpN_at9 Ac hi]; exact ⟨fun w => ⟨hi, hj, w⟩, fun w => w.2.2⟩⟩
    have jH : ∀ i j, H.testBit i = true → ((cO9 pg H i j ∨ cR9 pg F H i j) ∨ (pg 4 i = 4 ∧ cB9 RW i j)) → H.testBit j = true := fun i j _ w => by
      rcases w with (w | w) | w
      · exact w.2.1
      · exact w.1
      · exact (cI_H hPg hG (Or.inl (Or.inr w.2))).2
    rw [coN_conn h0, conn_con hk h0 hb]
    rw [con_res (E := fun i j => H.testBit i = true ∧ ((cO9 pg H i j ∨ cR9 pg F H i j) ∨ (pg 4 i = 4 ∧ cB9 RW i j))) (P := fun x => H.testBit x = true) (fun i j hi => by
        rw [hp0_9 hPg hG m3 hS hb2 hi]
        exact ⟨fun w => ⟨hi, w.2.2⟩, fun w => ⟨(hG.1 i hi).1, (hG.1 j (jH i j hi w.2)).1, w.2⟩⟩) (fun i j w => jH i j w.1 w.2) ha]
    refine con_cg (fun i j w => ?_) (fun i j w => ?_)
    · rcases w.2 with (w | w) | w
      · exact con_1 (Or.inl w)
      · exact con_1 (Or.inr (Or.inl w))
      · exact con_mo (fun x y q => con_1 (Or.inr (Or.inr q))) (cB_F hPg hG w.1 w.2)
    · rcases w with w | w | w
      · exact con_1 ⟨w.1, Or.inl (Or.inl w)⟩
      · exact con_1 ⟨(src_k hG w.1 w.2.1 w.2.2).1, Or.inl (Or.inr w)⟩
      · have hb := cF_B w
        obtain ⟨l1, l2, e⟩ := w
        obtain ⟨q1, q2, q3⟩ := row_k hPg hG (show 3 < 4 by decide) (show i ∈ RW 3 by rw [e]; exact List.mem_append_right _ (List.mem_cons_self ..))
        exact con_1 ⟨q1, Or.inr ⟨by omega, hb⟩⟩
  rw [fF_no9, ← not_or, ← hB_back hPg hG]
  constructor
  · rintro h ⟨a, b, w1, w2⟩
    obtain ⟨hb, ha⟩ := cI_H hPg hG w1
    have := h a (hG.1 a ha).1
    unfold kno at this
    rw [Bool.and_eq_false_iff] at this
    rcases this with q | q
    · rw [tb_div.mpr ha] at q; exact absurd q (by decide)
    · have q : bf a &&& (coN Ac (hpN pg H (sc 6) b2 g Ac) Ac) a = 0 := by simpa using q
      exact and_0.mp q b ((hbf b a ha).mpr w1) ((hcon a b ha (hG.1 b hb).1).mpr w2)
  · intro h a ha
    cases q : kno H bf (coN Ac (hpN pg H (sc 6) b2 g Ac) Ac) a with
    | false => rfl
    | true =>
      exfalso
      unfold kno at q
      rw [Bool.and_eq_true] at q
      have hH : H.testBit a = true := tb_div.mp (by simpa using q.1)
      have q2 : ¬ bf a &&& (coN Ac (hpN pg H (sc 6) b2 g Ac) Ac) a = 0 := by simpa using q.2
      apply q2
      refine and_0.mpr (fun b h1 h2 => h ?_)
      have w1 := (hbf b a hH).mp h1
      exact ⟨a, b, w1, (hcon a b hH (hG.1 b (cI_H hPg hG w1).1).1).mp h2⟩
/-- the class's test at a leaf is the test by relations -/
theorem sd_9 (hPg : PgOk T Ac pg) (hG : GrO9 Ac md pg F H RW) (hmd : md < 4) (hS : scR9 pg sc F H) {fm : Nat → Nat} (hF : ∀ a, F a = fm a - 1) (hs3 : ∀ a, a < Ac → sc 3 a = ownT pg a) (hs4 : ∀ a, a < Ac → sc 4 a = onoT pg a) (hs5 : ∀ a, a < Ac → sc 5 a = okpT pg md a) {f h : Nat → Nat} :
    sdL pg md Ac H sc (lfW pg md Ac H sc (r0E md - 1) RW (f, bfN pg fm H Ac, h)) = true ↔ stN9 md pg F H RW := by
  have hbf : ∀ a b, H.testBit b = true → (((lfW pg md Ac H sc (r0E md - 1) RW (f, bfN pg fm H Ac, h)).2.1 b).testBit a = true ↔ cI9 pg F H RW a b) := fun a b hb => bf_rel hPg hG hS hF hb
  rw [sdL_e]
  unfold stN9
  by_cases m0 : md = 0
  · rw [if_pos m0, decide_eq_true_iff, sd_0 hPg hG hs3 hbf]
    exact ⟨fun w => Or.inl ⟨m0, w⟩, fun w => by rcases w with w | w | w; exact w.2; omega; omega⟩
  · rw [if_neg m0]
    by_cases m3 : md = 3
    · rw [if_pos m3, decide_eq_true_iff]
      have e : r0E md - 1 = 2 + 1 := by unfold r0E; rw [if_pos m3]
      have hh : ∀ (row : Nat) (x : LF9), row < 3 → (lfW pg md Ac H sc row RW x).2.2 = x.2.2 := by
        intro row
        induction row with
        | zero => intro x _; rfl
        | succ row ih =>
          intro x hr
          show (lfW pg md Ac H sc row RW (hpC pg md Ac H sc (row + 1) (apC pg H sc (row + 1) x (RW (row + 1))))).2.2 = _
          rw [ih _ (by omega)]
          unfold hpC
          rw [if_neg (by omega)]; rfl
      have e2 : (lfW pg md Ac H sc (r0E md - 1) RW (f, bfN pg fm H Ac, h)).2.2 = coN Ac (hpN pg H (sc 6) (apC pg H sc 3 (f, bfN pg fm H Ac, h) (RW 3)).2.1 h Ac) Ac := by
        rw [e]
        show (lfW pg md Ac H sc 2 RW (hpC pg md Ac H sc 3 (apC pg H sc 3 (f, bfN pg fm H Ac, h) (RW 3)))).2.2 = _
        rw [hh 2 _ (by decide)]
        unfold hpC
        rw [if_pos ⟨m3, rfl⟩]; rfl
      have hb2 : ∀ a b, H.testBit b = true → pg 4 b = 4 → (((apC pg H sc 3 (f, bfN pg fm H Ac, h) (RW 3)).2.1 b).testBit a = true ↔ cI9 pg F H RW a b) := fun a b hb k => by
        rw [← hbf a b hb, e]
        show _ ↔ ((lfW pg md Ac H sc 2 RW (hpC pg md Ac H sc 3 (apC pg H sc 3 (f, bfN pg fm H Ac, h) (RW 3)))).2.1 b).testBit a = true
        rw [lfW_out 2 _ (fun y hy w => by
          obtain ⟨-, -, q⟩ := row_k hPg hG (by omega) w
          omega), hpC_b9.1]
      rw [e2, sd_3 hPg hG m3 hS hb2 hbf]
      exact ⟨fun w => Or.inr (Or.inl ⟨m3, w⟩), fun w => by rcases w with w | w | w; omega; exact w.2; omega⟩
    · rw [if_neg m3, Bool.and_eq_true, decide_eq_true_iff, decide_eq_true_iff, sd_1 hPg hG m3 hs4 hbf, sd_2 hPg hG (by omega) hs5 hbf]
      exact ⟨fun w => Or.inr (Or.inr ⟨by omega, w⟩), fun w => by rcases w with w | w | w; omega; omega; exact w.2⟩
end SDA
