/-- the own order, a fence right before another, what is before: by the class's numbers -/
def cO9 (pg : Nat → Nat → Nat) (H a b : Nat) : Prop := H.testBit a = true ∧ H.testBit b = true ∧ pg 2 a = pg 2 b ∧ a < b
def cF9 (RW : Nat → List Nat) (a b : Nat) : Prop := ∃ l1 l2, RW 3 = l1 ++ a :: b :: l2
def cI9 (pg : Nat → Nat → Nat) (F : Nat → Nat) (H : Nat) (RW : Nat → List Nat) (a b : Nat) : Prop := (cR9 pg F H a b ∨ cB9 RW a b) ∨ cS9 pg F H RW a b
def hB9 (pg : Nat → Nat → Nat) (F : Nat → Nat) (H : Nat) (RW : Nat → List Nat) (a b : Nat) : Prop := cO9 pg H a b ∨ (cR9 pg F H a b ∨ cF9 RW a b)
section GR9
variable {T Ac md : Nat} {pg : Nat → Nat → Nat} {F : Nat → Nat} {H : Nat} {RW : Nat → List Nat}
theorem cB_ix (hG : GrO9 Ac md pg F H RW) {a b : Nat} : cB9 RW a b ↔ ∃ y, y < 4 ∧ a ∈ RW y ∧ b ∈ RW y ∧ (RW y).idxOf a < (RW y).idxOf b := by
  constructor
  · rintro ⟨y, l1, l2, hy, e, h⟩
    exact ⟨y, hy, (ix_bf (gr_row hG hy).1).mp ⟨l1, l2, e, h⟩⟩
  · rintro ⟨y, hy, h⟩
    obtain ⟨l1, l2, e, h⟩ := (ix_bf (gr_row hG hy).1).mpr h
    exact ⟨y, l1, l2, hy, e, h⟩
theorem tk_5 (hPg : PgOk T Ac pg) (hG : GrO9 Ac md pg F H RW) {a : Nat} (h1 : H.testBit a = true) (h2 : tkr9 pg a) : pg 5 a < 3 := (hPg.2.2.2.2.1 a (hG.1 a h1).1).2.2.2.1 (px_4 hPg h2)
theorem cS_ix (hPg : PgOk T Ac pg) (hG : GrO9 Ac md pg F H RW) {a b : Nat} : cS9 pg F H RW a b ↔ H.testBit a = true ∧ tkr9 pg a ∧ b ≠ a ∧ b ∈ RW (pg 5 a) ∧ (F a = 0 ∨ ∃ w, F a = w + 1 ∧ w ∈ RW (pg 5 a) ∧ (RW (pg 5 a)).idxOf w < (RW (pg 5 a)).idxOf b) := by
  unfold cS9
  refine and_congr_right (fun h1 => and_congr_right (fun h2 => and_congr_right (fun h3 => ?_)))
  have h5 := tk_5 hPg hG h1 h2
  have hn := (gr_row hG (show pg 5 a < 4 by omega)).1
  constructor
  · rintro ⟨l1, l2, e, h⟩
    refine ⟨by rw [e]; exact List.mem_append_right _ (List.mem_cons_self ..), h.imp id (fun ⟨w, w1, w2⟩ => ⟨w, w2, ?_⟩)⟩
    have := (ix_bf hn).mp ⟨l1, l2, e, w1⟩
    exact ⟨this.1, this.2.2⟩
  · rintro ⟨h4, h⟩
    obtain ⟨l1, l2, e⟩ := List.append_of_mem h4
    rw [e] at hn
    refine ⟨l1, l2, e, h.imp id (fun ⟨w, w1, w2, w3⟩ => ⟨w, ?_, w1⟩)⟩
    rw [e] at w2 w3
    exact (ix_in hn).mpr ⟨w2, w3⟩
theorem row_k (hPg : PgOk T Ac pg) (hG : GrO9 Ac md pg F H RW) {y b : Nat} (hy : y < 4) (h : b ∈ RW y) : H.testBit b = true ∧ b < Ac ∧ ((y = 3 ∧ pg 4 b = 4) ∨ (y < 3 ∧ 1 ≤ pg 4 b ∧ pg 4 b ≤ 3 ∧ pg 5 b = y)) := (wRw_9 hPg hy).mp ((gr_row hG hy).2.1 b h)
theorem row_w (hPg : PgOk T Ac pg) (hG : GrO9 Ac md pg F H RW) {b : Nat} (h : H.testBit b = true) (k : 1 ≤ pg 4 b ∧ pg 4 b ≤ 3) : pg 5 b < 3 ∧ b ∈ RW (pg 5 b) := by
  have hb := (hG.1 b h).1
  have h5 : pg 5 b < 3 := (hPg.2.2.2.2.1 b hb).2.2.2.1 (by omega)
  exact ⟨h5, (gr_row hG (by omega)).2.2.1 (fun q => by omega) b ((wRw_9 hPg (by omega)).mpr ⟨h, hb, Or.inr ⟨h5, k.1, k.2, rfl⟩⟩)⟩
theorem row_f (hPg : PgOk T Ac pg) (hG : GrO9 Ac md pg F H RW) (m3 : md = 3) {b : Nat} (h : H.testBit b = true) (k : pg 4 b = 4) : b ∈ RW 3 :=
  (gr_row hG (by decide)).2.2.1 (fun _ => m3) b ((wRw_9 hPg (by decide)).mpr ⟨h, (hG.1 b h).1, Or.inl ⟨rfl, k⟩⟩)
theorem src_k (hG : GrO9 Ac md pg F H RW) {b a : Nat} (h : H.testBit b = true) (k : tkr9 pg b) (e : F b = a + 1) : H.testBit a = true ∧ a ≠ b ∧ 1 ≤ pg 4 a ∧ pg 4 a ≤ 3 ∧ pg 5 a = pg 5 b := by
  have h := (hG.2.2.2 b h k).resolve_left (by omega)
  rw [e, Nat.add_sub_cancel] at h; exact h
/-- an ADD is right behind its source -/
theorem add_ix (hPg : PgOk T Ac pg) (hG : GrO9 Ac md pg F H RW) {b : Nat} (h : H.testBit b = true) (k : pg 4 b = 3) : (F b = 0 ∧ (RW (pg 5 b)).idxOf b = 0) ∨ ∃ w, F b = w + 1 ∧ w ∈ RW (pg 5 b) ∧ (RW (pg 5 b)).idxOf w + 1 = (RW (pg 5 b)).idxOf b := by
  obtain ⟨h5, hm⟩ := row_w hPg hG h (by omega)
  obtain ⟨n1, n2, n3, n4⟩ := gr_row hG (show pg 5 b < 4 by omega)
  obtain ⟨l1, l2, e⟩ := List.append_of_mem hm
  have hs := n4 l1 b l2 e
  have hF : F b = lsL l1 := by
    rcases hs.2.2 with w | w | w
    · omega
    · exact w.2
    · exact absurd k w.1
  rw [e] at n1
  rw [e, hF]
  by_cases z : lsL l1 = 0
  · exact Or.inl ⟨z, (ix_ls (w := 0) n1).1 z⟩
  · exact Or.inr ⟨lsL l1 - 1, by omega, (ix_ls n1).2 (by omega)⟩
theorem cI_H (hPg : PgOk T Ac pg) (hG : GrO9 Ac md pg F H RW) {a b : Nat} (h : cI9 pg F H RW a b) : H.testBit a = true ∧ H.testBit b = true := by
  rcases h with (⟨h1, h2, h3⟩ | h) | h
  · exact ⟨(src_k hG h1 h2 h3).1, h1⟩
  · obtain ⟨y, hy, h1, h2, -⟩ := (cB_ix hG).mp h
    exact ⟨(row_k hPg hG hy h1).1, (row_k hPg hG hy h2).1⟩
  · obtain ⟨h1, h2, h3, h4, -⟩ := (cS_ix hPg hG).mp h
    exact ⟨h1, (row_k hPg hG (by have := tk_5 hPg hG h1 h2; omega) h4).1⟩
theorem cR_B (hPg : PgOk T Ac pg) (hG : GrO9 Ac md pg F H RW) {a b : Nat} (h : cR9 pg F H a b) (k : pg 4 b = 3) : cB9 RW a b := by
  obtain ⟨h1, h2, h3⟩ := h
  obtain ⟨h5, hm⟩ := row_w hPg hG h1 (by omega)
  rcases add_ix hPg hG h1 k with ⟨z, -⟩ | ⟨w, w1, w2, w3⟩
  · omega
  · have e : w = a := by omega
    subst e
    exact (cB_ix hG).mpr ⟨pg 5 b, by omega, w2, hm, by omega⟩
theorem cI_row (hPg : PgOk T Ac pg) (hG : GrO9 Ac md pg F H RW) {a b r : Nat} (h : cI9 pg F H RW a b) (hr : r < 4) (hb : b ∈ RW r) : cB9 RW a b ∨ cS9 pg F H RW a b := by
  rcases h with (h | h) | h
  · obtain ⟨-, -, k⟩ := row_k hPg hG hr hb
    exact Or.inl (cR_B hPg hG h (by rcases h.2.1 with q | q <;> omega))
  · exact Or.inl h
  · exact Or.inr h
theorem cI_out (hPg : PgOk T Ac pg) (hG : GrO9 Ac md pg F H RW) {a b : Nat} (h : cI9 pg F H RW a b) (hb : ∀ r, r < 4 → ¬ b ∈ RW r) : cR9 pg F H a b := by
  rcases h with (h | h) | h
  · exact h
  · obtain ⟨y, hy, h1, h2, -⟩ := (cB_ix hG).mp h
    exact absurd h2 (hb y hy)
  · obtain ⟨h1, h2, h3, h4, -⟩ := (cS_ix hPg hG).mp h
    exact absurd h4 (hb _ (by have := tk_5 hPg hG h1 h2; omega))
/-- SEEN by an ADD: behind it in the row -/
theorem cS_add (hPg : PgOk T Ac pg) (hG : GrO9 Ac md pg F H RW) {y z r : Nat} (h : cS9 pg F H RW y z) (hr : r < 4) (hy : y ∈ RW r) : cB9 RW y z := by
  obtain ⟨h1, h2, h3, h4, h5⟩ := (cS_ix hPg hG).mp h
  obtain ⟨-, -, k⟩ := row_k hPg hG hr hy
  have k3 : pg 4 y = 3 := by rcases h2 with q | q <;> omega
  obtain ⟨q5, hm⟩ := row_w hPg hG h1 (by omega)
  have ne : (RW (pg 5 y)).idxOf z ≠ (RW (pg 5 y)).idxOf y := fun e => h3 (ix_inj h4 hm e)
  refine (cB_ix hG).mpr ⟨pg 5 y, by omega, hm, h4, ?_⟩
  rcases add_ix hPg hG h1 k3 with ⟨z1, z2⟩ | ⟨w, w1, w2, w3⟩
  · omega
  · rcases h5 with q | ⟨v, v1, v2, v3⟩
    · omega
    · have e : v = w := by omega
      subst e; omega
/-- two steps that end in a row are one step -/
theorem cI_tr (hPg : PgOk T Ac pg) (hG : GrO9 Ac md pg F H RW) {x y z r : Nat} (h1 : cI9 pg F H RW x y) (h2 : cI9 pg F H RW y z) (hr : r < 4) (hz : z ∈ RW r) : cI9 pg F H RW x z := by
  by_cases c : ∃ s, s < 4 ∧ y ∈ RW s
  · obtain ⟨s, hs, hy⟩ := c
    have b2 : cB9 RW y z := (cI_row hPg hG h2 hr hz).elim id (fun q => cS_add hPg hG q hs hy)
    obtain ⟨q, hq, y1, z1, i1⟩ := (cB_ix hG).mp b2
    rcases cI_row hPg hG h1 hq y1 with b1 | s1
    · obtain ⟨p, hp, x2, y2, i2⟩ := (cB_ix hG).mp b1
      have e := gr_uni hPg hG hp hq y2 y1
      subst e
      exact Or.inl (Or.inr ((cB_ix hG).mpr ⟨p, hp, x2, z1, by omega⟩))
    · obtain ⟨t1, t2, t3, t4, t5⟩ := (cS_ix hPg hG).mp s1
      have e := gr_uni hPg hG (by have := tk_5 hPg hG t1 t2; omega) hq t4 y1
      subst e
      refine Or.inr ((cS_ix hPg hG).mpr ⟨t1, t2, fun e => ?_, z1, t5.imp id (fun ⟨w, w1, w2, w3⟩ => ⟨w, w1, w2, by omega⟩)⟩)
      subst e
      obtain ⟨-, -, k⟩ := row_k hPg hG hq z1
      have k3 : pg 4 z = 3 := by rcases t2 with q | q <;> omega
      rcases add_ix hPg hG t1 k3 with ⟨u1, u2⟩ | ⟨u, u1, u2, u3⟩
      · omega
      · rcases t5 with q | ⟨v, v1, v2, v3⟩
        · omega
        · have e : v = u := by omega
          subst e; omega
  · have nc : ∀ s, s < 4 → ¬ y ∈ RW s := fun s hs w => c ⟨s, hs, w⟩
    obtain ⟨a1, a2, a3⟩ := cI_out hPg hG h1 nc
    rcases h2 with (⟨b1, b2, b3⟩ | h) | h
    · obtain ⟨c1, c2, c3, c4, c5⟩ := src_k hG b1 b2 b3
      obtain ⟨d1, d2⟩ := row_w hPg hG c1 ⟨c3, c4⟩
      exact absurd d2 (nc _ (by omega))
    · obtain ⟨q, hq, y1, z1, i1⟩ := (cB_ix hG).mp h
      exact absurd y1 (nc q hq)
    · obtain ⟨t1, t2, t3, t4, t5⟩ := (cS_ix hPg hG).mp h
      rcases t5 with q | ⟨v, v1, v2, v3⟩
      · omega
      · have e : v = x := by omega
        subst e
        exact Or.inl (Or.inr ((cB_ix hG).mpr ⟨pg 5 y, by have := tk_5 hPg hG t1 t2; omega, v2, t4, v3⟩))
theorem cI_way (hPg : PgOk T Ac pg) (hG : GrO9 Ac md pg F H RW) : ∀ n b a, way9 (cI9 pg F H RW) n b a → cI9 pg F H RW b a ∨ ∃ s, cI9 pg F H RW b s ∧ cR9 pg F H s a
  | 0, b, a, h => Or.inl h
  | n + 1, b, a, ⟨c, h1, h2⟩ => by
    rcases cI_way hPg hG n c a h2 with q | ⟨s, q1, q2⟩
    · by_cases w : ∃ r, r < 4 ∧ a ∈ RW r
      · obtain ⟨r, hr, ha⟩ := w
        exact Or.inl (cI_tr hPg hG h1 q hr ha)
      · exact Or.inr ⟨c, h1, cI_out hPg hG q (fun r hr z => w ⟨r, hr, z⟩)⟩
    · obtain ⟨c1, c2, c3, c4, c5⟩ := src_k hG q2.1 q2.2.1 q2.2.2
      obtain ⟨d1, d2⟩ := row_w hPg hG c1 ⟨c3, c4⟩
      exact Or.inr ⟨s, cI_tr hPg hG h1 q1 (show pg 5 s < 4 by omega) d2, q2⟩
theorem cF_B {a b : Nat} (h : cF9 RW a b) : cB9 RW a b := by
  obtain ⟨l1, l2, e⟩ := h
  exact ⟨3, l1 ++ [a], l2, by decide, by rw [e, List.append_assoc]; rfl, List.mem_append_right _ (List.mem_singleton.mpr rfl)⟩
theorem hB_way : ∀ n a b, way9 (hB9 pg F H RW) n a b → (pg 2 a = pg 2 b ∧ a < b) ∨ ∃ x y, (cR9 pg F H x y ∨ cF9 RW x y) ∧ (x = a ∨ con9 (hB9 pg F H RW) a x) ∧ (y = b ∨ con9 (hB9 pg F H RW) y b)
  | 0, a, b, h => by
    rcases h with h | h
    · exact Or.inl h.2.2
    · exact Or.inr ⟨a, b, h, Or.inl rfl, Or.inl rfl⟩
  | n + 1, a, b, ⟨c, h1, h2⟩ => by
    rcases hB_way n c b h2 with q | ⟨x, y, q1, q2, q3⟩
    · rcases h1 with h | h
      · exact Or.inl ⟨h.2.2.1.trans q.1, Nat.lt_trans h.2.2.2 q.2⟩
      · exact Or.inr ⟨a, c, h, Or.inl rfl, Or.inr ⟨n, h2⟩⟩
    · refine Or.inr ⟨x, y, q1, Or.inr ?_, q3⟩
      rcases q2 with e | e
      · rw [e]; exact con_1 h1
      · exact con_tr9 (con_1 h1) e
/-- back by one step: the class's test of model 3 -/
theorem hB_back (hPg : PgOk T Ac pg) (hG : GrO9 Ac md pg F H RW) : (∃ a b, cI9 pg F H RW b a ∧ con9 (hB9 pg F H RW) a b) ↔ rng9 (hB9 pg F H RW) ∨ bck9 (hB9 pg F H RW) (cI9 pg F H RW) := by
  constructor
  · rintro ⟨a, b, h1, h2⟩
    exact Or.inr ⟨a, b, h2, con_1 h1⟩
  · rintro (⟨a, n, h⟩ | ⟨a, b, h1, n, h2⟩)
    · rcases hB_way n a a h with q | ⟨x, y, q1, q2, q3⟩
      · exact absurd q.2 (Nat.lt_irrefl a)
      · refine ⟨y, x, q1.elim (fun q => Or.inl (Or.inl q)) (fun q => Or.inl (Or.inr (cF_B q))), ?_⟩
        have hs : hB9 pg F H RW x y := Or.inr q1
        rcases q2 with e | e
        · rcases q3 with f | f
          · rw [e, f] at hs ⊢; exact con_1 hs
          · rw [e]; exact f
        · rcases q3 with f | f
          · rw [f]; exact e
          · exact con_tr9 f e
    · rcases cI_way hPg hG n b a h2 with q | ⟨s, q1, q2⟩
      · exact ⟨a, b, q, h1⟩
      · exact ⟨s, b, q1, con_tr9 (con_1 (Or.inr (Or.inl q2))) h1⟩
theorem cf_way {l2 : List Nat} {j : Nat} : ∀ (q p : List Nat) (i : Nat), RW 3 = p ++ i :: (q ++ j :: l2) → con9 (cF9 RW) i j
  | [], p, i, e => con_1 ⟨p, l2, e⟩
  | c :: q, p, i, e => con_tr9 (con_1 ⟨p, q ++ j :: l2, e⟩) (cf_way q (p ++ [i]) c (by rw [e, List.append_assoc]; rfl))
theorem cB_F (hPg : PgOk T Ac pg) (hG : GrO9 Ac md pg F H RW) {i j : Nat} (k : pg 4 i = 4) (h : cB9 RW i j) : con9 (cF9 RW) i j := by
  obtain ⟨y, l1, l2, hy, e, hm⟩ := h
  obtain ⟨-, -, q⟩ := row_k hPg hG hy (show i ∈ RW y by rw [e]; exact List.mem_append_left _ hm)
  have y3 : y = 3 := by omega
  subst y3
  obtain ⟨p, q, e2⟩ := List.append_of_mem hm
  exact cf_way q p i (by rw [e, e2, List.append_assoc]; rfl)
end GR9
