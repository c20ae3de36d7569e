theorem split_uni : ∀ (l1 m1 : List Nat) {l2 m2 : List Nat} {b : Nat}, (l1 ++ b :: l2).Nodup → l1 ++ b :: l2 = m1 ++ b :: m2 → l1 = m1 ∧ l2 = m2
  | [], [], _, _, _, _, e => ⟨rfl, (List.cons.inj e).2⟩
  | [], c :: m1, l2, m2, b, hn, e => by
    obtain ⟨e1, e2⟩ := List.cons.inj e
    have := (List.nodup_cons.mp hn).1
    exact absurd (by rw [show l2 = m1 ++ b :: m2 from e2]; exact List.mem_append_right _ (List.mem_cons_self ..)) this
  | c :: l1, [], l2, m2, b, hn, e => by
    obtain ⟨e1, e2⟩ := List.cons.inj e
    have := (List.nodup_cons.mp hn).1
    exact absurd (by rw [e1]; exact List.mem_append_right _ (List.mem_cons_self ..)) this
  | c :: l1, d :: m1, l2, m2, b, hn, e => by
    obtain ⟨e1, e2⟩ := List.cons.inj e
    obtain ⟨i1, i2⟩ := split_uni l1 m1 (List.nodup_cons.mp hn).2 e2
    exact ⟨by rw [e1, i1], i2⟩
theorem lt_128 {d : Nat} (h : ∀ i, d.testBit i = true → i < 7) : d < 128 := by
  refine Nat.lt_pow_two_of_testBit (n := 7) d (fun i hi => ?_)
  cases q : d.testBit i with
  | false => rfl
  | true => have := h i q; omega
theorem clr_b9 {d a b : Nat} (hd : d < 128) (ha : a < 7) : (clr d a).testBit b = true ↔ d.testBit b = true ∧ ¬ b = a := by
  constructor
  · intro w
    have b7 := bit_hi (clr_lt hd) w
    rw [clr_bit d hd a ha b b7, Bool.and_eq_true] at w
    exact ⟨w.1, fun e => by rw [e] at w; simp at w⟩
  · rintro ⟨w1, w2⟩
    have b7 := bit_hi hd w1
    rw [clr_bit d hd a ha b b7, w1, show (a == b) = false from by simpa using fun e : a = b => w2 e.symm]; rfl
/-- a graph by the class's numbers: FROM, what happens, the rows -/
def GrO9 (Ac md : Nat) (pg : Nat → Nat → Nat) (F : Nat → Nat) (H : Nat) (RW : Nat → List Nat) : Prop :=
  (∀ a, H.testBit a = true → a < Ac ∧ pg 4 a ≠ 5) ∧ (∀ y, y < 4 → (y = 3 → md = 3) → rwE9 pg F (wRw pg H y) y [] (RW y)) ∧ (md ≠ 3 → RW 3 = []) ∧
  (∀ a, H.testBit a = true → tkr9 pg a → F a = 0 ∨ (H.testBit (F a - 1) = true ∧ F a - 1 ≠ a ∧ 1 ≤ pg 4 (F a - 1) ∧ pg 4 (F a - 1) ≤ 3 ∧ pg 5 (F a - 1) = pg 5 a))
section GR7
variable {T Ac md : Nat} {pg : Nat → Nat → Nat} {F : Nat → Nat} {H : Nat} {RW : Nat → List Nat} {sc : Nat → Nat → Nat}
theorem wRw_9 (hPg : PgOk T Ac pg) {y b : Nat} (hy : y < 4) : (wRw pg H y).testBit b = true ↔ H.testBit b = true ∧ b < Ac ∧ ((y = 3 ∧ pg 4 b = 4) ∨ (y < 3 ∧ 1 ≤ pg 4 b ∧ pg 4 b ≤ 3 ∧ pg 5 b = y)) := by
  have h9 := hPg.2.2.2.2.2.2.1
  unfold wRw wrR
  rw [Nat.testBit_and, Bool.and_eq_true]
  by_cases y3 : y = 3
  · rw [if_pos y3, hPg.2.2.2.2.2.2.2.2.2.1 4 b (by decide)]
    exact ⟨fun h => ⟨h.2, h.1.1, Or.inl ⟨y3, h.1.2⟩⟩, fun h => ⟨⟨h.2.1, by rcases h.2.2 with w | w; exact w.2; omega⟩, h.1⟩⟩
  · have hy3 : y < 3 := by omega
    have nb : ∀ b : Bool, (!b) = true ↔ ¬ b = true := fun b => by cases b <;> decide
    rw [if_neg y3, andn_b (hPg.2.2.2.2.2.2.2.1 _) (h9 0), Bool.and_eq_true, nb, hPg.2.2.2.2.2.2.2.2.2.2 y b hy3, hPg.2.2.2.2.2.2.2.2.2.1 0 b (by decide)]
    constructor
    · rintro ⟨⟨⟨h1, h2, h3⟩, h4⟩, h5⟩
      have : ¬ pg 4 b = 0 := fun z => h4 ⟨h1, z⟩
      exact ⟨h5, h1, Or.inr ⟨hy3, by omega, by omega, h3⟩⟩
    · rintro ⟨h1, h2, w | ⟨-, w1, w2, w3⟩⟩
      · exact absurd w.1 y3
      · exact ⟨⟨⟨h2, by omega, w3⟩, fun z => by omega⟩, h1⟩
theorem gr_row (hG : GrO9 Ac md pg F H RW) {y : Nat} (hy : y < 4) : (RW y).Nodup ∧ (∀ a, a ∈ RW y → (wRw pg H y).testBit a = true) ∧ ((y = 3 → md = 3) → ∀ a, (wRw pg H y).testBit a = true → a ∈ RW y) ∧ ∀ l1 b l2, RW y = l1 ++ b :: l2 → stO9 pg F (wRw pg H y) y l1 b := by
  by_cases c : y = 3 → md = 3
  · obtain ⟨h1, h2, h3, h4⟩ := rwE_pr (RW y) [] List.nodup_nil (hG.2.1 y hy c)
    exact ⟨h1, h2, fun _ => h3, h4⟩
  · have y3 : y = 3 := Classical.byContradiction fun z => c (fun w => absurd w z)
    have m3 : md ≠ 3 := fun z => c (fun _ => z)
    have e : RW y = [] := by rw [y3]; exact hG.2.2.1 m3
    rw [e]
    exact ⟨List.nodup_nil, fun a h => absurd h List.not_mem_nil, fun w => absurd w c, fun l1 b l2 w => by simp at w⟩
theorem gr_uni (hPg : PgOk T Ac pg) (hG : GrO9 Ac md pg F H RW) {y z b : Nat} (hy : y < 4) (hz : z < 4) (h1 : b ∈ RW y) (h2 : b ∈ RW z) : y = z := by
  obtain ⟨-, -, a⟩ := (wRw_9 hPg hy).mp ((gr_row hG hy).2.1 b h1)
  obtain ⟨-, -, c⟩ := (wRw_9 hPg hz).mp ((gr_row hG hz).2.1 b h2)
  omega
/-- what the class keeps as before, at a leaf -/
theorem bf_rel (hPg : PgOk T Ac pg) (hG : GrO9 Ac md pg F H RW) (hS : scR9 pg sc F H) {fm : Nat → Nat} (hF : ∀ a, F a = fm a - 1) {f h : Nat → Nat} {a b : Nat} (hb : H.testBit b = true) :
    ((lfW pg md Ac H sc (r0E md - 1) RW (f, bfN pg fm H Ac, h)).2.1 b).testBit a = true ↔ (cR9 pg F H a b ∨ cB9 RW a b) ∨ cS9 pg F H RW a b := by
  have hA := hPg.2.1
  have hr : r0E md - 1 = if md = 3 then 3 else 2 := by unfold r0E; split <;> rfl
  have p5 : ∀ r, H.testBit r = true → tkr9 pg r → pg 5 r < 3 := fun r h1 h2 => (hPg.2.2.2.2.1 r (hG.1 r h1).1).2.2.2.1 (px_4 hPg h2)
  by_cases c : ∃ y, y < 4 ∧ b ∈ RW y
  · obtain ⟨y, hy, hm⟩ := c
    obtain ⟨n1, n2, n3, n4⟩ := gr_row hG hy
    obtain ⟨l1, l2, e⟩ := List.append_of_mem hm
    have hnd := n1
    rw [e] at hnd
    have hnl := (List.nodup_append.mp hnd)
    have b2 : ¬ b ∈ l2 := (List.nodup_cons.mp hnl.2.1).1
    have b1 : ¬ b ∈ l1 := fun w => hnl.2.2 b w b (List.mem_cons_self ..) rfl
    have hyr : y ≤ r0E md - 1 := by
      rw [hr]
      by_cases m3 : md = 3
      · rw [if_pos m3]; omega
      · rw [if_neg m3]
        have : y ≠ 3 := fun w => by rw [w, hG.2.2.1 m3] at hm; exact absurd hm List.not_mem_nil
        omega
    rw [lfW_in e b2 (fun z hz w => absurd (gr_uni hPg hG (by omega) hy w hm) (by omega)) _ _ hyr, Nat.testBit_or, Bool.or_eq_true, rs_ah]
    have se7 : (rsF sc (0, wRw pg H y, 0, sc 7 y, fun _ => 0) l1).2.2.2.1 < 128 := lt_128 (fun i hi => by
      rcases (rs_se l1 _ i).mp hi with w | ⟨w, -, w2⟩
      · have := (hG.1 i ((hS.2 y i).mp w).1).1; omega
      · have := (hG.1 i ((hS.1 w i).mp w2).1).1; omega)
    have b7 : b < 7 := by have := (hG.1 b hb).1; omega
    rw [clr_b9 se7 b7, rs_se]
    have eB : cB9 RW a b ↔ a ∈ l1 := by
      constructor
      · rintro ⟨z, m1, m2, z1, z2, z3⟩
        have ez := gr_uni hPg hG z1 hy (by rw [z2]; exact List.mem_append_right _ (List.mem_cons_self ..)) hm
        rw [ez, e] at z2
        rw [(split_uni l1 m1 hnd z2).1]; exact z3
      · intro w; exact ⟨y, l1, l2, hy, e, w⟩
    have eS : cS9 pg F H RW a b ↔ (((sc 7 y).testBit a = true ∨ ∃ w, w ∈ l1 ∧ (sc 6 (w + 1)).testBit a = true) ∧ ¬ a = b) := by
      constructor
      · rintro ⟨s1, s2, s3, m1, m2, s4, s5⟩
        have ez : pg 5 a = y := gr_uni hPg hG (by have := p5 a s1 s2; omega) hy (by rw [s4]; exact List.mem_append_right _ (List.mem_cons_self ..)) hm
        rw [ez, e] at s4
        rw [← (split_uni l1 m1 hnd s4).1] at s5
        refine ⟨?_, fun w => s3 w.symm⟩
        rcases s5 with w | ⟨w, w1, w2⟩
        · exact Or.inl ((hS.2 y a).mpr ⟨s1, s2, w, ez⟩)
        · exact Or.inr ⟨w, w1, (hS.1 w a).mpr ⟨s1, s2, w2⟩⟩
      · rintro ⟨w | ⟨w, w1, w2⟩, ne⟩
        · obtain ⟨q1, q2, q3, q4⟩ := (hS.2 y a).mp w
          exact ⟨q1, q2, fun z => ne z.symm, l1, l2, by rw [q4]; exact e, Or.inl q3⟩
        · obtain ⟨q1, q2, q3⟩ := (hS.1 w a).mp w2
          refine ⟨q1, q2, fun z => ne z.symm, l1, l2, ?_, Or.inr ⟨w, w1, q3⟩⟩
          have hwm : w ∈ RW y := by rw [e]; exact List.mem_append_left _ w1
          obtain ⟨-, -, v⟩ := (wRw_9 hPg hy).mp (n2 w hwm)
          obtain ⟨-, -, u1, u2, u3⟩ := (hG.2.2.2 a q1 q2).resolve_left (by omega)
          rw [q3, Nat.add_sub_cancel] at u1 u2 u3
          rw [show pg 5 a = y by omega]; exact e
    rw [eS, ← eB]
    have eR : cR9 pg F H a b → cB9 RW a b := fun ⟨q1, q2, q3⟩ => by
      rw [eB]
      obtain ⟨-, -, v⟩ := (wRw_9 hPg hy).mp (n2 b hm)
      obtain ⟨-, -, s3⟩ := n4 l1 b l2 e
      have ht : pg 4 b = 3 := by rcases q2 with w | w <;> omega
      have hls : F b = lsL l1 := by
        rcases s3 with w | w | w
        · omega
        · exact w.2
        · exact absurd ht w.1
      have h0 : lsL l1 ≠ 0 := by rw [← hls, q3]; exact Nat.succ_ne_zero a
      have := lsL_in h0
      rw [← hls, q3, Nat.add_sub_cancel] at this; exact this
    show (Nat.testBit 0 a = true ∨ cB9 RW a b) ∨ _ ↔ _
    rw [Nat.zero_testBit]
    constructor
    · rintro ((w | w) | w)
      · exact absurd w Bool.false_ne_true
      · exact Or.inl (Or.inr w)
      · exact Or.inr w
    · rintro ((w | w) | w)
      · exact Or.inl (Or.inr (eR w))
      · exact Or.inl (Or.inr w)
      · exact Or.inr w
  · have nc : ∀ y, y < 4 → ¬ b ∈ RW y := fun y hy w => c ⟨y, hy, w⟩
    rw [lfW_out _ _ (fun y hy => nc y (by rw [hr] at hy; split at hy <;> omega))]
    show (bfN pg fm H Ac b).testBit a = true ↔ _
    rw [bf_at9]
    have nB : ¬ cB9 RW a b := fun ⟨z, m1, m2, z1, z2, _⟩ => nc z z1 (by rw [z2]; exact List.mem_append_right _ (List.mem_cons_self ..))
    have nS : ¬ cS9 pg F H RW a b := fun ⟨s1, s2, s3, m1, m2, s4, _⟩ => nc (pg 5 a) (by have := p5 a s1 s2; omega) (by rw [s4]; exact List.mem_append_right _ (List.mem_cons_self ..))
    have eR : cR9 pg F H a b ↔ tkr9 pg b ∧ fm b - 1 = a + 1 := by
      unfold cR9
      rw [hF b]
      exact ⟨fun w => w.2, fun w => ⟨hb, w⟩⟩
    by_cases q : b < Ac ∧ H.testBit b = true ∧ tkr9 pg b ∧ 1 < fm b
    · rw [if_pos q, Nat.testBit_two_pow, decide_eq_true_iff]
      constructor
      · intro w; exact Or.inl (Or.inl (eR.mpr ⟨q.2.2.1, by have := q.2.2.2; omega⟩))
      · rintro ((w | w) | w)
        · have := (eR.mp w).2; omega
        · exact absurd w nB
        · exact absurd w nS
    · rw [if_neg q, Nat.zero_testBit]
      constructor
      · intro w; exact absurd w Bool.false_ne_true
      · rintro ((w | w) | w)
        · have := eR.mp w
          exact absurd ⟨(hG.1 b hb).1, hb, this.1, by omega⟩ q
        · exact absurd w nB
        · exact absurd w nS
end GR7
