section RS0
variable {sc : Nat → Nat → Nat}
theorem rs_todo : ∀ (l : List Nat) (g : RS9), g.2.1 < 128 → (∀ a, a ∈ l → a < 7) → (rsF sc g l).2.1 < 128 ∧ ∀ i, (rsF sc g l).2.1.testBit i = true ↔ g.2.1.testBit i = true ∧ ¬ i ∈ l
  | [], g, h, _ => ⟨h, fun i => ⟨fun w => ⟨w, List.not_mem_nil⟩, fun w => w.1⟩⟩
  | a :: l, g, h, h7 => by
    obtain ⟨r1, r2⟩ := rs_todo l (plc sc g a) (clr_lt h) (fun b hb => h7 b (List.mem_cons_of_mem _ hb))
    refine ⟨r1, fun i => ?_⟩
    show (rsF sc (plc sc g a) l).2.1.testBit i = true ↔ _
    rw [r2 i]
    have a7 := h7 a (List.mem_cons_self ..)
    have hc : (clr g.2.1 a).testBit i = true ↔ g.2.1.testBit i = true ∧ ¬ i = a := by
      constructor
      · intro w
        have i7 := bit_hi (clr_lt h) w
        rw [clr_bit g.2.1 h a a7 i i7, Bool.and_eq_true] at w
        exact ⟨w.1, fun e => by rw [e] at w; simp at w⟩
      · rintro ⟨w1, w2⟩
        have i7 := bit_hi h w1
        rw [clr_bit g.2.1 h a a7 i i7, w1, show (a == i) = false from by simpa using fun e : a = i => w2 e.symm]; rfl
    show (clr g.2.1 a).testBit i = true ∧ ¬ i ∈ l ↔ _
    rw [hc, List.mem_cons, not_or, and_assoc]
theorem rs_ah : ∀ (l : List Nat) (g : RS9) (i : Nat), (rsF sc g l).2.2.1.testBit i = true ↔ g.2.2.1.testBit i = true ∨ i ∈ l
  | [], g, i => ⟨Or.inl, fun h => h.elim id (fun h => absurd h List.not_mem_nil)⟩
  | a :: l, g, i => by
    show (rsF sc (plc sc g a) l).2.2.1.testBit i = true ↔ _
    rw [rs_ah l, List.mem_cons]
    show (g.2.2.1 ||| 2 ^ a).testBit i = true ∨ i ∈ l ↔ _
    rw [or_b9, or_assoc]
    exact or_congr Iff.rfl (or_congr ⟨Eq.symm, Eq.symm⟩ Iff.rfl)
theorem rs_se : ∀ (l : List Nat) (g : RS9) (i : Nat), (rsF sc g l).2.2.2.1.testBit i = true ↔ g.2.2.2.1.testBit i = true ∨ ∃ w, w ∈ l ∧ (sc 6 (w + 1)).testBit i = true
  | [], g, i => ⟨Or.inl, fun h => h.elim id (fun ⟨w, h, _⟩ => absurd h List.not_mem_nil)⟩
  | a :: l, g, i => by
    show (rsF sc (plc sc g a) l).2.2.2.1.testBit i = true ↔ _
    rw [rs_se l]
    show (g.2.2.2.1 ||| sc 6 (a + 1)).testBit i = true ∨ _ ↔ _
    rw [Nat.testBit_or, Bool.or_eq_true]
    constructor
    · rintro ((h | h) | ⟨w, h1, h2⟩)
      · exact Or.inl h
      · exact Or.inr ⟨a, List.mem_cons_self .., h⟩
      · exact Or.inr ⟨w, List.mem_cons_of_mem _ h1, h2⟩
    · rintro (h | ⟨w, h1, h2⟩)
      · exact Or.inl (Or.inl h)
      · rcases List.mem_cons.mp h1 with e | e
        · rw [e] at h2; exact Or.inl (Or.inr h2)
        · exact Or.inr ⟨w, e, h2⟩
theorem lsL_sn {l : List Nat} {a : Nat} : lsL (l ++ [a]) = a + 1 := by
  unfold lsL
  rw [if_neg (by rw [List.length_append]; simp)]
  have e : (l ++ [a]).length - 1 = l.length := by rw [List.length_append]; simp
  rw [e, getD_app2]
theorem rs_last {W f0 : Nat} {b : Nat → Nat} (l : List Nat) : (rsF sc (0, W, 0, f0, b) l).1 = lsL l := by
  rcases List.eq_nil_or_concat l with e | ⟨m, a, e⟩
  · rw [e]; rfl
  · rw [List.concat_eq_append] at e
    rw [e, rsF_app, lsL_sn]; rfl
/-- what is before: untouched outside the row -/
theorem rs_out : ∀ (l : List Nat) (g : RS9) (i : Nat), ¬ i ∈ l → (rsF sc g l).2.2.2.2 i = g.2.2.2.2 i
  | [], g, i, _ => rfl
  | a :: l, g, i, h => by
    show (rsF sc (plc sc g a) l).2.2.2.2 i = _
    rw [rs_out l _ i (fun w => h (List.mem_cons_of_mem _ w))]
    exact updN_n (fun e => h (by rw [e]; exact List.mem_cons_self ..))
theorem rs_in {g : RS9} {l1 l2 : List Nat} {w : Nat} (h : ¬ w ∈ l2) : (rsF sc g (l1 ++ w :: l2)).2.2.2.2 w = (rsF sc g l1).2.2.1 ||| clr (rsF sc g l1).2.2.2.1 w := by
  rw [rsF_app]
  show (rsF sc (plc sc (rsF sc g l1) w) l2).2.2.2.2 w = _
  rw [rs_out l2 _ w h]
  exact updN_s
end RS0
/-- an action may come next in a row -/
def stO9 (pg : Nat → Nat → Nat) (F : Nat → Nat) (W x : Nat) (l : List Nat) (a : Nat) : Prop :=
  W.testBit a = true ∧ ¬ a ∈ l ∧ (x = 3 ∨ (pg 4 a = 3 ∧ F a = lsL l) ∨ (¬ pg 4 a = 3 ∧ ∀ b, W.testBit b = true → ¬ b ∈ l → pg 4 b = 3 → F b ≠ lsL l))
/-- the readers as the class keeps them -/
def scR9 (pg : Nat → Nat → Nat) (sc : Nat → Nat → Nat) (F : Nat → Nat) (H : Nat) : Prop :=
  (∀ v a, (sc 6 (v + 1)).testBit a = true ↔ H.testBit a = true ∧ tkr9 pg a ∧ F a = v + 1) ∧ (∀ x a, (sc 7 x).testBit a = true ↔ H.testBit a = true ∧ tkr9 pg a ∧ F a = 0 ∧ pg 5 a = x)
section RS1
variable {T Ac : Nat} {pg : Nat → Nat → Nat} {sc : Nat → Nat → Nat} {F : Nat → Nat} {H W x f0 : Nat} {b0 : Nat → Nat}
theorem chL_9 (hPg : PgOk T Ac pg) (hS : scR9 pg sc F H) (hW : W < 128) (hWx : ∀ a, W.testBit a = true → a < Ac ∧ H.testBit a = true ∧ (x = 3 ∨ pg 5 a = x)) (l : List Nat) (h7 : ∀ a, a ∈ l → a < 7) (w : Nat) :
    chL pg sc x (rsF sc (0, W, 0, f0, b0) l).1 (rsF sc (0, W, 0, f0, b0) l).2.1 / 2 ^ w % 2 = 1 ↔ stO9 pg F W x l w := by
  obtain ⟨t1, t2⟩ := rs_todo (sc := sc) l (0, W, 0, f0, b0) hW h7
  rw [rs_last l, tb_div]
  generalize (rsF sc (0, W, 0, f0, b0) l).2.1 = td at t1 t2
  have t3 : ∀ i, td.testBit i = true ↔ W.testBit i = true ∧ ¬ i ∈ l := t2
  have p9 := hPg.2.2.2.2.2.2.1
  have hadd : ∀ i, (pg 9 3).testBit i = true ↔ i < Ac ∧ pg 4 i = 3 := fun i => hPg.2.2.2.2.2.2.2.2.2.1 3 i (by decide)
  unfold stO9 chL
  by_cases x3 : x = 3
  · have ea : adL pg x td = 0 := by unfold adL; exact if_pos x3
    have eb : bdL pg sc x (lsL l) td = 0 := by unfold bdL; rw [ea, Nat.zero_and]
    rw [if_pos eb, ea, andn_b t1 (by decide), Nat.zero_testBit, Bool.not_false, Bool.and_true, t3]
    exact ⟨fun h => ⟨h.1, h.2, Or.inl x3⟩, fun h => ⟨h.1, h.2.1⟩⟩
  · have ea : ∀ i, (adL pg x td).testBit i = true ↔ (W.testBit i = true ∧ ¬ i ∈ l) ∧ pg 4 i = 3 := fun i => by
      unfold adL
      rw [if_neg x3, Nat.testBit_and, Bool.and_eq_true, t3, hadd]
      exact ⟨fun h => ⟨h.1, h.2.2⟩, fun h => ⟨h.1, (hWx i h.1.1).1, h.2⟩⟩
    have hal : adL pg x td < 128 := by unfold adL; rw [if_neg x3]; exact and_lt t1
    have eb : ∀ i, (bdL pg sc x (lsL l) td).testBit i = true ↔ ((W.testBit i = true ∧ ¬ i ∈ l) ∧ pg 4 i = 3) ∧ F i = lsL l := fun i => by
      unfold bdL
      rw [Nat.testBit_and, Bool.and_eq_true, ea]
      refine and_congr_right (fun h => ?_)
      have hx := hWx i h.1.1
      by_cases z : lsL l = 0
      · rw [if_pos z, hS.2, z]
        exact ⟨fun q => q.2.2.1, fun q => ⟨hx.2.1, Or.inr h.2, q, hx.2.2.resolve_left x3⟩⟩
      · rw [if_neg z, show lsL l = (lsL l - 1) + 1 by omega, hS.1]
        exact ⟨fun q => q.2.2, fun q => ⟨hx.2.1, Or.inr h.2, q⟩⟩
    by_cases z : bdL pg sc x (lsL l) td = 0
    · have nb : ∀ b, W.testBit b = true → ¬ b ∈ l → pg 4 b = 3 → F b ≠ lsL l := fun b h1 h2 h3 h4 => by
        have := (eb b).mpr ⟨⟨⟨h1, h2⟩, h3⟩, h4⟩
        rw [z, Nat.zero_testBit] at this; exact absurd this Bool.false_ne_true
      rw [if_pos z, andn_b t1 hal, Bool.and_eq_true, t3]
      constructor
      · rintro ⟨h1, h2⟩
        refine ⟨h1.1, h1.2, Or.inr (Or.inr ⟨fun k => ?_, nb⟩)⟩
        have := (ea w).mpr ⟨h1, k⟩
        rw [this] at h2; exact absurd h2 (by decide)
      · rintro ⟨h1, h2, h3 | h3 | h3⟩
        · exact absurd h3 x3
        · exact absurd h3.2 (nb w h1 h2 h3.1)
        · refine ⟨⟨h1, h2⟩, ?_⟩
          cases q : (adL pg x td).testBit w with
          | false => rfl
          | true => exact absurd ((ea w).mp q).2 h3.1
    · rw [if_neg z, eb]
      constructor
      · rintro ⟨⟨h1, h2⟩, h3⟩
        exact ⟨h1.1, h1.2, Or.inr (Or.inl ⟨h2, h3⟩)⟩
      · rintro ⟨h1, h2, h3 | h3 | h3⟩
        · exact absurd h3 x3
        · exact ⟨⟨⟨h1, h2⟩, h3.1⟩, h3.2⟩
        · exfalso
          apply z
          refine Nat.eq_of_testBit_eq (fun i => ?_)
          rw [Nat.zero_testBit]
          cases q : (bdL pg sc x (lsL l) td).testBit i with
          | false => rfl
          | true =>
            obtain ⟨⟨⟨q1, q2⟩, q3⟩, q4⟩ := (eb i).mp q
            exact absurd q4 (h3.2 i q1 q2 q3)
end RS1
