/-- a row that goes on from l -/
def rwE9 (pg : Nat → Nat → Nat) (F : Nat → Nat) (W x : Nat) : List Nat → List Nat → Prop
  | l, [] => ∀ a, W.testBit a = true → a ∈ l
  | l, a :: e => stO9 pg F W x l a ∧ rwE9 pg F W x (l ++ [a]) e
/-- what the class asks besides: own smaller ones are there; no own later reader takes from what is there -/
def owS9 (pg : Nat → Nat → Nat) (F : Nat → Nat) (H W x : Nat) (l : List Nat) (a : Nat) : Prop :=
  (∀ v, W.testBit v = true → ¬ v ∈ l → ¬ (ownT pg a).testBit v = true) ∧ (∀ r, H.testBit r = true → tkr9 pg r → ((F r = 0 ∧ pg 5 r = x) ∨ ∃ w, w ∈ l ∧ F r = w + 1) → ¬ (aft pg a).testBit r = true)
def owE9 (pg : Nat → Nat → Nat) (F : Nat → Nat) (H W x : Nat) : List Nat → List Nat → Prop
  | _, [] => True
  | l, a :: e => owS9 pg F H W x l a ∧ owE9 pg F H W x (l ++ [a]) e
section RS2
variable {T Ac : Nat} {pg : Nat → Nat → Nat} {sc : Nat → Nat → Nat} {F : Nat → Nat} {H W x : Nat}
theorem ok_9 (hPg : PgOk T Ac pg) (hS : scR9 pg sc F H) (hs3 : ∀ a, a < Ac → sc 3 a = ownT pg a) (hW : W < 128) (hWx : ∀ a, W.testBit a = true → a < Ac ∧ H.testBit a = true ∧ (x = 3 ∨ pg 5 a = x)) (l : List Nat) (h7 : ∀ a, a ∈ l → a < 7) (w : Nat) :
    w ∈ nxC9 pg sc Ac x W (sc 7 x) l ↔ stO9 pg F W x l w ∧ owS9 pg F H W x l w := by
  unfold nxC9
  rw [List.mem_filter, List.mem_range]
  unfold okC9
  rw [decide_eq_true_iff, chL_9 hPg hS hW hWx l h7 w]
  obtain ⟨t1, t2⟩ := rs_todo (sc := sc) l (0, W, 0, sc 7 x, fun _ => 0) hW h7
  have t3 := rs_se (sc := sc) l (0, W, 0, sc 7 x, fun _ => 0)
  constructor
  · rintro ⟨h0, h1, h2, h3⟩
    rw [hs3 w h0] at h2
    refine ⟨h1, fun v v1 v2 v3 => and_0.mp h2 v v3 ((t2 v).mpr ⟨v1, v2⟩), fun r r1 r2 r3 r4 => and_0.mp h3 r ((t3 r).mpr ?_) r4⟩
    rcases r3 with r3 | ⟨u, u1, u2⟩
    · exact Or.inl ((hS.2 x r).mpr ⟨r1, r2, r3.1, r3.2⟩)
    · exact Or.inr ⟨u, u1, (hS.1 u r).mpr ⟨r1, r2, u2⟩⟩
  · rintro ⟨h1, h2, h3⟩
    have h0 := (hWx w h1.1).1
    refine ⟨h0, h1, ?_, ?_⟩
    · rw [hs3 w h0]
      exact and_0.mpr (fun v v1 v2 => by
        obtain ⟨v3, v4⟩ := (t2 v).mp v2
        exact h2 v v3 v4 v1)
    · refine and_0.mpr (fun r r1 r2 => ?_)
      rcases (t3 r).mp r1 with q | ⟨u, u1, u2⟩
      · obtain ⟨q1, q2, q3, q4⟩ := (hS.2 x r).mp q
        exact h3 r q1 q2 (Or.inl ⟨q3, q4⟩) r2
      · obtain ⟨q1, q2, q3⟩ := (hS.1 u r).mp u2
        exact h3 r q1 q2 (Or.inr ⟨u, u1, q3⟩) r2
theorem st_9 (hW : W < 128) (l : List Nat) (h7 : ∀ a, a ∈ l → a < 7) {f0 : Nat} : stC9 sc W f0 l = true ↔ ∀ a, W.testBit a = true → a ∈ l := by
  unfold stC9
  obtain ⟨t1, t2⟩ := rs_todo (sc := sc) l (0, W, 0, f0, fun _ => 0) hW h7
  rw [decide_eq_true_iff]
  constructor
  · intro h a ha
    refine Classical.byContradiction fun w => ?_
    have := (t2 a).mpr ⟨ha, w⟩
    rw [h, Nat.zero_testBit] at this; exact absurd this Bool.false_ne_true
  · intro h
    refine Nat.eq_of_testBit_eq (fun i => ?_)
    rw [Nat.zero_testBit]
    cases q : (rsF sc (0, W, 0, f0, fun _ => 0) l).2.1.testBit i with
    | false => rfl
    | true =>
      obtain ⟨q1, q2⟩ := (t2 i).mp q
      exact absurd (h i q1) q2
theorem exC_9 (hPg : PgOk T Ac pg) (hS : scR9 pg sc F H) (hs3 : ∀ a, a < Ac → sc 3 a = ownT pg a) (hW : W < 128) (hWx : ∀ a, W.testBit a = true → a < Ac ∧ H.testBit a = true ∧ (x = 3 ∨ pg 5 a = x)) : ∀ (e l : List Nat), (∀ a, a ∈ l → a < 7) →
    (exS (stC9 sc W (sc 7 x)) (nxC9 pg sc Ac x W (sc 7 x)) l e ↔ rwE9 pg F W x l e ∧ owE9 pg F H W x l e)
  | [], l, h7 => by
    show stC9 sc W (sc 7 x) l = true ↔ (∀ a, W.testBit a = true → a ∈ l) ∧ True
    rw [st_9 hW l h7, and_true]
  | a :: e, l, h7 => by
    show stC9 sc W (sc 7 x) l = false ∧ a ∈ nxC9 pg sc Ac x W (sc 7 x) l ∧ exS _ _ (l ++ [a]) e ↔ (stO9 pg F W x l a ∧ rwE9 pg F W x (l ++ [a]) e) ∧ owS9 pg F H W x l a ∧ owE9 pg F H W x (l ++ [a]) e
    rw [ok_9 hPg hS hs3 hW hWx l h7 a]
    constructor
    · rintro ⟨-, ⟨h1, h2⟩, h3⟩
      have h8 : ∀ b, b ∈ l ++ [a] → b < 7 := fun b hb => by
        rcases List.mem_append.mp hb with q | q
        · exact h7 b q
        · rw [List.mem_singleton.mp q]; exact bit_hi hW h1.1
      obtain ⟨i1, i2⟩ := (exC_9 hPg hS hs3 hW hWx e (l ++ [a]) h8).mp h3
      exact ⟨⟨h1, i1⟩, h2, i2⟩
    · rintro ⟨⟨h1, i1⟩, h2, i2⟩
      have h8 : ∀ b, b ∈ l ++ [a] → b < 7 := fun b hb => by
        rcases List.mem_append.mp hb with q | q
        · exact h7 b q
        · rw [List.mem_singleton.mp q]; exact bit_hi hW h1.1
      refine ⟨?_, ⟨h1, h2⟩, (exC_9 hPg hS hs3 hW hWx e (l ++ [a]) h8).mpr ⟨i1, i2⟩⟩
      cases q : stC9 sc W (sc 7 x) l with
      | false => rfl
      | true => exact absurd ((st_9 hW l h7).mp q a h1.1) h1.2.1
theorem rw_len (hW : W < 128) : ∀ (e l : List Nat) (d : Nat), d < 128 → (∀ i, d.testBit i = true ↔ W.testBit i = true ∧ ¬ i ∈ l) → rwE9 pg F W x l e → e.length ≤ pop7 d
  | [], _, _, _, _, _ => Nat.zero_le _
  | a :: e, l, d, hd, h, ⟨h1, h2⟩ => by
    have ha : d.testBit a = true := (h a).mpr ⟨h1.1, h1.2.1⟩
    have a7 := bit_hi hd ha
    have hp := pop_clr d hd a a7 ha
    have := rw_len hW e (l ++ [a]) (clr d a) (clr_lt hd) (fun i => by
      rw [List.mem_append, List.mem_singleton, not_or, ← and_assoc, ← h i]
      constructor
      · intro w
        have i7 := bit_hi (clr_lt hd) w
        rw [clr_bit d hd a a7 i i7, Bool.and_eq_true] at w
        exact ⟨w.1, fun e => by rw [e] at w; simp at w⟩
      · rintro ⟨w1, w2⟩
        have i7 := bit_hi hd w1
        rw [clr_bit d hd a a7 i i7, w1, show (a == i) = false from by simpa using fun e : a = i => w2 e.symm]; rfl) h2
    rw [List.length_cons]; omega
/-- the rows that the class lays -/
theorem plC_mem {mb : Nat} (hPg : PgOk T Ac pg) (hS : scR9 pg sc F H) (hs3 : ∀ a, a < Ac → sc 3 a = ownT pg a) (hW : wRw pg mb x < 128) (hWx : ∀ a, (wRw pg mb x).testBit a = true → a < Ac ∧ H.testBit a = true ∧ (x = 3 ∨ pg 5 a = x)) (l : List Nat) :
    l ∈ plC pg Ac mb sc x ↔ rwE9 pg F (wRw pg mb x) x [] l ∧ owE9 pg F H (wRw pg mb x) x [] l := by
  unfold plC
  rw [en_mem]
  constructor
  · rintro ⟨e, h1, h2, -⟩
    rw [h1, List.nil_append]
    exact (exC_9 hPg hS hs3 hW hWx e [] (fun a h => absurd h List.not_mem_nil)).mp h2
  · intro h
    have hl := rw_len hW l [] (wRw pg mb x) hW (fun i => ⟨fun w => ⟨w, List.not_mem_nil⟩, fun w => w.1⟩) h.1
    exact ⟨l, rfl, (exC_9 hPg hS hs3 hW hWx l [] (fun a h => absurd h List.not_mem_nil)).mpr h, by omega⟩
theorem plC_nd {mb : Nat} : (plC pg Ac mb sc x).Nodup := en_nd (fun l => List.Nodup.sublist List.filter_sublist List.nodup_range) _ _
end RS2
