def hdL : List Nat → Nat
  | [] => 0
  | a :: _ => a + 1
def nxL (a : Nat) : List Nat → Nat
  | [] => 0
  | b :: l => if b = a then hdL l else nxL a l
/-- the writers of each variable in the order in which they came to memory, the newest first -/
def GO (pg : Nat → Nat → Nat) (s : S7) (G : Nat → List Nat) : Prop :=
  (∀ x, x < 3 → (G x).Nodup ∧ (∀ a, a ∈ G x ↔ s.1.testBit a = true ∧ 1 ≤ pg 4 a ∧ pg 4 a ≤ 3 ∧ pg 5 a = x ∧ s.2.2.2.2.2.2.testBit a = false) ∧ srcM s.2.2.2.2.2.1 x = hdL (G x) ∧ (G x).Pairwise (fun b a => pg 2 b = pg 2 a → a < b) ∧ (∀ a, a ∈ G x → pg 4 a = 3 → sA s.2.1 a = nxL a (G x))) ∧
  (∀ a, a < 7 → ¬ (pg 4 a = 0 ∨ pg 4 a = 3) → sA s.2.1 a = 0) ∧ (∀ a c, s.2.2.2.2.2.2.testBit a = true → c ∈ G (pg 5 a) → pg 2 c = pg 2 a → c < a)
def updG (G : Nat → List Nat) (x : Nat) (L : List Nat) : Nat → List Nat := fun y => if y = x then L else G y
section GOS
variable {md T Ac : Nat} {pg : Nat → Nat → Nat} {nm : Nat → Int32} {zs kd vx rr : Nat → Nat} {vv : Nat → Int32} {s : S7} {G : Nat → List Nat}
theorem GO_0 : GO pg s07 (fun _ => []) := by
  refine ⟨fun x hx => ⟨List.nodup_nil, fun a => ⟨fun h => absurd h (List.not_mem_nil), fun h => ?_⟩, ?_, List.Pairwise.nil, fun a h => absurd h (List.not_mem_nil)⟩, fun a _ _ => ?_, fun a c h => ?_⟩
  · have h1 : Nat.testBit 0 a = true := h.1
    rw [Nat.zero_testBit] at h1; exact absurd h1 Bool.false_ne_true
  · show 0 / 8 ^ x % 8 = 0
    rw [Nat.zero_div]
  · show sn 0 / 8 ^ a % 8 = 0
    rw [show sn 0 = 0 from rfl, Nat.zero_div]
  · have h1 : Nat.testBit 0 a = true := h
    rw [Nat.zero_testBit] at h1; exact absurd h1 Bool.false_ne_true
theorem nxL_ne {a b : Nat} {l : List Nat} (h : a ≠ b) : nxL b (a :: l) = nxL b l := by rw [nxL, if_neg h]
theorem GO_N (hX : PX T Ac pg nm zs kd vx rr vv) (hmd : md < 3) (hI : IvC md T Ac pg nm s) (hG : GO pg s G) {t a : Nat} (ht : t < T) (hq : s.2.2.1 t < pg 0 t) (ha : a = pg 1 (t * 7 + s.2.2.1 t)) (hw : ¬ ((pg 4 a = 4 ∨ pg 4 a = 3) ∧ s.2.2.2.2.2.2 &&& pg 8 t ≠ 0)) :
    ∃ G2, GO pg (cN pg nm md s a) G2 := by
  obtain ⟨a1, a2, a3, a4, a5, a6⟩ := px_next hX hI.1 ht hq ha
  obtain ⟨b1, b2, b3, b4, b5, b6⟩ := hX.1.2.2.2.2.1 a a2
  obtain ⟨g1, g2, g3⟩ := hG
  have i4 := hI.1.2.2.2.1
  have i5 := hI.1.2.2.2.2.1
  have i6 := hI.1.2.2.2.2.2.1
  have hq8 : src9 pg s.2.2.2.2.2.2 s.2.2.2.2.2.1 a < 8 := wr_lt (wr_src hX.1 hI.2 a2)
  obtain ⟨sp, -, -⟩ := sA_P i4 i5 (i6 a a1 a5) hq8 a1
  have hd7 : ∀ b, s.1.testBit b = true → b < 7 := fun b hb => bit_hi hI.1.1 hb
  have hna : ∀ x, x < 3 → a ∉ G x := fun x hx h => by
    have := (((g1 x hx).2.1 a).mp h).1
    rw [a5] at this; exact Bool.false_ne_true this
  have hha : s.2.2.2.2.2.2.testBit a = false := by
    cases q : s.2.2.2.2.2.2.testBit a with
    | false => rfl
    | true => have := (held_wr hI q).2.1; rw [a5] at this; exact absurd this Bool.false_ne_true
  have spb : ∀ b, s.1.testBit b = true → sA (cN pg nm md s a).2.1 b = sA s.2.1 b := fun b hb => by
    show sA (srcP s.2.1 _ a) b = _
    rw [sp b (hd7 b hb), if_neg (fun e => by rw [e, a5] at hb; exact Bool.false_ne_true hb)]
  have spa : sA (cN pg nm md s a).2.1 a = src9 pg s.2.2.2.2.2.2 s.2.2.2.2.2.1 a := by
    show sA (srcP s.2.1 _ a) a = _
    rw [sp a a1, if_pos rfl]
  have nt : ∀ b, b < 7 → ¬ (pg 4 b = 0 ∨ pg 4 b = 3) → sA (cN pg nm md s a).2.1 b = 0 := fun b hb hk => by
    show sA (srcP s.2.1 _ a) b = 0
    rw [sp b hb]
    by_cases e : b = a
    · rw [if_pos e]; unfold src9; rw [if_neg (by rw [← e]; exact hk)]
    · rw [if_neg e]; exact g2 b hb hk
  have hdone : (cN pg nm md s a).1 = s.1 ||| 2 ^ a := rfl
  by_cases c : pg 4 a = 3 ∨ (md = 0 ∧ (pg 4 a = 1 ∨ pg 4 a = 2))
  · -- it comes to memory
    have hx : pg 5 a < 3 := b4 (by omega)
    have eh : (cN pg nm md s a).2.2.2.2.2.2 = s.2.2.2.2.2.2 := by
      show hdP md (pg 4 a) s.2.2.2.2.2.2 a = _
      unfold hdP; rw [if_neg (by omega)]
    have em : (cN pg nm md s a).2.2.2.2.2.1 = putM s.2.2.2.2.2.1 (pg 5 a) a := by
      show mmP md (pg 4 a) s.2.2.2.2.2.1 (pg 5 a) a = _
      unfold mmP; rw [if_pos c]
    have hm := hI.2.2.1
    refine ⟨updG G (pg 5 a) (a :: G (pg 5 a)), fun x h3 => ?_, nt, fun b d hb hd2 e => ?_⟩
    · obtain ⟨k1, k2, k3, k4, k5⟩ := g1 x h3
      rw [eh, em, srcM_put _ hm _ hx a a1 x h3, hdone]
      unfold updG
      by_cases e : x = pg 5 a
      · rw [if_pos e, if_pos e, ← e]
        refine ⟨List.nodup_cons.mpr ⟨hna x h3, k1⟩, fun b => ?_, rfl, List.pairwise_cons.mpr ⟨fun b hb q => a6 b ((k2 b).mp hb).1 (by rw [← q, a3]), k4⟩, fun b hb hk => ?_⟩
        · rw [List.mem_cons, k2 b]
          by_cases z : b = a
          · rw [z]; exact ⟨fun _ => ⟨b_eq, by omega, by omega, e.symm, hha⟩, fun _ => Or.inl rfl⟩
          · rw [b_ne z]; exact ⟨fun q => q.resolve_left z, fun q => Or.inr q⟩
        · rcases List.mem_cons.mp hb with z | z
          · rw [z] at hk ⊢
            rw [spa, nxL, if_pos rfl, ← k3]
            unfold src9 srcF
            rw [if_pos (Or.inr hk), a3, ← e]
            have : s.2.2.2.2.2.2 &&& pg 8 t = 0 := Classical.byContradiction (fun q => hw ⟨Or.inr hk, q⟩)
            rw [this, Nat.zero_and, if_pos rfl]
          · have zd := ((k2 b).mp z).1
            rw [spb b zd, nxL_ne (fun q => by rw [← q, a5] at zd; exact Bool.false_ne_true zd)]
            exact k5 b z hk
      · rw [if_neg e, if_neg e]
        refine ⟨k1, fun b => ?_, k3, k4, fun b hb hk => ?_⟩
        · rw [k2 b]
          by_cases z : b = a
          · rw [z]; exact ⟨fun q => by rw [a5] at q; exact absurd q.1 Bool.false_ne_true, fun q => absurd q.2.2.2.1.symm e⟩
          · rw [b_ne z]
        · rw [spb b ((k2 b).mp hb).1]; exact k5 b hb hk
    · rw [eh] at hb
      unfold updG at hd2
      by_cases z : pg 5 b = pg 5 a
      · rw [if_pos z] at hd2
        rcases List.mem_cons.mp hd2 with y | y
        · exfalso
          obtain ⟨w1, w2, w3, w4⟩ := held_wr hI hb
          rw [y, a3] at e
          have hm0 : ¬ md = 0 := fun q => by
            have := (hI.2.2.2.2.2.2.2.2.2 q).1
            rw [this, Nat.zero_testBit] at hb; exact Bool.false_ne_true hb
          have : s.2.2.2.2.2.2 &&& pg 8 t = 0 := Classical.byContradiction (fun q => hw ⟨by omega, q⟩)
          have h1 : (s.2.2.2.2.2.2 &&& pg 8 t).testBit b = true := by
            rw [Nat.testBit_and, hb, (hX.1.2.2.2.2.2.2.2.2.1 t b ht).mpr ⟨w3, e.symm⟩]; rfl
          rw [this, Nat.zero_testBit] at h1; exact Bool.false_ne_true h1
        · rw [← z] at y; exact g3 b d hb y e
      · rw [if_neg z] at hd2; exact g3 b d hb hd2 e
  · -- it doesn't
    have em : (cN pg nm md s a).2.2.2.2.2.1 = s.2.2.2.2.2.1 := by
      show mmP md (pg 4 a) s.2.2.2.2.2.1 (pg 5 a) a = _
      unfold mmP; rw [if_neg c]
    have hb2 : ∀ b, (cN pg nm md s a).2.2.2.2.2.2.testBit b = true → s.2.2.2.2.2.2.testBit b = true ∨ (b = a ∧ md ≠ 0 ∧ (pg 4 a = 1 ∨ pg 4 a = 2)) := fun b hb => by
      have hb1 : (hdP md (pg 4 a) s.2.2.2.2.2.2 a).testBit b = true := hb
      unfold hdP at hb1
      by_cases q : md ≠ 0 ∧ (pg 4 a = 1 ∨ pg 4 a = 2)
      · rw [if_pos q] at hb1
        by_cases z : b = a
        · exact Or.inr ⟨z, q⟩
        · rw [b_ne z] at hb1; exact Or.inl hb1
      · rw [if_neg q] at hb1; exact Or.inl hb1
    have hb3 : ∀ b, b ≠ a → (cN pg nm md s a).2.2.2.2.2.2.testBit b = s.2.2.2.2.2.2.testBit b := fun b hb => by
      show (hdP md (pg 4 a) s.2.2.2.2.2.2 a).testBit b = _
      unfold hdP
      by_cases q : md ≠ 0 ∧ (pg 4 a = 1 ∨ pg 4 a = 2)
      · rw [if_pos q, b_ne hb]
      · rw [if_neg q]
    refine ⟨G, fun x h3 => ?_, nt, fun b d hb hd2 e => ?_⟩
    · obtain ⟨k1, k2, k3, k4, k5⟩ := g1 x h3
      rw [em, hdone]
      refine ⟨k1, fun b => ?_, k3, k4, fun b hb hk => ?_⟩
      · by_cases z : b = a
        · rw [z]
          refine ⟨fun q => absurd q (hna x h3), fun q => ?_⟩
          exfalso
          have h1 : (hdP md (pg 4 a) s.2.2.2.2.2.2 a).testBit a = false := q.2.2.2.2
          unfold hdP at h1
          by_cases y : md ≠ 0 ∧ (pg 4 a = 1 ∨ pg 4 a = 2)
          · rw [if_pos y, b_eq] at h1; exact Bool.false_ne_true h1.symm
          · have := q.2.1; have := q.2.2.1; omega
        · rw [b_ne z, hb3 b z]; exact k2 b
      · rw [spb b ((k2 b).mp hb).1]; exact k5 b hb hk
    · rcases hb2 b hb with h | ⟨z, h0, h12⟩
      · exact g3 b d h hd2 e
      · rw [z] at hd2 e ⊢
        have hx : pg 5 a < 3 := b4 (by omega)
        exact a6 d (((g1 _ hx).2.1 d).mp hd2).1 (by rw [e, a3])
theorem GO_L (hX : PX T Ac pg nm zs kd vx rr vv) (hI : IvC md T Ac pg nm s) (hG : GO pg s G) {w : Nat} (h0 : w ≠ 0) (h7 : w < 128) (hw : ∀ b, w.testBit b = true → s.2.2.2.2.2.2.testBit b = true) (hl : ∀ b, s.2.2.2.2.2.2.testBit b = true → pg 2 b = pg 2 (lo9 w) → pg 5 b = pg 5 (lo9 w) → w.testBit b = true) :
    ∃ G2, GO pg (cL pg s w) G2 := by
  obtain ⟨l1, l2, l3⟩ := lo9_min w h7 h0
  have hh := hw _ l2
  obtain ⟨w1, w2, w3, w4⟩ := held_wr hI hh
  have hx : pg 5 (lo9 w) < 3 := (hX.1.2.2.2.2.1 _ w3).2.2.2.1 (by omega)
  have hm := hI.2.2.1
  have h3 := hI.2.2.2.1
  obtain ⟨g1, g2, g3⟩ := hG
  have hclr : ∀ b, (cL pg s w).2.2.2.2.2.2.testBit b = (s.2.2.2.2.2.2.testBit b && !decide (b = lo9 w)) := fun b => by
    show (clr s.2.2.2.2.2.2 (lo9 w)).testBit b = _
    by_cases c : b < 7
    · rw [clr_bit _ h3 _ l1 b c]
      by_cases e : b = lo9 w
      · rw [e]; simp
      · rw [decide_eq_false e, show (lo9 w == b) = false from by simpa using fun q => e q.symm]
    · have q1 : (clr s.2.2.2.2.2.2 (lo9 w)).testBit b = false := by
        cases q : (clr s.2.2.2.2.2.2 (lo9 w)).testBit b with
        | false => rfl
        | true => exact absurd (bit_hi (clr_lt h3) q) c
      have q2 : s.2.2.2.2.2.2.testBit b = false := by
        cases q : s.2.2.2.2.2.2.testBit b with
        | false => rfl
        | true => exact absurd (bit_hi h3 q) c
      rw [q1, q2]; rfl
  refine ⟨updG G (pg 5 (lo9 w)) (lo9 w :: G (pg 5 (lo9 w))), fun x hx3 => ?_, g2, fun b d hb hd2 e => ?_⟩
  · obtain ⟨k1, k2, k3, k4, k5⟩ := g1 x hx3
    have e1 : srcM (cL pg s w).2.2.2.2.2.1 x = if x = pg 5 (lo9 w) then lo9 w + 1 else srcM s.2.2.2.2.2.1 x := srcM_put _ hm _ hx _ l1 x hx3
    rw [e1]
    unfold updG
    have hna : lo9 w ∉ G x := fun h => by
      have := ((k2 _).mp h).2.2.2.2
      rw [hh] at this; exact Bool.false_ne_true this.symm
    by_cases e : x = pg 5 (lo9 w)
    · rw [if_pos e, if_pos e, ← e]
      refine ⟨List.nodup_cons.mpr ⟨hna, k1⟩, fun b => ?_, rfl, List.pairwise_cons.mpr ⟨fun b hb q => g3 (lo9 w) b hh (by rw [← e]; exact hb) q.symm, k4⟩, fun b hb hk => ?_⟩
      · rw [List.mem_cons, k2 b, hclr b]
        by_cases z : b = lo9 w
        · rw [z, decide_eq_true rfl]
          exact ⟨fun _ => ⟨w2, by omega, by omega, e.symm, by simp⟩, fun _ => Or.inl rfl⟩
        · rw [decide_eq_false z]
          refine ⟨fun q => ?_, fun q => Or.inr ?_⟩
          · have q := q.resolve_left z; exact ⟨q.1, q.2.1, q.2.2.1, q.2.2.2.1, by rw [q.2.2.2.2]; rfl⟩
          · exact ⟨q.1, q.2.1, q.2.2.1, q.2.2.2.1, by have := q.2.2.2.2; simpa using this⟩
      · rcases List.mem_cons.mp hb with z | z
        · rw [z] at hk; omega
        · rw [nxL_ne (fun q => hna (by rw [q]; exact z))]; exact k5 b z hk
    · rw [if_neg e, if_neg e]
      refine ⟨k1, fun b => ?_, k3, k4, k5⟩
      rw [k2 b, hclr b]
      by_cases z : b = lo9 w
      · rw [z]; exact ⟨fun q => absurd q.2.2.2.1.symm e, fun q => absurd q.2.2.2.1.symm e⟩
      · rw [decide_eq_false z, Bool.not_false, Bool.and_true]; exact Iff.rfl
  · rw [hclr b, Bool.and_eq_true] at hb
    have hbn : b ≠ lo9 w := fun q => by rw [q, decide_eq_true rfl] at hb; exact absurd hb.2 (by decide)
    unfold updG at hd2
    by_cases z : pg 5 b = pg 5 (lo9 w)
    · rw [if_pos z] at hd2
      rcases List.mem_cons.mp hd2 with y | y
      · rw [y] at e ⊢
        have := hl b hb.1 e.symm z
        rcases Nat.lt_or_ge b (lo9 w) with q | q
        · rw [l3 b q] at this; exact absurd this Bool.false_ne_true
        · omega
      · rw [← z] at y; exact g3 b d hb.1 y e
    · rw [if_neg z] at hd2; exact g3 b d hb.1 hd2 e
end GOS
