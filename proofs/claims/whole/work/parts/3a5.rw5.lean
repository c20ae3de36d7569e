theorem aft_09 : ∀ d, d < 128 → ∀ a, a < 7 → ∀ r, r < 7 → (d - d % 2 ^ (a + 1)).testBit r = (d.testBit r && decide (a < r)) := by decide +kernel
theorem own_09 : ∀ d, d < 128 → ∀ a, a < 7 → ∀ r, r < 7 → (d % 2 ^ a).testBit r = (d.testBit r && decide (r < a)) := by decide +kernel
section OW5
variable {T Ac : Nat} {pg : Nat → Nat → Nat}
theorem aft_9 (hPg : PgOk T Ac pg) {a r : Nat} (ha : a < Ac) : (aft pg a).testBit r = true ↔ r < Ac ∧ pg 2 r = pg 2 a ∧ a < r := by
  have h8 := hPg.2.2.2.2.2.1 (pg 2 a)
  have ht := (hPg.2.2.2.2.1 a ha).1
  have hA := hPg.2.1
  have hl : aft pg a < 128 := aft_lt hPg.2.2.2.2.2.1 a
  have h9 := hPg.2.2.2.2.2.2.2.2.1 (pg 2 a) r ht
  constructor
  · intro h
    have r7 := bit_hi hl h
    unfold aft at h
    rw [aft_09 _ h8 a (by omega) r r7, Bool.and_eq_true, decide_eq_true_iff] at h
    exact ⟨(h9.mp h.1).1, (h9.mp h.1).2, h.2⟩
  · rintro ⟨h1, h2, h3⟩
    unfold aft
    rw [aft_09 _ h8 a (by omega) r (by omega), h9.mpr ⟨h1, h2⟩, decide_eq_true h3]; rfl
theorem own_9 (hPg : PgOk T Ac pg) {a r : Nat} (ha : a < Ac) : (ownT pg a).testBit r = true ↔ r < Ac ∧ pg 2 r = pg 2 a ∧ r < a := by
  have h8 := hPg.2.2.2.2.2.1 (pg 2 a)
  have ht := (hPg.2.2.2.2.1 a ha).1
  have hA := hPg.2.1
  have hl : ownT pg a < 128 := Nat.lt_of_le_of_lt (Nat.mod_le _ _) h8
  have h9 := hPg.2.2.2.2.2.2.2.2.1 (pg 2 a) r ht
  constructor
  · intro h
    have r7 := bit_hi hl h
    unfold ownT at h
    rw [own_09 _ h8 a (by omega) r r7, Bool.and_eq_true, decide_eq_true_iff] at h
    exact ⟨(h9.mp h.1).1, (h9.mp h.1).2, h.2⟩
  · rintro ⟨h1, h2, h3⟩
    unfold ownT
    rw [own_09 _ h8 a (by omega) r (by omega), h9.mpr ⟨h1, h2⟩, decide_eq_true h3]; rfl
theorem ono_9 (hPg : PgOk T Ac pg) {a r : Nat} (ha : a < Ac) : (onoT pg a).testBit r = true ↔ (r < Ac ∧ pg 2 r = pg 2 a ∧ r < a) ∧ pg 4 a < 4 ∧ pg 4 r < 4 ∧ pg 5 r = pg 5 a := by
  unfold onoT
  by_cases k : pg 4 a < 4
  · rw [if_pos k, Nat.testBit_and, Bool.and_eq_true, own_9 hPg ha, hPg.2.2.2.2.2.2.2.2.2.2 _ r ((hPg.2.2.2.2.1 a ha).2.2.2.1 k)]
    exact ⟨fun h => ⟨h.1, k, h.2.2⟩, fun h => ⟨h.1, h.1.1, h.2.2⟩⟩
  · rw [if_neg k, Nat.zero_testBit]
    exact ⟨fun h => absurd h Bool.false_ne_true, fun h => absurd h.2.1 k⟩
theorem okp_9 (hPg : PgOk T Ac pg) {md a r : Nat} (ha : a < Ac) (hm : md = 1 ∨ md = 2) : (okpT pg md a).testBit r = true ↔ (r < Ac ∧ pg 2 r = pg 2 a ∧ r < a) ∧ (¬ (pg 4 r = 1 ∨ pg 4 r = 2) ∨ (¬ pg 4 a = 0 ∧ (md = 1 ∨ ¬ (pg 4 a = 1 ∨ pg 4 a = 2) ∨ pg 5 r = pg 5 a))) := by
  have h9 := hPg.2.2.2.2.2.2.1
  have o7 : pg 9 1 ||| pg 9 2 < 128 := or7 (h9 1) (h9 2)
  have ho : ownT pg a < 128 := Nat.lt_of_le_of_lt (Nat.mod_le _ _) (hPg.2.2.2.2.2.1 _)
  have hl : lftT pg md a < 128 := by
    unfold lftT; split
    · exact o7
    · split
      · exact andn_lt o7
      · decide
  have wk : r < Ac → ((pg 9 1 ||| pg 9 2).testBit r = true ↔ pg 4 r = 1 ∨ pg 4 r = 2) := fun hr => by
    rw [Nat.testBit_or, Bool.or_eq_true, hPg.2.2.2.2.2.2.2.2.2.1 1 r (by decide), hPg.2.2.2.2.2.2.2.2.2.1 2 r (by decide)]
    exact ⟨fun h => h.imp And.right And.right, fun h => h.imp (fun q => ⟨hr, q⟩) (fun q => ⟨hr, q⟩)⟩
  unfold okpT
  rw [andn_b ho hl, Bool.and_eq_true, own_9 hPg ha]
  refine and_congr_right (fun hr => ?_)
  have wk := wk hr.1
  have nb : ∀ b : Bool, (!b) = true ↔ ¬ b = true := fun b => by cases b <;> decide
  rw [nb]
  unfold lftT
  by_cases k0 : pg 4 a = 0
  · rw [if_pos k0, wk]
    exact ⟨fun h => Or.inl h, fun h => h.elim id (fun h => absurd k0 h.1)⟩
  · rw [if_neg k0]
    by_cases k2 : md = 2 ∧ (pg 4 a = 1 ∨ pg 4 a = 2)
    · rw [if_pos k2, andn_b o7 (hPg.2.2.2.2.2.2.2.1 _), Bool.and_eq_true, wk, nb, hPg.2.2.2.2.2.2.2.2.2.2 _ r ((hPg.2.2.2.2.1 a ha).2.2.2.1 (by omega))]
      constructor
      · intro h
        by_cases w : pg 4 r = 1 ∨ pg 4 r = 2
        · refine Or.inr ⟨k0, Or.inr (Or.inr (Classical.byContradiction fun v => h ⟨w, fun z => v z.2.2⟩))⟩
        · exact Or.inl w
      · rintro (h | ⟨-, h | h | h⟩) ⟨w1, w2⟩
        · exact h w1
        · omega
        · exact h k2.2
        · exact w2 ⟨hr.1, by omega, h⟩
    · rw [if_neg k2, Nat.zero_testBit]
      refine ⟨fun _ => Or.inr ⟨k0, ?_⟩, fun _ => Bool.false_ne_true⟩
      rcases hm with w | w
      · exact Or.inl w
      · exact Or.inr (Or.inl (fun z => k2 ⟨w, z⟩))
end OW5
