theorem wrb_bit {dn q : Nat} (h : wrb dn q = true) : q = 0 ∨ dn.testBit (q - 1) = true := by
  unfold wrb at h; rw [Bool.or_eq_true] at h
  rcases h with h | h
  · left; simpa using h
  · right; rw [← bit_tb]; simpa using h
theorem mbf_kind {T Ac : Nat} {pg : Nat → Nat → Nat} {fm tk oo : Nat → Nat} {dn a q : Nat} (hPg : PgOk T Ac pg) (hx : pg 5 a < 3) (hq : q ≤ Ac) (h : mbf pg fm tk oo dn a q = true) : q = 0 ∨ (1 ≤ pg 4 (q - 1) ∧ pg 4 (q - 1) ≤ 3) := by
  obtain ⟨p1, p2, p3, p4, p5, p6, p7, p8, p9, p10, p11⟩ := hPg
  by_cases h0 : q = 0
  · exact Or.inl h0
  · right
    unfold mbf at h
    by_cases c : q ≠ 0 ∧ (q - 1 = a ∨ wtr pg (pg 5 a) / 2 ^ (q - 1) % 2 = 0)
    · rw [if_pos c] at h; exact absurd h (by decide)
    · have hb : wtr pg (pg 5 a) / 2 ^ (q - 1) % 2 = 1 := by
        have := Nat.mod_lt (wtr pg (pg 5 a) / 2 ^ (q - 1)) (by decide : 0 < 2)
        have h2 : ¬ wtr pg (pg 5 a) / 2 ^ (q - 1) % 2 = 0 := fun e => c ⟨h0, Or.inr e⟩
        omega
      rw [bit_tb] at hb
      unfold wtr at hb
      rw [andn_bit _ (p8 _) _ (p7 _) (q - 1) (by omega), Bool.and_eq_true] at hb
      obtain ⟨e1, e2, e3⟩ := (p11 (pg 5 a) (q - 1) hx).mp hb.1
      have hn0 : ¬ pg 4 (q - 1) = 0 := fun e => by
        have := (p10 0 (q - 1) (by decide)).mpr ⟨e1, e⟩
        rw [this] at hb; exact absurd hb.2 (by decide)
      omega
theorem wr_of2 {pg : Nat → Nat → Nat} {dn q : Nat} (hq : q < 8) (h1 : wrb dn q = true) (h2 : q = 0 ∨ (1 ≤ pg 4 (q - 1) ∧ pg 4 (q - 1) ≤ 3)) : wr pg dn q := by
  rcases h2 with h | h
  · exact Or.inl h
  · rcases wrb_bit h1 with h3 | h3
    · exact Or.inl h3
    · exact Or.inr ⟨hq, h3, h.1, h.2⟩
theorem tkS_lt {pg : Nat → Nat → Nat} {tk : Nat → Nat} {a q : Nat} (h : ∀ x, tk x < 256) (hq : q < 8) : ∀ x, tkS pg tk a q x < 256 := fun x => by
  unfold tkS; split
  · unfold updN; split
    · exact Nat.or_lt_two_pow (n := 8) (h _) (Nat.pow_lt_pow_right (by decide) hq)
    · exact h x
  · exact h x
theorem tkS_bk {pg : Nat → Nat → Nat} {tk : Nat → Nat} {a q : Nat} : updN (tkS pg tk a q) (pg 5 a) (tk (pg 5 a)) = tk := by
  unfold tkS; split
  · exact updN_bk rfl
  · exact updN_id
theorem g_wait {T Ac : Nat} {pg : Nat → Nat → Nat} {dn : Nat} {so : Int64} {pl fm wm tk tk2 : Nat → Nat} {a t q : Nat} (hPg : PgOk T Ac pg) (hG : GOk T Ac pg dn so pl fm wm tk) (ht : t < T) (hq : pl t < pg 0 t) (ha : a = pg 1 (t * 7 + pl t)) (hkt : pg 4 a = 0 ∨ pg 4 a = 3) (hqA : q ≤ Ac) (hk : q = 0 ∨ (1 ≤ pg 4 (q - 1) ∧ pg 4 (q - 1) ≤ 3)) (htk : ∀ x, tk2 x < 256) :
    GOk T Ac pg dn so pl (updN fm a (q + 1)) (updN wm t (q + 1)) tk2 := by
  obtain ⟨a7, aA, a2, a3, ab⟩ := g_next hPg hG ht hq ha
  obtain ⟨s1, s2, s3, s4, s5, s6, s7, s8, s10, s11⟩ := hG
  obtain ⟨p1, p2, p3, p4, p5, p6, p7, p8, p9, p10, p11⟩ := hPg
  refine ⟨s1, s2, s3, s4, ?_, ?_, ?_, htk, ?_, ?_⟩
  · intro i; unfold updN; split
    · omega
    · exact s5 i
  · intro t' ht'; unfold updN; split
    · omega
    · exact s6 t' ht'
  · intro t' ht' h0
    by_cases e : t' = t
    · rw [e, updN_s] at h0 ⊢
      rw [Nat.add_sub_cancel]
      rcases hk with h | h
      · left; omega
      · right; exact h
    · rw [updN_n e] at h0 ⊢; exact s7 t' ht' h0
  · intro t' q' ht' hpl hq' hwq
    obtain ⟨c1, c2, c3⟩ := p4 t' q' ht' hq'
    by_cases e : t' = t
    · subst e
      by_cases e2 : q' = pl t'
      · have := hwq e2; rw [updN_s] at this; omega
      · have hne : pg 1 (t' * 7 + q') ≠ a := fun h => by rw [h, a3] at c3; exact e2 c3.symm
        rw [updN_n hne]
        exact s10 t' q' ht' hpl hq' (fun h => absurd h e2)
    · have hne : pg 1 (t' * 7 + q') ≠ a := fun h => by rw [h, a2] at c2; exact e c2.symm
      rw [updN_n hne]
      exact s10 t' q' ht' hpl hq' (fun h => by have := hwq h; rw [updN_n e] at this; exact this)
  · intro t' ht' h0
    by_cases e : t' = t
    · rw [e]; rw [← ha]; exact ⟨hq, hkt⟩
    · rw [updN_n e] at h0; exact s11 t' ht' h0
