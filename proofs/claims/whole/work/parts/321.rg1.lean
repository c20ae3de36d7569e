def sbB (S L : Nat) : Prop := ∀ b, S.testBit b = true → L.testBit b = true
theorem and_0 {x P : Nat} : x &&& P = 0 ↔ ∀ b, x.testBit b = true → P.testBit b = true → False := by
  constructor
  · intro h b h1 h2
    have : (x &&& P).testBit b = true := by rw [Nat.testBit_and, h1, h2]; rfl
    rw [h, Nat.zero_testBit] at this; exact absurd this (by decide)
  · intro h
    refine Nat.eq_of_testBit_eq fun b => ?_
    rw [Nat.testBit_and, Nat.zero_testBit]
    cases h1 : x.testBit b with
    | false => rfl
    | true =>
      cases h2 : P.testBit b with
      | false => rfl
      | true => exact absurd (h b h1 h2) (fun q => q)
theorem and_sb {x S P : Nat} (h : sbB S P) (hx : ¬ x &&& S = 0) : ¬ x &&& P = 0 := fun q => hx (and_0.mpr fun b h1 h2 => and_0.mp q b h1 (h b h2))
theorem plI_keep {f h : Nat → Nat} {S : Nat} (hS7 : S < 128) (hS : ∀ a, S.testBit a = true → ¬ (f a ||| h a) &&& S = 0) {L : Nat} (hL : L < 128) (hs : sbB S L) : ∀ n, n ≤ 7 → sbB S (plI f h n L)
  | 0, _ => hs
  | i + 1, hi => by
    have ih := plI_keep hS7 hS hL hs i (by omega)
    have hP := plI_lt (f := f) (h := h) hL i
    rw [plI]
    by_cases c : (f i ||| h i) &&& plI f h i L = 0
    · rw [if_pos c]
      intro b hb
      have b7 := bit_hi hS7 hb
      rw [clr_bit _ hP i (by omega) b b7, ih b hb, Bool.true_and]
      by_cases e : i = b
      · subst e; exact absurd c (and_sb ih (hS i hb))
      · simpa using e
    · rw [if_neg c]; exact ih
theorem plI_sub {f h : Nat → Nat} {L : Nat} (hL : L < 128) : ∀ n, n ≤ 7 → sbB (plI f h n L) L
  | 0, _ => fun _ q => q
  | i + 1, hi => by
    have ih := plI_sub (f := f) (h := h) hL i (by omega)
    have hP := plI_lt (f := f) (h := h) hL i
    rw [plI]; split
    · intro b hb
      have b7 := bit_hi (clr_lt hP) hb
      rw [clr_bit _ hP i (by omega) b b7, Bool.and_eq_true] at hb
      exact ih b hb.1
    · exact ih
theorem sb_anti {S L : Nat} (h1 : sbB S L) (h2 : sbB L S) : S = L := Nat.eq_of_testBit_eq fun b => by
  cases h : S.testBit b with
  | true => exact (h1 b h).symm
  | false =>
    cases h' : L.testBit b with
    | true => rw [h2 b h'] at h; exact absurd h (by decide)
    | false => rfl
theorem pop_sb : ∀ S, S < 128 → ∀ L, L < 128 → S &&& L = S → S ≠ L → pop7 S < pop7 L := by decide +kernel
theorem sb_and {S L : Nat} (h : sbB S L) : S &&& L = S := Nat.eq_of_testBit_eq fun b => by
  rw [Nat.testBit_and]
  cases q : S.testBit b with
  | true => rw [h b q]; rfl
  | false => rfl
/-- a pass that takes nothing away: all have one before them -/
theorem plI_fix {f h : Nat → Nat} {L : Nat} (hL : L < 128) (n : Nat) (hn : n ≤ 7) (he : plI f h n L = L) : ∀ a, a < n → L.testBit a = true → ¬ (f a ||| h a) &&& L = 0 := by
  induction n with
  | zero => intro a ha; exact absurd ha (Nat.not_lt_zero a)
  | succ i ih =>
    have hP := plI_lt (f := f) (h := h) hL i
    have hs := plI_sub (f := f) (h := h) hL i (by omega)
    rw [plI] at he
    by_cases c : (f i ||| h i) &&& plI f h i L = 0
    · rw [if_pos c] at he
      have e1 : plI f h i L = L := sb_anti hs (fun b hb => by
        rw [← he] at hb
        have b7 := bit_hi (clr_lt hP) hb
        rw [clr_bit _ hP i (by omega) b b7, Bool.and_eq_true] at hb
        exact hb.1)
      intro a ha hb
      by_cases e : a = i
      · subst e
        have b7 := bit_hi hL hb
        rw [← he, clr_bit _ hP a b7 a b7] at hb
        simp at hb
      · exact ih (by omega) e1 a (by omega) hb
    · rw [if_neg c] at he
      intro a ha hb
      by_cases e : a = i
      · subst e; rw [he] at c; exact c
      · exact ih (by omega) he a (by omega) hb
theorem pop_0 : ∀ S, S < 128 → pop7 S = 0 → S = 0 := by decide +kernel
/-- something is left just when a set of them is such that each has one of it before it -/
theorem itR_iff {f h : Nat → Nat} {Ac am : Nat} (hA : Ac ≤ 7) (hm : am < 128) (hb : ∀ a, am.testBit a = true → a < Ac) :
    ¬ itR f h Ac 7 am = 0 ↔ ∃ S, ¬ S = 0 ∧ S < 128 ∧ sbB S am ∧ ∀ a, S.testBit a = true → ¬ (f a ||| h a) &&& S = 0 := by
  have sub : ∀ n, sbB (itR f h Ac n am) am := fun n => by
    induction n with
    | zero => exact fun _ q => q
    | succ n ih => exact fun b q => ih b (plI_sub (itR_lt hm n) Ac hA b q)
  constructor
  · intro hne
    have key : ∀ n, (∃ k, k < n ∧ itR f h Ac (k + 1) am = itR f h Ac k am) ∨ pop7 (itR f h Ac n am) + n ≤ 7 := fun n => by
      induction n with
      | zero => exact Or.inr (pop7_le _ hm)
      | succ n ih =>
        rcases ih with ⟨k, hk, e⟩ | q
        · exact Or.inl ⟨k, by omega, e⟩
        · by_cases e : itR f h Ac (n + 1) am = itR f h Ac n am
          · exact Or.inl ⟨n, Nat.lt_succ_self n, e⟩
          · have := pop_sb _ (itR_lt hm (n + 1)) _ (itR_lt hm n) (sb_and (plI_sub (itR_lt hm n) Ac hA)) e
            exact Or.inr (by omega)
    rcases key 7 with ⟨k, hk, e⟩ | q
    · have st : ∀ j, itR f h Ac (k + j) am = itR f h Ac k am := fun j => by
        induction j with
        | zero => rfl
        | succ j ih =>
          show plI f h Ac (itR f h Ac (k + j) am) = _
          rw [ih]; exact e
      have e7 := st (7 - k)
      rw [show k + (7 - k) = 7 from by omega] at e7
      refine ⟨itR f h Ac k am, by rw [← e7]; exact hne, itR_lt hm k, sub k, fun a ha => plI_fix (itR_lt hm k) Ac hA e a (hb a (sub k a ha)) ha⟩
    · exact absurd (pop_0 _ (itR_lt hm 7) (by omega)) hne
  · rintro ⟨S, s1, s2, s3, s4⟩ e
    have keep : ∀ n, sbB S (itR f h Ac n am) := fun n => by
      induction n with
      | zero => exact s3
      | succ n ih => exact plI_keep s2 s4 (itR_lt hm n) ih Ac hA
    refine s1 (Nat.eq_of_testBit_eq fun b => ?_)
    rw [Nat.zero_testBit]
    cases q : S.testBit b with
    | false => rfl
    | true => have := keep 7 b q; rw [e, Nat.zero_testBit] at this; exact absurd this (by decide)
