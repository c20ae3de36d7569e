/-- a thread more, the same program on both sides -/
theorem PX_T {T Ac : Nat} {pg : Nat → Nat → Nat} {nm : Nat → Int32} {zs kd vx rr : Nat → Nat} {vv : Nat → Int32} (h : PX T Ac pg nm zs kd vx rr vv) (hT : T < 4) (h0 : pg 0 T = 0) (h8 : pg 8 T = 0) : PX (T + 1) Ac pg nm (updN zs T 0) kd vx rr vv := by
  obtain ⟨⟨g1, g2, g3, g4, g5, g6, g7, g8, g9, g10, g11⟩, ⟨p1, p2, p3, p4⟩, x1, x2, x3, x4⟩ := h
  have lt : ∀ t, t < T + 1 → t ≠ T → t < T := fun t h1 h2 => by omega
  refine ⟨⟨by omega, g2, fun t ht => ?_, fun t q ht hq => ?_, fun a ha => ?_, g6, g7, g8, fun t a ht => ?_, g10, g11⟩, ⟨by omega, fun t ht => ?_, ?_, p4⟩, fun t ht => ?_, fun t q ht hq => ?_, fun t q q' ht h1 h2 => ?_, x4⟩
  · by_cases e : t = T
    · rw [e, h0]; exact Nat.zero_le _
    · exact g3 t (lt t ht e)
  · by_cases e : t = T
    · rw [e, h0] at hq; exact absurd hq (Nat.not_lt_zero q)
    · exact g4 t q (lt t ht e) hq
  · have := g5 a ha; exact ⟨by omega, this.2⟩
  · by_cases e : t = T
    · rw [e, h8]
      constructor
      · intro q; rw [Nat.zero_testBit] at q; exact absurd q Bool.false_ne_true
      · rintro ⟨a1, a2⟩; have := (g5 a a1).1; omega
    · exact g9 t a (lt t ht e)
  · by_cases e : t = T
    · rw [e, updN_s]; exact Nat.zero_le _
    · rw [updN_n e]; exact p2 t (lt t ht e)
  · show smN (updN zs T 0) T + updN zs T 0 T ≤ 7
    rw [updN_s, smN_cg T (fun i hi => updN_n (by omega))]; exact p3
  · by_cases e : t = T
    · rw [e, updN_s, h0]
    · rw [updN_n e]; exact x1 t (lt t ht e)
  · by_cases e : t = T
    · rw [e, h0] at hq; exact absurd hq (Nat.not_lt_zero q)
    · exact x2 t q (lt t ht e) hq
  · by_cases e : t = T
    · rw [e, h0] at h2; exact absurd h2 (Nat.not_lt_zero q')
    · exact x3 t q q' (lt t ht e) h1 h2
theorem PX_C {T Ac : Nat} {pg : Nat → Nat → Nat} {nm : Nat → Int32} {zs kd vx rr : Nat → Nat} {vv : Nat → Int32} (h : PX T Ac pg nm zs kd vx rr vv) : PX 0 0 (clP9 pg) nm zs kd vx rr vv := by
  obtain ⟨⟨g1, g2, g3, g4, g5, g6, g7, g8, g9, g10, g11⟩, ⟨p1, p2, p3, p4⟩, x1, x2, x3, x4⟩ := h
  have c8 : clP9 pg 8 = fun _ => 0 := if_pos (by decide)
  have c9 : clP9 pg 9 = fun _ => 0 := if_pos (by decide)
  have c10 : clP9 pg 10 = fun _ => 0 := if_pos (by decide)
  refine ⟨⟨by omega, by omega, fun t ht => absurd ht (Nat.not_lt_zero t), fun t q ht => absurd ht (Nat.not_lt_zero t), fun a ha => absurd ha (Nat.not_lt_zero a), fun i => by rw [c8]; exact Nat.zero_lt_succ _, fun i => by rw [c9]; exact Nat.zero_lt_succ _, fun i => by rw [c10]; exact Nat.zero_lt_succ _, fun t a ht => absurd ht (Nat.not_lt_zero t), fun k a _ => ?_, fun x a _ => ?_⟩, ⟨by omega, fun t ht => absurd ht (Nat.not_lt_zero t), by show 0 ≤ 7; omega, p4⟩, fun t ht => absurd ht (Nat.not_lt_zero t), fun t q ht => absurd ht (Nat.not_lt_zero t), fun t q q' ht => absurd ht (Nat.not_lt_zero t), fun a ha => absurd ha (Nat.not_lt_zero a)⟩
  · rw [c9]
    constructor
    · intro q; rw [Nat.zero_testBit] at q; exact absurd q Bool.false_ne_true
    · rintro ⟨q, -⟩; exact absurd q (Nat.not_lt_zero a)
  · rw [c10]
    constructor
    · intro q; rw [Nat.zero_testBit] at q; exact absurd q Bool.false_ne_true
    · rintro ⟨q, -⟩; exact absurd q (Nat.not_lt_zero a)
theorem or_bit9 {m A a : Nat} : (m ||| 2 ^ A).testBit a = true ↔ m.testBit a = true ∨ a = A := by
  rw [Nat.testBit_or, Nat.testBit_two_pow, Bool.or_eq_true, decide_eq_true_eq]
  constructor
  · rintro (h | h)
    · exact Or.inl h
    · exact Or.inr h.symm
  · rintro (h | h)
    · exact Or.inl h
    · exact Or.inr h.symm
theorem or_lt9 {m A : Nat} (hm : m < 128) (hA : A < 7) : m ||| 2 ^ A < 128 := by
  have : 2 ^ A < 2 ^ 7 := Nat.pow_lt_pow_right (by decide) hA
  exact Nat.or_lt_two_pow (n := 7) hm this
/-- an action more -/
theorem PX_A {T Ac : Nat} {pg : Nat → Nat → Nat} {nm : Nat → Int32} {zs kd vx rr : Nat → Nat} {vv : Nat → Int32} {t k x rn : Nat} {v : Int32} (h : PX T Ac pg nm zs kd vx rr vv) (hA : Ac < 7) (hs : smN zs T = Ac) (ht : t < T) (hk : k < 6) (hx : x < 4) (hkx : k < 4 → x < 3) (hr : rn < 2) (hv : wB v 9) :
    PX T (Ac + 1) (addA pg t Ac k x rn) (upd nm Ac v) (updN zs t (zs t + 1)) (updN kd (7 * t + zs t) k) (updN vx (7 * t + zs t) x) (updN rr (7 * t + zs t) rn) (upd vv (7 * t + zs t) v) := by
  obtain ⟨⟨g1, g2, g3, g4, g5, g6, g7, g8, g9, g10, g11⟩, ⟨p1, p2, p3, p4⟩, x1, x2, x3, x4⟩ := h
  have hz : zs t ≤ 6 := by have := smN_at (f := zs) T ht; omega
  have ez := x1 t ht
  have a0 : addA pg t Ac k x rn 0 = updN (pg 0) t (pg 0 t + 1) := rfl
  have a1 : addA pg t Ac k x rn 1 = updN (pg 1) (t * 7 + pg 0 t) Ac := rfl
  have a2 : addA pg t Ac k x rn 2 = updN (pg 2) Ac t := rfl
  have a3 : addA pg t Ac k x rn 3 = updN (pg 3) Ac (pg 0 t) := rfl
  have a4 : addA pg t Ac k x rn 4 = updN (pg 4) Ac k := rfl
  have a5 : addA pg t Ac k x rn 5 = updN (pg 5) Ac x := rfl
  have a6 : addA pg t Ac k x rn 6 = updN (pg 6) Ac (t * 2 + rn) := rfl
  have a8 : addA pg t Ac k x rn 8 = updN (pg 8) t (pg 8 t ||| 2 ^ Ac) := rfl
  have a9 : addA pg t Ac k x rn 9 = updN (pg 9) k (pg 9 k ||| 2 ^ Ac) := rfl
  have a10 : addA pg t Ac k x rn 10 = if k < 4 then updN (pg 10) x (pg 10 x ||| 2 ^ Ac) else pg 10 := rfl
  -- old places
  have old : ∀ t' q, t' < T → q < updN (pg 0) t (pg 0 t + 1) t' → (t' = t ∧ q = pg 0 t) ∨ (q < pg 0 t' ∧ t' * 7 + q ≠ t * 7 + pg 0 t) := fun t' q h1 h2 => by
    by_cases e : t' = t
    · rw [e, updN_s] at h2
      by_cases e2 : q = pg 0 t
      · exact Or.inl ⟨e, e2⟩
      · exact Or.inr ⟨by rw [e]; omega, by rw [e]; omega⟩
    · rw [updN_n e] at h2
      have := g3 t' h1
      exact Or.inr ⟨h2, by omega⟩
  have ol2 : ∀ t' q, t' < T → q < pg 0 t' → t' * 7 + q ≠ t * 7 + pg 0 t := fun t' q h1 h2 => by
    have := g3 t' h1
    by_cases e : t' = t
    · rw [e] at h2 ⊢; omega
    · omega
  refine ⟨⟨g1, by omega, fun t' h1 => ?_, fun t' q h1 h2 => ?_, fun a ha => ?_, fun i => ?_, fun i => ?_, fun i => ?_, fun t' a h1 => ?_, fun k' a h1 => ?_, fun x' a h1 => ?_⟩, ⟨p1, fun t' h1 => ?_, ?_, fun i hi => ?_⟩, fun t' h1 => ?_, fun t' q h1 h2 => ?_, fun t' q q' h1 h2 h3 => ?_, fun a ha => ?_⟩
  · rw [a0]
    by_cases e : t' = t
    · rw [e, updN_s]; omega
    · rw [updN_n e]; exact g3 t' h1
  · rw [a0] at h2
    rw [a1, a2, a3]
    rcases old t' q h1 h2 with ⟨e1, e2⟩ | ⟨e1, e2⟩
    · rw [e1, e2, updN_s, updN_s, updN_s]; exact ⟨by omega, rfl, rfl⟩
    · rw [updN_n e2]
      obtain ⟨b1, b2, b3⟩ := g4 t' q h1 e1
      rw [updN_n (by omega), updN_n (by omega)]; exact ⟨by omega, b2, b3⟩
  · rw [a2, a3, a4, a5, a6]
    by_cases e : a = Ac
    · rw [e, updN_s, updN_s, updN_s, updN_s, updN_s]
      have := g1
      exact ⟨ht, by omega, hk, hkx, hx, by omega⟩
    · rw [updN_n e, updN_n e, updN_n e, updN_n e, updN_n e]; exact g5 a (by omega)
  · rw [a8]
    by_cases e : i = t
    · rw [e, updN_s]; exact or_lt9 (g6 t) hA
    · rw [updN_n e]; exact g6 i
  · rw [a9]
    by_cases e : i = k
    · rw [e, updN_s]; exact or_lt9 (g7 k) hA
    · rw [updN_n e]; exact g7 i
  · rw [a10]
    split
    · by_cases e : i = x
      · rw [e, updN_s]; exact or_lt9 (g8 x) hA
      · rw [updN_n e]; exact g8 i
    · exact g8 i
  · rw [a8, a2]
    by_cases e : t' = t
    · rw [e, updN_s, or_bit9, g9 t a ht]
      by_cases ea : a = Ac
      · rw [ea, updN_s]; exact ⟨fun _ => ⟨by omega, rfl⟩, fun _ => Or.inr rfl⟩
      · rw [updN_n ea]
        exact ⟨fun q => q.elim (fun ⟨w1, w2⟩ => ⟨by omega, w2⟩) (fun w => absurd w ea), fun ⟨w1, w2⟩ => Or.inl ⟨by omega, w2⟩⟩
    · rw [updN_n e, g9 t' a h1]
      by_cases ea : a = Ac
      · rw [ea, updN_s]; exact ⟨fun ⟨w, _⟩ => absurd w (Nat.lt_irrefl _), fun ⟨_, w⟩ => absurd w.symm e⟩
      · rw [updN_n ea]
        exact ⟨fun ⟨w1, w2⟩ => ⟨by omega, w2⟩, fun ⟨w1, w2⟩ => ⟨by omega, w2⟩⟩
  · rw [a9, a4]
    by_cases e : k' = k
    · rw [e, updN_s, or_bit9, g10 k a hk]
      by_cases ea : a = Ac
      · rw [ea, updN_s]; exact ⟨fun _ => ⟨by omega, rfl⟩, fun _ => Or.inr rfl⟩
      · rw [updN_n ea]
        exact ⟨fun q => q.elim (fun ⟨w1, w2⟩ => ⟨by omega, w2⟩) (fun w => absurd w ea), fun ⟨w1, w2⟩ => Or.inl ⟨by omega, w2⟩⟩
    · rw [updN_n e, g10 k' a h1]
      by_cases ea : a = Ac
      · rw [ea, updN_s]; exact ⟨fun ⟨w, _⟩ => absurd w (Nat.lt_irrefl _), fun ⟨_, w⟩ => absurd w.symm e⟩
      · rw [updN_n ea]
        exact ⟨fun ⟨w1, w2⟩ => ⟨by omega, w2⟩, fun ⟨w1, w2⟩ => ⟨by omega, w2⟩⟩
  · rw [a10, a4, a5]
    by_cases c : k < 4
    · rw [if_pos c]
      by_cases e : x' = x
      · rw [e, updN_s, or_bit9, g11 x a (hkx c)]
        by_cases ea : a = Ac
        · rw [ea, updN_s, updN_s]; exact ⟨fun _ => ⟨by omega, c, rfl⟩, fun _ => Or.inr rfl⟩
        · rw [updN_n ea, updN_n ea]
          exact ⟨fun q => q.elim (fun ⟨w1, w2⟩ => ⟨by omega, w2⟩) (fun w => absurd w ea), fun ⟨w1, w2⟩ => Or.inl ⟨by omega, w2⟩⟩
      · rw [updN_n e, g11 x' a h1]
        by_cases ea : a = Ac
        · rw [ea, updN_s, updN_s]; exact ⟨fun ⟨w, _⟩ => absurd w (Nat.lt_irrefl _), fun ⟨_, _, w⟩ => absurd w.symm e⟩
        · rw [updN_n ea, updN_n ea]
          exact ⟨fun ⟨w1, w2⟩ => ⟨by omega, w2⟩, fun ⟨w1, w2⟩ => ⟨by omega, w2⟩⟩
    · rw [if_neg c, g11 x' a h1]
      by_cases ea : a = Ac
      · rw [ea, updN_s, updN_s]; exact ⟨fun ⟨w, _⟩ => absurd w (Nat.lt_irrefl _), fun ⟨_, w, _⟩ => absurd w c⟩
      · rw [updN_n ea, updN_n ea]
        exact ⟨fun ⟨w1, w2⟩ => ⟨by omega, w2⟩, fun ⟨w1, w2⟩ => ⟨by omega, w2⟩⟩
  · by_cases e : t' = t
    · rw [e, updN_s]; omega
    · rw [updN_n e]; exact p2 t' h1
  · have := smN_1 (f := zs) (i := t) (v := zs t + 1) T ht; omega
  · obtain ⟨b1, b2, b3, b4, b5⟩ := p4 i hi
    by_cases e : i = 7 * t + zs t
    · rw [e, updN_s, updN_s, updN_s, pk_us]; exact ⟨hk, hx, hr, hv, hkx⟩
    · rw [updN_n e, updN_n e, updN_n e, pk_un e]; exact ⟨b1, b2, b3, b4, b5⟩
  · rw [a0]
    by_cases e : t' = t
    · rw [e, updN_s, updN_s, ez]
    · rw [updN_n e, updN_n e]; exact x1 t' h1
  · rw [a0] at h2
    rw [a1, a4, a5, a6]
    rcases old t' q h1 h2 with ⟨e1, e2⟩ | ⟨e1, e2⟩
    · rw [e1, e2, ez, updN_s, updN_s, updN_s, updN_s, updN_s, updN_s, updN_s, pk_us, pk_us]
      exact ⟨rfl, rfl, by omega, rfl⟩
    · have e3 : 7 * t' + q ≠ 7 * t + zs t := by rw [ez]; omega
      rw [updN_n e2, updN_n e3, updN_n e3, updN_n e3, pk_un e3]
      obtain ⟨b1, b2, b3⟩ := g4 t' q h1 e1
      have e4 : pg 1 (t' * 7 + q) ≠ Ac := by omega
      rw [updN_n e4, updN_n e4, updN_n e4, pk_un e4]
      exact x2 t' q h1 e1
  · rw [a0] at h3
    rw [a1]
    rcases old t' q' h1 h3 with ⟨e1, e2⟩ | ⟨e1, e2⟩
    · rw [e1, e2, updN_s, updN_n (by omega)]
      exact (g4 t q ht (by omega)).1
    · rw [updN_n e2, updN_n (ol2 t' q h1 (by omega))]
      exact x3 t' q q' h1 h2 e1
  · rw [a3, a0, a2, a1]
    by_cases e : a = Ac
    · rw [e, updN_s, updN_s, updN_s, updN_s]; exact ⟨by omega, rfl⟩
    · rw [updN_n e, updN_n e]
      obtain ⟨b1, b2⟩ := x4 a (by omega)
      have b3 := (g5 a (by omega)).1
      rw [updN_n (ol2 _ _ b3 b1)]
      refine ⟨?_, b2⟩
      by_cases e2 : pg 2 a = t
      · rw [e2, updN_s]; rw [e2] at b1; omega
      · rw [updN_n e2]; exact b1
/-- the list of the takers of any program -/
theorem li_ex9 {T : Nat} {zs kd : Nat → Nat} (hT : T ≤ 4) : ∃ ld li, liO T ld zs kd li := by
  let l := (List.range 28).filter (fun a => decide ((a / 7 < T ∧ a % 7 < zs (a / 7)) ∧ (kd a = 0 ∨ kd a = 3)))
  have hn : l.Nodup := List.Pairwise.filter _ List.nodup_range
  have hg : ∀ q (h : q < l.length), l.getD q 0 = l[q] := fun q h => by rw [List.getD_eq_getElem?_getD, List.getElem?_eq_getElem h]; rfl
  refine ⟨l.length, fun q => l.getD q 0, fun q hq => ?_, fun q r hq hr e => ?_, fun a h1 h2 h3 => ?_⟩
  · dsimp only
    rw [hg q hq]
    have := (List.mem_filter.mp (List.getElem_mem hq)).2
    exact of_decide_eq_true this
  · dsimp only at e
    rw [hg q hq, hg r hr] at e
    exact (List.getElem_inj hn).mp e
  · have ha : a ∈ l := List.mem_filter.mpr ⟨List.mem_range.mpr (by omega), decide_eq_true ⟨⟨h1, h2⟩, h3⟩⟩
    obtain ⟨q, hq, e⟩ := List.getElem_of_mem ha
    exact ⟨q, hq, (hg q hq).trans e⟩
