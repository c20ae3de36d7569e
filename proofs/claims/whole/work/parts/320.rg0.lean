/-- a way of n steps more than one from a to b over nodes below N -/
def pth (f : Nat → Nat) (N : Nat) : Nat → Nat → Nat → Prop
  | 0, a, b => (f a).testBit b = true
  | n + 1, a, b => ∃ c, c < N ∧ (f a).testBit c = true ∧ pth f N n c b
/-- one or more steps -/
def conn (f : Nat → Nat) (N a b : Nat) : Prop := ∃ n, pth f N n a b
theorem pth_app {f : Nat → Nat} {N c b : Nat} (hc : c < N) : ∀ n m a, pth f N n a c → pth f N m c b → pth f N (n + m + 1) a b
  | 0, m, a, h1, h2 => by rw [Nat.zero_add]; exact ⟨c, hc, h1, h2⟩
  | n + 1, m, a, h1, h2 => by
    obtain ⟨d, hd, h3, h4⟩ := h1
    rw [show n + 1 + m + 1 = (n + m + 1) + 1 from by omega]
    exact ⟨d, hd, h3, pth_app hc n m d h4 h2⟩
theorem conn_tr {f : Nat → Nat} {N a b c : Nat} (hc : c < N) (h1 : conn f N a c) (h2 : conn f N c b) : conn f N a b := by
  obtain ⟨n, h1⟩ := h1
  obtain ⟨m, h2⟩ := h2
  exact ⟨_, pth_app hc n m a h1 h2⟩
theorem tb_iff {x b : Nat} : x / 2 ^ b % 2 = 1 ↔ x.testBit b = true := by
  rw [Nat.testBit_eq_decide_div_mod_eq, decide_eq_true_eq]
theorem ciN_at {m : Nat} {f : Nat → Nat} : ∀ k a, ciN m f k a = if a < k then (if (f a).testBit m = true then f a ||| f m else f a) else f a
  | 0, a => by rw [ciN, if_neg (Nat.not_lt_zero a)]
  | k + 1, a => by
    have e1 : ciN m f k k = f k := by rw [ciN_at k k, if_neg (Nat.lt_irrefl k)]
    have e2 : ciN m f k m = f m := by
      rw [ciN_at k m]
      split
      · split
        · exact Nat.or_self _
        · rfl
      · rfl
    rw [ciN, e1, e2]
    by_cases c : f k / 2 ^ m % 2 = 1
    · rw [if_pos c]
      by_cases e : a = k
      · rw [e, updN_s, if_pos (Nat.lt_succ_self k), if_pos (tb_iff.mp c)]
      · rw [updN_n e, ciN_at k a]
        by_cases d : a < k
        · rw [if_pos d, if_pos (show a < k + 1 by omega)]
        · rw [if_neg d, if_neg (show ¬ a < k + 1 by omega)]
    · rw [if_neg c, ciN_at k a]
      by_cases e : a = k
      · rw [e, if_neg (Nat.lt_irrefl k), if_pos (Nat.lt_succ_self k), if_neg (fun q => c (tb_iff.mpr q))]
      · by_cases d : a < k
        · rw [if_pos d, if_pos (show a < k + 1 by omega)]
        · rw [if_neg d, if_neg (show ¬ a < k + 1 by omega)]
theorem coN_bit {N m : Nat} {f : Nat → Nat} {a b : Nat} (ha : a < N) : (coN N f (m + 1) a).testBit b = true ↔ (coN N f m a).testBit b = true ∨ ((coN N f m a).testBit m = true ∧ (coN N f m m).testBit b = true) := by
  rw [coN, ciN_at, if_pos ha]
  by_cases c : (coN N f m a).testBit m = true
  · rw [if_pos c, Nat.testBit_or, Bool.or_eq_true]
    exact ⟨fun h => h.elim Or.inl (fun q => Or.inr ⟨c, q⟩), fun h => h.elim Or.inl (fun q => Or.inr q.2)⟩
  · rw [if_neg c]
    exact ⟨Or.inl, fun h => h.elim id (fun q => absurd q.1 c)⟩
theorem coN_ok {N : Nat} {f : Nat → Nat} : ∀ m, m ≤ N → (∀ a b, a < N → (f a).testBit b = true → (coN N f m a).testBit b = true) ∧ (∀ a b, a < N → (coN N f m a).testBit b = true → conn f N a b) ∧ ∀ a b c, a < N → c < m → (coN N f m a).testBit c = true → (coN N f m c).testBit b = true → (coN N f m a).testBit b = true
  | 0, _ => ⟨fun a b _ h => h, fun a b _ h => ⟨0, h⟩, fun a b c _ hc => absurd hc (Nat.not_lt_zero c)⟩
  | m + 1, hm => by
    obtain ⟨h1, h2, h3⟩ := coN_ok (N := N) (f := f) m (by omega)
    refine ⟨fun a b ha h => (coN_bit ha).mpr (Or.inl (h1 a b ha h)), fun a b ha h => ?_, fun a b c ha hc p q => ?_⟩
    · rcases (coN_bit ha).mp h with q | ⟨q1, q2⟩
      · exact h2 a b ha q
      · exact conn_tr (by omega) (h2 a m ha q1) (h2 m b (by omega) q2)
    · have hcN : c < N := by omega
      have hmN : m < N := by omega
      refine (coN_bit ha).mpr ?_
      by_cases e : c = m
      · subst e
        have p' : (coN N f c a).testBit c = true := ((coN_bit ha).mp p).elim id (fun q => q.1)
        have q' : (coN N f c c).testBit b = true := ((coN_bit hcN).mp q).elim id (fun q => q.2)
        exact Or.inr ⟨p', q'⟩
      · have hcm : c < m := by omega
        rcases (coN_bit ha).mp p with p1 | ⟨p1, p2⟩
        · rcases (coN_bit hcN).mp q with q1 | ⟨q1, q2⟩
          · exact Or.inl (h3 a b c ha hcm p1 q1)
          · exact Or.inr ⟨h3 a m c ha hcm p1 q1, q2⟩
        · rcases (coN_bit hcN).mp q with q1 | ⟨q1, q2⟩
          · exact Or.inr ⟨p1, h3 m b c hmN hcm p2 q1⟩
          · exact Or.inr ⟨p1, q2⟩
/-- the closure is the ways of one or more steps -/
theorem coN_conn {N : Nat} {f : Nat → Nat} {a b : Nat} (ha : a < N) : (coN N f N a).testBit b = true ↔ conn f N a b := by
  obtain ⟨h1, h2, h3⟩ := coN_ok (f := f) N (Nat.le_refl N)
  refine ⟨h2 a b ha, ?_⟩
  rintro ⟨n, h⟩
  have go : ∀ n a, a < N → pth f N n a b → (coN N f N a).testBit b = true := by
    intro n
    induction n with
    | zero => intro a ha h; exact h1 a b ha h
    | succ n ih =>
      rintro a ha ⟨c, hc, q1, q2⟩
      exact h3 a b c ha hc (h1 a c ha q1) (ih c hc q2)
  exact go n a ha h
/-- the reference's test finds a ring just when there is one -/
theorem rngP_conn {N : Nat} {f : Nat → Nat} : rngP N f ↔ ∃ i, i < N ∧ conn f N i i := by
  unfold rngP
  constructor
  · intro h
    obtain ⟨k1, k2, k3⟩ := fF_lt N 0 h
    refine ⟨fF (slf (coN N f N)) N 0 - 1, by omega, (coN_conn (by omega)).mp ?_⟩
    rw [show ∀ q, slf (coN N f N) q = (coN N f N q / 2 ^ q % 2 == 1) from fun _ => rfl, beq_iff_eq] at k3
    exact tb_iff.mp k3
  · rintro ⟨i, hi, h⟩ e
    refine fF_ex (p := slf (coN N f N)) N 0 i (Nat.zero_le i) (by omega) ?_ e
    unfold slf
    rw [beq_iff_eq]; exact tb_iff.mpr ((coN_conn hi).mpr h)
theorem kbkP_conn {N : Nat} {f g : Nat → Nat} : kbkP N f g ↔ ∃ a b, a < N ∧ b < N ∧ conn f N a b ∧ conn g N b a := by
  constructor
  · rintro ⟨a, b, h1, h2, h3, h4⟩
    exact ⟨a, b, h1, h2, (coN_conn h1).mp (tb_iff.mp h3), (coN_conn h2).mp (tb_iff.mp h4)⟩
  · rintro ⟨a, b, h1, h2, h3, h4⟩
    exact ⟨a, b, h1, h2, tb_iff.mpr ((coN_conn h1).mpr h3), tb_iff.mpr ((coN_conn h2).mpr h4)⟩
