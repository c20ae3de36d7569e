/-- an action of the program that happens -/
def DP9 (T : Nat) (zs hp : Nat → Nat) (a : Nat) : Prop := a / 7 < T ∧ a % 7 < zs (a / 7) ∧ hp a = 1
/-- SEEN along a row: after the source, and not itself -/
def seL9 (l : List Nat) (a w9 b : Nat) : Prop := ∃ k, k < l.length ∧ (w9 = 0 ∨ ∃ m, m < k ∧ l.getD m 0 + 1 = w9) ∧ l.getD k 0 ≠ a ∧ l.getD k 0 = b
def rO9 (T : Nat) (zs hp : Nat → Nat) (a b : Nat) : Prop := DP9 T zs hp a ∧ DP9 T zs hp b ∧ a / 7 = b / 7 ∧ a < b
def rRF9 (ld : Nat) (li fm hp : Nat → Nat) (RL : Nat → List Nat) (a b : Nat) : Prop := (∃ k, k < ld ∧ hp (li k) = 1 ∧ fm (li k) = a + 1 ∧ li k = b) ∨ ∃ k, k + 1 < (RL 3).length ∧ (RL 3).getD k 0 = a ∧ (RL 3).getD (k + 1) 0 = b
def rB9 (RL : Nat → List Nat) (a b : Nat) : Prop := ∃ x i j, x < 4 ∧ i < j ∧ j < (RL x).length ∧ (RL x).getD i 0 = a ∧ (RL x).getD j 0 = b
def rSF9 (ld : Nat) (vx li fm hp : Nat → Nat) (RL : Nat → List Nat) (a b : Nat) : Prop := (∃ k, k < ld ∧ hp (li k) = 1 ∧ seL9 (RL (vx (li k))) (li k) (fm (li k)) b ∧ li k = a) ∨ ∃ k, k < (RL 3).length ∧ seL9 (RL 3) ((RL 3).getD k 0) (if k = 0 then 0 else (RL 3).getD (k - 1) 0 + 1) b ∧ (RL 3).getD k 0 = a
theorem btN_b9 {p : Nat → Bool} {b j : Nat} : ∀ n, (btN p b n).testBit j = true ↔ b.testBit j = true ∨ (j < n ∧ p j = true)
  | 0 => ⟨Or.inl, fun h => h.elim id (fun h => absurd h.1 (Nat.not_lt_zero j))⟩
  | n + 1 => by
    unfold btN
    by_cases c : p n = true
    · rw [if_pos c, or_b9, btN_b9 n]
      constructor
      · rintro ((h | h) | h)
        · exact Or.inl h
        · exact Or.inr ⟨by omega, h.2⟩
        · exact Or.inr ⟨by omega, by rw [← h]; exact c⟩
      · rintro (h | ⟨h1, h2⟩)
        · exact Or.inl (Or.inl h)
        · by_cases e : n = j
          · exact Or.inr e
          · exact Or.inl (Or.inr ⟨by omega, h2⟩)
    · rw [if_neg c, btN_b9 n]
      constructor
      · rintro (h | h)
        · exact Or.inl h
        · exact Or.inr ⟨by omega, h.2⟩
      · rintro (h | ⟨h1, h2⟩)
        · exact Or.inl h
        · by_cases e : j = n
          · rw [e] at h2; exact absurd h2 c
          · exact Or.inr ⟨by omega, h2⟩
section WST
variable {gm T ld : Nat} {zs kd vx li fm hp rx rs : Nat → Nat} {RL : Nat → List Nat} {s : W6}
theorem seR_L (hR : okRL RL rx rs) {x a w9 b : Nat} (hx : x < 4) : seR9 rx x a w9 (rs x) b ↔ seL9 (RL x) a w9 b := by
  obtain ⟨h1, h2, h3⟩ := hR.1 x hx
  unfold seR9 seL9
  rw [h1]
  constructor
  · rintro ⟨k, k1, k2, k3, k4⟩
    rw [h3 k k1] at k3 k4
    exact ⟨k, k1, k2.imp id (fun ⟨m, m1, m2⟩ => ⟨m, m1, by rw [← h3 m (by omega)]; exact m2⟩), k3, k4⟩
  · rintro ⟨k, k1, k2, k3, k4⟩
    rw [← h3 k k1] at k3 k4
    exact ⟨k, k1, k2.imp id (fun ⟨m, m1, m2⟩ => ⟨m, m1, by rw [h3 m (by omega)]; exact m2⟩), k3, k4⟩
/-- what the numbers keep -/
def nuO9 (T : Nat) (zs hp : Nat → Nat) (s : W6) : Prop :=
  (∀ n, n < s.2.2.2.2.2 → s.2.1 n = 0 ∧ s.2.2.1 n = 0 ∧ s.2.2.2.1 n = 0 ∧ s.2.2.2.2.1 n = 0) ∧ (∀ a, DP9 T zs hp a → s.1 a < s.2.2.2.2.2) ∧ (∀ a b, DP9 T zs hp a → DP9 T zs hp b → s.1 a = s.1 b → a = b) ∧ (∀ n, n < s.2.2.2.2.2 → ∃ a, DP9 T zs hp a ∧ s.1 a = n)
theorem nu_ok (hz : ∀ t, t < T → zs t ≤ 7) {s0 : W6} (h0 : s0.2.2.2.2.2 = 0) : nuO9 T zs hp (wnT zs hp s0 T) := by
  obtain ⟨j1, j2, j3⟩ := wnT_j (zs := zs) (hp := hp) h0 T hz
  have e : ∀ a : Nat, 7 * (a / 7) + a % 7 = a := fun a => by omega
  refine ⟨j1, fun a ⟨a1, a2, a3⟩ => ?_, fun a b ⟨a1, a2, a3⟩ ⟨b1, b2, b3⟩ h => ?_, fun n hn => ?_⟩
  · have := j2 (a / 7) (a % 7) (Or.inl a1) a2 (by rw [e]; exact a3)
    rw [e] at this; exact this
  · have := j3 (a / 7) (a % 7) (b / 7) (b % 7) (Or.inl a1) a2 (by rw [e]; exact a3) (Or.inl b1) b2 (by rw [e]; exact b3) (by rw [e, e]; exact h)
    omega
  · obtain ⟨u, k, k1, k2, k3, k4⟩ := wnT_h (zs := zs) (hp := hp) h0 T hz n hn
    have hu : u < T := by omega
    have := hz u hu
    have e1 : (7 * u + k) / 7 = u := by omega
    have e2 : (7 * u + k) % 7 = k := by omega
    exact ⟨7 * u + k, ⟨by omega, by rw [e1, e2]; exact k2, k3⟩, k4⟩
theorem ao_nu (hT : T ≤ 4) (hz : ∀ t, t < T → zs t ≤ 7) (hN : nuO9 T zs hp s) {a : Nat} (ha : DP9 T zs hp a) : aoN T zs hp s.1 (s.1 a) - 1 = a := by
  have h28 : a < 28 := by have := ha.1; omega
  obtain ⟨k1, k2, k3, k4, -⟩ := fF_first (p := fun b => decide (b / 7 < T ∧ b % 7 < zs (b / 7) ∧ hp b = 1 ∧ s.1 b = s.1 a)) 28 0 ⟨a, Nat.zero_le a, by omega, decide_eq_true ⟨ha.1, ha.2.1, ha.2.2, rfl⟩⟩
  obtain ⟨q1, q2, q3, q4⟩ := of_decide_eq_true k4
  exact hN.2.2.1 _ a ⟨q1, q2, q3⟩ ha q4
theorem msk_nu (hN : nuO9 T zs hp s) {f : Nat → Nat} {E : Nat → Nat → Prop} (hD : ∀ a b, E a b → DP9 T zs hp a ∧ DP9 T zs hp b) (h : ∀ i j, i < s.2.2.2.2.2 → ((f i).testBit j = true ↔ ∃ a b, E a b ∧ s.1 a = i ∧ s.1 b = j)) : msk9 f s.2.2.2.2.2 (imR9 s.1 E) :=
  ⟨fun i j ⟨a, b, w1, w2, w3⟩ => ⟨by rw [← w2]; exact hN.2.1 a (hD a b w1).1, by rw [← w3]; exact hN.2.1 b (hD a b w1).2⟩, fun i j hi _ => h i j hi⟩
theorem zb9 {n j : Nat} (h : n = 0) : ¬ n.testBit j = true := by rw [h, Nat.zero_testBit]; exact Bool.false_ne_true
theorem rO_D {a b : Nat} (h : rO9 T zs hp a b) : DP9 T zs hp a ∧ DP9 T zs hp b := ⟨h.1, h.2.1⟩
theorem ow_9 (hz : ∀ t, t < T → zs t ≤ 7) (hN : nuO9 T zs hp s) : msk9 (prF s.1 (mpP (owT zs hp) T) s.2.1) s.2.2.2.2.2 (imR9 s.1 (rO9 T zs hp)) := by
  refine msk_nu hN (fun a b h => rO_D h) (fun i j hi => ?_)
  rw [prF_bit]
  constructor
  · rintro (h | ⟨p, hp9, e1, e2⟩)
    · exact absurd h (zb9 (hN.1 i hi).1)
    · obtain ⟨t, k, m, t1, t2, t3, t4, t5, e⟩ := ow_mem.mp hp9
      have := hz t t1
      rw [e] at e1 e2
      have d1 : (7 * t + k) / 7 = t := by omega
      have d2 : (7 * t + k) % 7 = k := by omega
      have d3 : (7 * t + m) / 7 = t := by omega
      have d4 : (7 * t + m) % 7 = m := by omega
      exact ⟨7 * t + k, 7 * t + m, ⟨⟨by rw [d1]; exact t1, by rw [d1, d2]; omega, t4⟩, ⟨by rw [d3]; exact t1, by rw [d3, d4]; exact t3, t5⟩, by rw [d1, d3], by omega⟩, e1, e2⟩
  · rintro ⟨a, b, ⟨⟨a1, a2, a3⟩, ⟨b1, b2, b3⟩, c1, c2⟩, e1, e2⟩
    refine Or.inr ⟨(a, b), ow_mem.mpr ⟨a / 7, a % 7, b % 7, a1, by omega, by rw [c1]; exact b2, ?_, ?_, ?_⟩, e1, e2⟩
    · rw [show 7 * (a / 7) + a % 7 = a by omega]; exact a3
    · rw [show 7 * (a / 7) + b % 7 = b by omega]; exact b3
    · rw [show 7 * (a / 7) + a % 7 = a by omega, show 7 * (a / 7) + b % 7 = b by omega]
/-- the members of the rows happen -/
def rwD9 (T : Nat) (zs hp : Nat → Nat) (RL : Nat → List Nat) : Prop := ∀ x, x < 4 → ∀ i, i < (RL x).length → DP9 T zs hp ((RL x).getD i 0)
theorem rB_D (hW : rwD9 T zs hp RL) {a b : Nat} (h : rB9 RL a b) : DP9 T zs hp a ∧ DP9 T zs hp b := by
  obtain ⟨x, i, j, x1, x2, x3, rfl, rfl⟩ := h
  exact ⟨hW x x1 i (by omega), hW x x1 j x3⟩
theorem bf_9 (hR : okRL RL rx rs) (hW : rwD9 T zs hp RL) (hN : nuO9 T zs hp s) : msk9 (prF s.1 (mpP (bfX rx rs) 4) s.2.2.2.1) s.2.2.2.2.2 (imR9 s.1 (rB9 RL)) := by
  refine msk_nu hN (fun a b h => rB_D hW h) (fun i j hi => ?_)
  rw [prF_bit]
  constructor
  · rintro (h | ⟨p, hp9, e1, e2⟩)
    · exact absurd h (zb9 (hN.1 i hi).2.2.1)
    · obtain ⟨x, k, m, t1, t2, t3, e⟩ := bf_mem.mp hp9
      obtain ⟨h1, h2, h3⟩ := hR.1 x t1
      rw [e] at e1 e2
      rw [h1] at t3
      exact ⟨_, _, ⟨x, k, m, t1, t2, t3, rfl, rfl⟩, by rw [← h3 k (by omega)]; exact e1, by rw [← h3 m t3]; exact e2⟩
  · rintro ⟨a, b, ⟨x, k, m, t1, t2, t3, rfl, rfl⟩, e1, e2⟩
    obtain ⟨h1, h2, h3⟩ := hR.1 x t1
    exact Or.inr ⟨(rx (7 * x + k), rx (7 * x + m)), bf_mem.mpr ⟨x, k, m, t1, t2, by rw [h1]; exact t3, rfl⟩, by show s.1 (rx (7 * x + k)) = i; rw [h3 k (by omega)]; exact e1, by show s.1 (rx (7 * x + m)) = j; rw [h3 m t3]; exact e2⟩
/-- the takers of the list, and their sources -/
def tkD9 (T ld : Nat) (zs vx li fm hp : Nat → Nat) : Prop := ∀ k, k < ld → hp (li k) = 1 → DP9 T zs hp (li k) ∧ vx (li k) < 3 ∧ (fm (li k) ≠ 0 → DP9 T zs hp (fm (li k) - 1))
theorem rRF_D (hW : rwD9 T zs hp RL) (hK : tkD9 T ld zs vx li fm hp) {a b : Nat} (h : rRF9 ld li fm hp RL a b) : DP9 T zs hp a ∧ DP9 T zs hp b := by
  rcases h with ⟨k, k1, k2, k3, rfl⟩ | ⟨k, k1, rfl, rfl⟩
  · obtain ⟨h1, -, h3⟩ := hK k k1 k2
    have := h3 (by rw [k3]; exact Nat.succ_ne_zero a)
    rw [k3, Nat.add_sub_cancel] at this
    exact ⟨this, h1⟩
  · exact ⟨hW 3 (by decide) k (by omega), hW 3 (by decide) (k + 1) k1⟩
theorem rd_9 (hR : okRL RL rx rs) (hW : rwD9 T zs hp RL) (hK : tkD9 T ld zs vx li fm hp) (hN : nuO9 T zs hp s) : msk9 (tkR s.1 rx rs (tkL s.1 rx rs li fm hp vx (s.2.2.1, s.2.2.2.2.1) ld) (rs 3)).1 s.2.2.2.2.2 (imR9 s.1 (rRF9 ld li fm hp RL)) := by
  refine msk_nu hN (fun a b h => rRF_D hW hK h) (fun i j hi => ?_)
  obtain ⟨h1, h2, h3⟩ := hR.1 3 (by decide)
  rw [tkR_1, tkL_1, h1]
  constructor
  · rintro ((h | ⟨k, k1, k2, k3, k4, k5⟩) | ⟨k, k1, k2, k3, k4⟩)
    · exact absurd h (zb9 (hN.1 i hi).2.1)
    · exact ⟨fm (li k) - 1, li k, Or.inl ⟨k, k1, k2, by omega, rfl⟩, k4, k5⟩
    · refine ⟨_, _, Or.inr ⟨k - 1, by omega, rfl, rfl⟩, ?_, ?_⟩
      · rw [← h3 (k - 1) (by omega), show 7 * 3 + (k - 1) = 20 + k by omega]; exact k3
      · rw [show k - 1 + 1 = k by omega, ← h3 k k1]; exact k4
  · rintro ⟨a, b, ⟨k, k1, k2, k3, rfl⟩ | ⟨k, k1, rfl, rfl⟩, e1, e2⟩
    · exact Or.inl (Or.inr ⟨k, k1, k2, by rw [k3]; exact Nat.succ_ne_zero a, by rw [k3, Nat.add_sub_cancel]; exact e1, e2⟩)
    · refine Or.inr ⟨k + 1, k1, Nat.succ_ne_zero k, ?_, ?_⟩
      · rw [show 20 + (k + 1) = 7 * 3 + k by omega, h3 k (by omega)]; exact e1
      · rw [show 21 + (k + 1) = 7 * 3 + (k + 1) by omega, h3 (k + 1) k1]; exact e2
theorem rSF_D (hW : rwD9 T zs hp RL) (hK : tkD9 T ld zs vx li fm hp) {a b : Nat} (h : rSF9 ld vx li fm hp RL a b) : DP9 T zs hp a ∧ DP9 T zs hp b := by
  rcases h with ⟨k, k1, k2, ⟨m, m1, -, -, rfl⟩, rfl⟩ | ⟨k, k1, ⟨m, m1, -, -, rfl⟩, rfl⟩
  · obtain ⟨h1, h2, -⟩ := hK k k1 k2
    exact ⟨h1, hW _ (by omega) m m1⟩
  · exact ⟨hW 3 (by decide) k k1, hW 3 (by decide) m m1⟩
theorem sn_9 (hR : okRL RL rx rs) (hW : rwD9 T zs hp RL) (hK : tkD9 T ld zs vx li fm hp) (hN : nuO9 T zs hp s) : msk9 (tkR s.1 rx rs (tkL s.1 rx rs li fm hp vx (s.2.2.1, s.2.2.2.2.1) ld) (rs 3)).2 s.2.2.2.2.2 (imR9 s.1 (rSF9 ld vx li fm hp RL)) := by
  refine msk_nu hN (fun a b h => rSF_D hW hK h) (fun i j hi => ?_)
  obtain ⟨h1, h2, h3⟩ := hR.1 3 (by decide)
  rw [tkR_2, tkL_2]
  constructor
  · rintro ((h | ⟨k, b, k1, k2, k3, k4, k5⟩) | ⟨k, b, k1, k2, k3, k4⟩)
    · exact absurd h (zb9 (hN.1 i hi).2.2.2)
    · exact ⟨li k, b, Or.inl ⟨k, k1, k2, (seR_L hR (by have := (hK k k1 k2).2.1; omega)).mp k3, rfl⟩, k4, k5⟩
    · rw [h1] at k1
      refine ⟨(RL 3).getD k 0, b, Or.inr ⟨k, k1, ?_, rfl⟩, by rw [← h3 k k1]; exact k3, k4⟩
      have := (seR_L hR (by decide)).mp k2
      rw [show 21 + k = 7 * 3 + k by omega, h3 k k1] at this
      by_cases z : k = 0
      · rw [if_pos z] at this ⊢; exact this
      · rw [if_neg z, show 20 + k = 7 * 3 + (k - 1) by omega, h3 (k - 1) (by omega)] at this
        rw [if_neg z]; exact this
  · rintro ⟨a, b, ⟨k, k1, k2, k3, rfl⟩ | ⟨k, k1, k2, rfl⟩, e1, e2⟩
    · exact Or.inl (Or.inr ⟨k, b, k1, k2, (seR_L hR (by have := (hK k k1 k2).2.1; omega)).mpr k3, e1, e2⟩)
    · refine Or.inr ⟨k, b, by rw [h1]; exact k1, (seR_L hR (by decide)).mpr ?_, ?_, e2⟩
      · rw [show 21 + k = 7 * 3 + k by omega, h3 k k1]
        by_cases z : k = 0
        · rw [if_pos z] at k2 ⊢; exact k2
        · rw [if_neg z] at k2
          rw [if_neg z, show 20 + k = 7 * 3 + (k - 1) by omega, h3 (k - 1) (by omega)]; exact k2
      · rw [show 21 + k = 7 * 3 + k by omega, h3 k k1]; exact e1
end WST
