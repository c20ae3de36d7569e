/-- the numbers of the actions that happen: below my, each its own; the arrays begin empty -/
def wnJ9 (zs hp : Nat → Nat) (t i : Nat) (s : W6) : Prop :=
  (∀ n, n < s.2.2.2.2.2 → s.2.1 n = 0 ∧ s.2.2.1 n = 0 ∧ s.2.2.2.1 n = 0 ∧ s.2.2.2.2.1 n = 0) ∧
  (∀ u k, (u < t ∨ (u = t ∧ k < i)) → k < zs u → hp (7 * u + k) = 1 → s.1 (7 * u + k) < s.2.2.2.2.2) ∧
  (∀ u k v j, (u < t ∨ (u = t ∧ k < i)) → k < zs u → hp (7 * u + k) = 1 → (v < t ∨ (v = t ∧ j < i)) → j < zs v → hp (7 * v + j) = 1 → s.1 (7 * u + k) = s.1 (7 * v + j) → u = v ∧ k = j)
theorem wnI_j {zs hp : Nat → Nat} {t : Nat} {s : W6} (hz : ∀ u, u ≤ t → zs u ≤ 7) (h : wnJ9 zs hp t 0 s) : ∀ i, i ≤ zs t → wnJ9 zs hp t i (wnI hp t s i)
  | 0, _ => h
  | i + 1, q => by
    obtain ⟨j1, j2, j3⟩ := wnI_j hz h i (by omega)
    have hzt := hz t (Nat.le_refl t)
    have ne : ∀ u k, (u < t ∨ (u = t ∧ k < i)) → k < zs u → 7 * u + k ≠ 7 * t + i := fun u k h1 h2 => by
      have := hz u (by omega)
      omega
    have sp : ∀ u k, (u < t ∨ (u = t ∧ k < i + 1)) → (u < t ∨ (u = t ∧ k < i)) ∨ (u = t ∧ k = i) := fun u k h1 => by omega
    unfold wnI wn1
    by_cases c : hp (7 * t + i) = 1
    · rw [if_pos c]
      generalize wnI hp t s i = z at j1 j2 j3 ⊢
      obtain ⟨nu, ow, rd, bf, sn, my⟩ := z
      dsimp only at *
      refine ⟨fun n hn => ?_, fun u k h1 h2 h3 => ?_, fun u k v j h1 h2 h3 g1 g2 g3 e => ?_⟩
      · show updN ow my 0 n = 0 ∧ updN rd my 0 n = 0 ∧ updN bf my 0 n = 0 ∧ updN sn my 0 n = 0
        by_cases e : n = my
        · rw [e, updN_s, updN_s, updN_s, updN_s]; exact ⟨rfl, rfl, rfl, rfl⟩
        · rw [updN_n e, updN_n e, updN_n e, updN_n e]
          exact j1 n (by have hn' : n < my + 1 := hn; omega)
      · show updN nu (7 * t + i) my (7 * u + k) < my + 1
        rcases sp u k h1 with w | ⟨w1, w2⟩
        · rw [updN_n (ne u k w h2)]; have := j2 u k w h2 h3; omega
        · rw [w1, w2, updN_s]; omega
      · have e' : updN nu (7 * t + i) my (7 * u + k) = updN nu (7 * t + i) my (7 * v + j) := e
        rcases sp u k h1 with w | ⟨w1, w2⟩
        · rw [updN_n (ne u k w h2)] at e'
          rcases sp v j g1 with y | ⟨y1, y2⟩
          · rw [updN_n (ne v j y g2)] at e'
            exact j3 u k v j w h2 h3 y g2 g3 e'
          · rw [y1, y2, updN_s] at e'
            have := j2 u k w h2 h3; omega
        · rw [w1, w2, updN_s] at e'
          rcases sp v j g1 with y | ⟨y1, y2⟩
          · rw [updN_n (ne v j y g2)] at e'
            have := j2 v j y g2 g3; omega
          · exact ⟨w1.trans y1.symm, w2.trans y2.symm⟩
    · rw [if_neg c]
      have sp2 : ∀ u k, (u < t ∨ (u = t ∧ k < i + 1)) → hp (7 * u + k) = 1 → (u < t ∨ (u = t ∧ k < i)) := fun u k h1 h2 => by
        rcases sp u k h1 with w | ⟨w1, w2⟩
        · exact w
        · rw [w1, w2] at h2; exact absurd h2 c
      exact ⟨j1, fun u k h1 h2 h3 => j2 u k (sp2 u k h1 h3) h2 h3, fun u k v j h1 h2 h3 g1 g2 g3 e => j3 u k v j (sp2 u k h1 h3) h2 h3 (sp2 v j g1 g3) g2 g3 e⟩
theorem wnT_j {zs hp : Nat → Nat} {s : W6} (h0 : s.2.2.2.2.2 = 0) : ∀ t, (∀ u, u < t → zs u ≤ 7) → wnJ9 zs hp t 0 (wnT zs hp s t)
  | 0, _ => ⟨fun n hn => by
      have hn' : n < s.2.2.2.2.2 := hn
      omega, fun u k h => by omega, fun u k v j h => by omega⟩
  | t + 1, hz => by
    obtain ⟨j1, j2, j3⟩ := wnI_j (fun u hu => hz u (by omega)) (wnT_j h0 t (fun u hu => hz u (by omega))) (zs t) (Nat.le_refl _)
    have cv : ∀ u k, (u < t + 1 ∨ (u = t + 1 ∧ k < 0)) → k < zs u → (u < t ∨ (u = t ∧ k < zs t)) := fun u k h1 h2 => by
      by_cases e : u = t
      · rw [e] at h2; exact Or.inr ⟨e, h2⟩
      · exact Or.inl (by omega)
    exact ⟨j1, fun u k h1 h2 h3 => j2 u k (cv u k h1 h2) h2 h3, fun u k v j h1 h2 h3 g1 g2 g3 e => j3 u k v j (cv u k h1 h2) h2 h3 (cv v j g1 g2) g2 g3 e⟩
theorem or_b9 {d a b : Nat} : (d ||| 2 ^ a).testBit b = true ↔ d.testBit b = true ∨ a = b := by
  rw [bit_set, Bool.or_eq_true, decide_eq_true_iff]
theorem pr1_bit {nu f : Nat → Nat} {a b i j : Nat} : (pr1 nu f a b i).testBit j = true ↔ (f i).testBit j = true ∨ (nu a = i ∧ nu b = j) := by
  unfold pr1
  by_cases e : i = nu a
  · rw [e, updN_s, or_b9]
    exact ⟨fun h => h.elim Or.inl (fun h => Or.inr ⟨rfl, h⟩), fun h => h.elim Or.inl (fun h => Or.inr h.2)⟩
  · rw [updN_n e]
    exact ⟨Or.inl, fun h => h.elim id (fun h => absurd h.1.symm e)⟩
theorem prF_bit {nu : Nat → Nat} {i j : Nat} : ∀ (L : List (Nat × Nat)) (f : Nat → Nat), (prF nu L f i).testBit j = true ↔ (f i).testBit j = true ∨ ∃ p, p ∈ L ∧ nu p.1 = i ∧ nu p.2 = j
  | [], f => ⟨Or.inl, fun h => h.elim id (fun ⟨p, hp, _⟩ => absurd hp List.not_mem_nil)⟩
  | p :: L, f => by
    show (prF nu L (pr1 nu f p.1 p.2) i).testBit j = true ↔ _
    rw [prF_bit L, pr1_bit]
    constructor
    · rintro ((h | h) | ⟨q, h1, h2⟩)
      · exact Or.inl h
      · exact Or.inr ⟨p, List.mem_cons_self .., h⟩
      · exact Or.inr ⟨q, List.mem_cons_of_mem _ h1, h2⟩
    · rintro (h | ⟨q, h1, h2⟩)
      · exact Or.inl (Or.inl h)
      · rcases List.mem_cons.mp h1 with e | e
        · rw [e] at h2; exact Or.inl (Or.inr h2)
        · exact Or.inr ⟨q, e, h2⟩
theorem tkN_fl {rx nu : Nat → Nat} {x a w9 : Nat} {sn : Nat → Nat} : ∀ n, (tkN rx nu x a w9 sn n).1 = true ↔ w9 = 0 ∨ ∃ k, k < n ∧ rx (7 * x + k) + 1 = w9
  | 0 => by
    show (w9 == 0) = true ↔ _
    rw [beq_iff_eq]
    exact ⟨Or.inl, fun h => h.elim id (fun ⟨k, hk, _⟩ => absurd hk (Nat.not_lt_zero k))⟩
  | n + 1 => by
    show ((tkN rx nu x a w9 sn n).1 || rx (7 * x + n) + 1 == w9) = true ↔ _
    rw [Bool.or_eq_true, tkN_fl n, beq_iff_eq]
    constructor
    · rintro ((h | ⟨k, h1, h2⟩) | h)
      · exact Or.inl h
      · exact Or.inr ⟨k, by omega, h2⟩
      · exact Or.inr ⟨n, Nat.lt_succ_self n, h⟩
    · rintro (h | ⟨k, h1, h2⟩)
      · exact Or.inl (Or.inl h)
      · by_cases e : k = n
        · rw [e] at h2; exact Or.inr h2
        · exact Or.inl (Or.inr ⟨k, by omega, h2⟩)
/-- SEEN, along a row -/
def seR9 (rx : Nat → Nat) (x a w9 n b : Nat) : Prop := ∃ k, k < n ∧ (w9 = 0 ∨ ∃ m, m < k ∧ rx (7 * x + m) + 1 = w9) ∧ rx (7 * x + k) ≠ a ∧ rx (7 * x + k) = b
theorem tkN_bit {rx nu : Nat → Nat} {x a w9 : Nat} {sn : Nat → Nat} {i j : Nat} : ∀ n, ((tkN rx nu x a w9 sn n).2 i).testBit j = true ↔ (sn i).testBit j = true ∨ ∃ b, seR9 rx x a w9 n b ∧ nu a = i ∧ nu b = j
  | 0 => ⟨Or.inl, fun h => h.elim id (fun ⟨b, ⟨k, hk, _⟩, _⟩ => absurd hk (Nat.not_lt_zero k))⟩
  | n + 1 => by
    have e : (tkN rx nu x a w9 sn (n + 1)).2 = if (tkN rx nu x a w9 sn n).1 = true ∧ ¬ rx (7 * x + n) = a then pr1 nu (tkN rx nu x a w9 sn n).2 a (rx (7 * x + n)) else (tkN rx nu x a w9 sn n).2 := rfl
    rw [e]
    by_cases c : (tkN rx nu x a w9 sn n).1 = true ∧ ¬ rx (7 * x + n) = a
    · rw [if_pos c, pr1_bit, tkN_bit n]
      constructor
      · rintro ((h | ⟨b, ⟨k, k1, k2⟩, h⟩) | h)
        · exact Or.inl h
        · exact Or.inr ⟨b, ⟨k, by omega, k2⟩, h⟩
        · exact Or.inr ⟨rx (7 * x + n), ⟨n, Nat.lt_succ_self n, (tkN_fl n).mp c.1, c.2, rfl⟩, h⟩
      · rintro (h | ⟨b, ⟨k, k1, k2, k3, k4⟩, h⟩)
        · exact Or.inl (Or.inl h)
        · by_cases w : k = n
          · rw [w] at k4; rw [k4]; exact Or.inr h
          · exact Or.inl (Or.inr ⟨b, ⟨k, by omega, k2, k3, k4⟩, h⟩)
    · rw [if_neg c, tkN_bit n]
      constructor
      · rintro (h | ⟨b, ⟨k, k1, k2⟩, h⟩)
        · exact Or.inl h
        · exact Or.inr ⟨b, ⟨k, by omega, k2⟩, h⟩
      · rintro (h | ⟨b, ⟨k, k1, k2, k3, k4⟩, h⟩)
        · exact Or.inl h
        · by_cases w : k = n
          · rw [w] at k2 k3; exact absurd ⟨(tkN_fl n).mpr k2, k3⟩ c
          · exact Or.inr ⟨b, ⟨k, by omega, k2, k3, k4⟩, h⟩
theorem tkQ_1 {nu rx rs : Nat → Nat} {a w9 x : Nat} {s : (Nat → Nat) × (Nat → Nat)} {i j : Nat} : ((tkQ nu rx rs a w9 x s).1 i).testBit j = true ↔ (s.1 i).testBit j = true ∨ (w9 ≠ 0 ∧ nu (w9 - 1) = i ∧ nu a = j) := by
  have e : (tkQ nu rx rs a w9 x s).1 = if w9 = 0 then s.1 else pr1 nu s.1 (w9 - 1) a := rfl
  rw [e]
  by_cases c : w9 = 0
  · rw [if_pos c]; exact ⟨Or.inl, fun h => h.elim id (fun h => absurd c h.1)⟩
  · rw [if_neg c, pr1_bit]
    exact ⟨fun h => h.elim Or.inl (fun h => Or.inr ⟨c, h⟩), fun h => h.elim Or.inl (fun h => Or.inr h.2)⟩
theorem tkQ_2 {nu rx rs : Nat → Nat} {a w9 x : Nat} {s : (Nat → Nat) × (Nat → Nat)} {i j : Nat} : ((tkQ nu rx rs a w9 x s).2 i).testBit j = true ↔ (s.2 i).testBit j = true ∨ ∃ b, seR9 rx x a w9 (rs x) b ∧ nu a = i ∧ nu b = j := tkN_bit (rs x)
theorem tkL_1 {nu rx rs li fm hp vx : Nat → Nat} {s : (Nat → Nat) × (Nat → Nat)} {i j : Nat} : ∀ n, ((tkL nu rx rs li fm hp vx s n).1 i).testBit j = true ↔ (s.1 i).testBit j = true ∨ ∃ k, k < n ∧ hp (li k) = 1 ∧ fm (li k) ≠ 0 ∧ nu (fm (li k) - 1) = i ∧ nu (li k) = j
  | 0 => ⟨Or.inl, fun h => h.elim id (fun ⟨k, hk, _⟩ => absurd hk (Nat.not_lt_zero k))⟩
  | n + 1 => by
    have e : tkL nu rx rs li fm hp vx s (n + 1) = if hp (li n) = 1 then tkQ nu rx rs (li n) (fm (li n)) (vx (li n)) (tkL nu rx rs li fm hp vx s n) else tkL nu rx rs li fm hp vx s n := rfl
    rw [e]
    by_cases c : hp (li n) = 1
    · rw [if_pos c, tkQ_1, tkL_1 n]
      constructor
      · rintro ((h | ⟨k, k1, k2⟩) | h)
        · exact Or.inl h
        · exact Or.inr ⟨k, by omega, k2⟩
        · exact Or.inr ⟨n, Nat.lt_succ_self n, c, h⟩
      · rintro (h | ⟨k, k1, k2, k3⟩)
        · exact Or.inl (Or.inl h)
        · by_cases w : k = n
          · rw [w] at k3; exact Or.inr k3
          · exact Or.inl (Or.inr ⟨k, by omega, k2, k3⟩)
    · rw [if_neg c, tkL_1 n]
      constructor
      · rintro (h | ⟨k, k1, k2⟩)
        · exact Or.inl h
        · exact Or.inr ⟨k, by omega, k2⟩
      · rintro (h | ⟨k, k1, k2, k3⟩)
        · exact Or.inl h
        · by_cases w : k = n
          · rw [w] at k2; exact absurd k2 c
          · exact Or.inr ⟨k, by omega, k2, k3⟩
theorem tkL_2 {nu rx rs li fm hp vx : Nat → Nat} {s : (Nat → Nat) × (Nat → Nat)} {i j : Nat} : ∀ n, ((tkL nu rx rs li fm hp vx s n).2 i).testBit j = true ↔ (s.2 i).testBit j = true ∨ ∃ k b, k < n ∧ hp (li k) = 1 ∧ seR9 rx (vx (li k)) (li k) (fm (li k)) (rs (vx (li k))) b ∧ nu (li k) = i ∧ nu b = j
  | 0 => ⟨Or.inl, fun h => h.elim id (fun ⟨k, b, hk, _⟩ => absurd hk (Nat.not_lt_zero k))⟩
  | n + 1 => by
    have e : tkL nu rx rs li fm hp vx s (n + 1) = if hp (li n) = 1 then tkQ nu rx rs (li n) (fm (li n)) (vx (li n)) (tkL nu rx rs li fm hp vx s n) else tkL nu rx rs li fm hp vx s n := rfl
    rw [e]
    by_cases c : hp (li n) = 1
    · rw [if_pos c, tkQ_2, tkL_2 n]
      constructor
      · rintro ((h | ⟨k, b, k1, k2⟩) | ⟨b, h⟩)
        · exact Or.inl h
        · exact Or.inr ⟨k, b, by omega, k2⟩
        · exact Or.inr ⟨n, b, Nat.lt_succ_self n, c, h⟩
      · rintro (h | ⟨k, b, k1, k2, k3⟩)
        · exact Or.inl (Or.inl h)
        · by_cases w : k = n
          · rw [w] at k3; exact Or.inr ⟨b, k3⟩
          · exact Or.inl (Or.inr ⟨k, b, by omega, k2, k3⟩)
    · rw [if_neg c, tkL_2 n]
      constructor
      · rintro (h | ⟨k, b, k1, k2⟩)
        · exact Or.inl h
        · exact Or.inr ⟨k, b, by omega, k2⟩
      · rintro (h | ⟨k, b, k1, k2, k3⟩)
        · exact Or.inl h
        · by_cases w : k = n
          · rw [w] at k2; exact absurd k2 c
          · exact Or.inr ⟨k, b, by omega, k2, k3⟩
theorem tkR_1 {nu rx rs : Nat → Nat} {s : (Nat → Nat) × (Nat → Nat)} {i j : Nat} : ∀ n, ((tkR nu rx rs s n).1 i).testBit j = true ↔ (s.1 i).testBit j = true ∨ ∃ k, k < n ∧ k ≠ 0 ∧ nu (rx (20 + k)) = i ∧ nu (rx (21 + k)) = j
  | 0 => ⟨Or.inl, fun h => h.elim id (fun ⟨k, hk, _⟩ => absurd hk (Nat.not_lt_zero k))⟩
  | n + 1 => by
    have e : tkR nu rx rs s (n + 1) = tkQ nu rx rs (rx (21 + n)) (if n = 0 then 0 else rx (20 + n) + 1) 3 (tkR nu rx rs s n) := rfl
    rw [e, tkQ_1, tkR_1 n]
    constructor
    · rintro ((h | ⟨k, k1, k2⟩) | ⟨h1, h2, h3⟩)
      · exact Or.inl h
      · exact Or.inr ⟨k, by omega, k2⟩
      · by_cases z : n = 0
        · rw [if_pos z] at h1; exact absurd rfl h1
        · rw [if_neg z, Nat.add_sub_cancel] at h2
          exact Or.inr ⟨n, Nat.lt_succ_self n, z, h2, h3⟩
    · rintro (h | ⟨k, k1, k2, k3⟩)
      · exact Or.inl (Or.inl h)
      · by_cases w : k = n
        · rw [w] at k2 k3
          rw [if_neg k2, Nat.add_sub_cancel]
          exact Or.inr ⟨Nat.succ_ne_zero _, k3⟩
        · exact Or.inl (Or.inr ⟨k, by omega, k2, k3⟩)
theorem tkR_2 {nu rx rs : Nat → Nat} {s : (Nat → Nat) × (Nat → Nat)} {i j : Nat} : ∀ n, ((tkR nu rx rs s n).2 i).testBit j = true ↔ (s.2 i).testBit j = true ∨ ∃ k b, k < n ∧ seR9 rx 3 (rx (21 + k)) (if k = 0 then 0 else rx (20 + k) + 1) (rs 3) b ∧ nu (rx (21 + k)) = i ∧ nu b = j
  | 0 => ⟨Or.inl, fun h => h.elim id (fun ⟨k, b, hk, _⟩ => absurd hk (Nat.not_lt_zero k))⟩
  | n + 1 => by
    have e : tkR nu rx rs s (n + 1) = tkQ nu rx rs (rx (21 + n)) (if n = 0 then 0 else rx (20 + n) + 1) 3 (tkR nu rx rs s n) := rfl
    rw [e, tkQ_2, tkR_2 n]
    constructor
    · rintro ((h | ⟨k, b, k1, k2⟩) | ⟨b, h⟩)
      · exact Or.inl h
      · exact Or.inr ⟨k, b, by omega, k2⟩
      · exact Or.inr ⟨n, b, Nat.lt_succ_self n, h⟩
    · rintro (h | ⟨k, b, k1, k2⟩)
      · exact Or.inl (Or.inl h)
      · by_cases w : k = n
        · rw [w] at k2; exact Or.inr ⟨b, k2⟩
        · exact Or.inl (Or.inr ⟨k, b, by omega, k2⟩)
theorem mpP_mem {f : Nat → List (Nat × Nat)} {p : Nat × Nat} : ∀ n, p ∈ mpP f n ↔ ∃ i, i < n ∧ p ∈ f i
  | 0 => ⟨fun h => absurd h List.not_mem_nil, fun ⟨i, hi, _⟩ => absurd hi (Nat.not_lt_zero i)⟩
  | n + 1 => by
    unfold mpP
    rw [List.mem_append, mpP_mem n]
    constructor
    · rintro (⟨i, h1, h2⟩ | h)
      · exact ⟨i, by omega, h2⟩
      · exact ⟨n, Nat.lt_succ_self n, h⟩
    · rintro ⟨i, h1, h2⟩
      by_cases w : i = n
      · rw [w] at h2; exact Or.inr h2
      · exact Or.inl ⟨i, by omega, h2⟩
theorem ow_mem {T : Nat} {zs hp : Nat → Nat} {p : Nat × Nat} : p ∈ mpP (owT zs hp) T ↔ ∃ t i j, t < T ∧ i < j ∧ j < zs t ∧ hp (7 * t + i) = 1 ∧ hp (7 * t + j) = 1 ∧ p = (7 * t + i, 7 * t + j) := by
  rw [mpP_mem]
  constructor
  · rintro ⟨t, ht, h⟩
    obtain ⟨i, hi, h⟩ := (mpP_mem _).mp h
    obtain ⟨j, hj, h⟩ := (mpP_mem _).mp h
    unfold owJ at h
    by_cases c : hp (7 * t + i) = 1 ∧ hp (7 * t + i + 1 + j) = 1
    · rw [if_pos c] at h
      have h := List.mem_singleton.mp h
      exact ⟨t, i, i + 1 + j, ht, by omega, by omega, c.1, by rw [show 7 * t + (i + 1 + j) = 7 * t + i + 1 + j by omega]; exact c.2, by rw [h, show 7 * t + (i + 1 + j) = 7 * t + i + 1 + j by omega]⟩
    · rw [if_neg c] at h; exact absurd h List.not_mem_nil
  · rintro ⟨t, i, j, ht, hij, hj, h1, h2, e⟩
    refine ⟨t, ht, (mpP_mem _).mpr ⟨i, by omega, (mpP_mem _).mpr ⟨j - (i + 1), by omega, ?_⟩⟩⟩
    unfold owJ
    have e2 : 7 * t + i + 1 + (j - (i + 1)) = 7 * t + j := by omega
    rw [e2, if_pos ⟨h1, h2⟩, e]
    exact List.mem_singleton.mpr rfl
theorem bf_mem {rx rs : Nat → Nat} {p : Nat × Nat} : p ∈ mpP (bfX rx rs) 4 ↔ ∃ x i j, x < 4 ∧ i < j ∧ j < rs x ∧ p = (rx (7 * x + i), rx (7 * x + j)) := by
  rw [mpP_mem]
  constructor
  · rintro ⟨x, hx, h⟩
    obtain ⟨i, hi, h⟩ := (mpP_mem _).mp h
    obtain ⟨j, hj, h⟩ := (mpP_mem _).mp h
    unfold bfJ at h
    have h := List.mem_singleton.mp h
    exact ⟨x, i, i + 1 + j, hx, by omega, by omega, by rw [h, show 7 * x + (i + 1 + j) = 7 * x + i + 1 + j by omega]⟩
  · rintro ⟨x, i, j, hx, hij, hj, e⟩
    refine ⟨x, hx, (mpP_mem _).mpr ⟨i, by omega, (mpP_mem _).mpr ⟨j - (i + 1), by omega, ?_⟩⟩⟩
    unfold bfJ
    have e2 : 7 * x + i + 1 + (j - (i + 1)) = 7 * x + j := by omega
    rw [e2, e]
    exact List.mem_singleton.mpr rfl
