theorem laP_s {p : Nat → Bool} {n : Nat} : laP p (n + 1) = if p n = true then n + 1 else laP p n := rfl
theorem laP_cgn {p q : Nat → Bool} : ∀ n, (∀ i, i < n → p i = q i) → laP p n = laP q n
  | 0, _ => rfl
  | n + 1, h => by unfold laP; rw [h n (Nat.lt_succ_self n), laP_cgn n (fun i hi => h i (by omega))]
theorem laP_le {p : Nat → Bool} : ∀ n, laP p n ≤ n
  | 0 => Nat.le_refl 0
  | n + 1 => by
    unfold laP
    have := laP_le (p := p) n
    split <;> omega
theorem laP_is {p : Nat → Bool} {k : Nat} (hp : p k = true) : ∀ n, k < n → (∀ i, k < i → i < n → p i = false) → laP p n = k + 1
  | 0, h, _ => absurd h (Nat.not_lt_zero k)
  | n + 1, h, hn => by
    unfold laP
    by_cases e : k = n
    · rw [← e, if_pos hp]
    · rw [if_neg (by rw [hn n (by omega) (Nat.lt_succ_self n)]; exact Bool.false_ne_true)]
      exact laP_is hp n (by omega) (fun i h1 h2 => hn i h1 (by omega))
theorem laP_hi {p : Nat → Bool} : ∀ n i, laP p n ≤ i → i < n → p i = false
  | 0, i, _, h => absurd h (Nat.not_lt_zero i)
  | n + 1, i, h1, h2 => by
    unfold laP at h1
    cases hp : p n with
    | true => rw [hp, if_pos rfl] at h1; omega
    | false =>
      rw [hp, if_neg Bool.false_ne_true] at h1
      by_cases e : i = n
      · rw [e]; exact hp
      · exact laP_hi n i h1 (by omega)
theorem laP_ins {p p' : Nat → Bool} {k : Nat} (h1 : ∀ i, i < k → p' i = p i) (h2 : p' k = false) : ∀ n, k ≤ n → (∀ i, k < i → i < n + 1 → p' i = p (i - 1)) → laP p' (n + 1) = if k < laP p n then laP p n + 1 else laP p n
  | 0, h, h3 => by
    have e : k = 0 := by omega
    subst e
    rw [laP_s, h2, if_neg Bool.false_ne_true]; rfl
  | n + 1, h, h3 => by
    rw [laP_s (p := p')]
    by_cases e : k = n + 1
    · subst e
      rw [h2, if_neg Bool.false_ne_true, laP_cgn (n + 1) h1, if_neg (by have := laP_le (p := p) (n + 1); omega)]
    · rw [h3 (n + 1) (by omega) (by omega), Nat.add_sub_cancel, laP_ins h1 h2 n (by omega) (fun i h4 h5 => h3 i h4 (by omega))]
      rw [laP_s (p := p)]
      by_cases q : p n = true
      · rw [if_pos q, if_pos q, if_pos (by omega)]
      · rw [if_neg q, if_neg q]
theorem laP_or {p q : Nat → Bool} : ∀ n, laP (fun i => p i || q i) n = if laP p n < laP q n then laP q n else laP p n
  | 0 => rfl
  | n + 1 => by
    have lp := laP_le (p := p) n
    have lq := laP_le (p := q) n
    rw [laP_s, laP_s, laP_s, laP_or n]
    cases hp : p n with
    | true =>
      rw [Bool.true_or, if_pos rfl, if_pos rfl]
      cases hq : q n with
      | true => rw [if_pos rfl, if_neg (Nat.lt_irrefl _)]
      | false => rw [if_neg Bool.false_ne_true, if_neg (by omega)]
    | false =>
      cases hq : q n with
      | true => rw [Bool.false_or, if_pos rfl, if_neg Bool.false_ne_true, if_pos rfl, if_pos (by omega)]
      | false => rw [Bool.false_or, if_neg Bool.false_ne_true, if_neg Bool.false_ne_true, if_neg Bool.false_ne_true]
theorem tb_div {K b : Nat} : K / 2 ^ b % 2 = 1 ↔ K.testBit b = true := by
  rw [Nat.testBit_eq_decide_div_mod_eq, decide_eq_true_iff]
theorem knP_la {K : Nat} {f : Nat → Nat} : ∀ n, knP K f n = laP (fun i => K.testBit (f (i + 1) - 1)) n
  | 0 => rfl
  | n + 1 => by
    unfold knP laP
    rw [knP_la n]
    by_cases c : K.testBit (f (n + 1) - 1) = true
    · rw [if_pos (tb_div.mpr c), if_pos c]
    · rw [if_neg (fun q => c (tb_div.mp q)), if_neg c]
/-- the place that a set knows in a row -/
def kq (s : S9K) (K x : Nat) : Nat := knP K (srA s.2.2.2.2.2.1 s.2.2.2.2.2.2.1 x) (s.2.2.2.2.2.2.1 x)
theorem kq_la {s : S9K} {K x : Nat} : kq s K x = laP (fun i => K.testBit (sr9 s x (i + 1) - 1)) (s.2.2.2.2.2.2.1 x) := knP_la _
theorem kq_or {s : S9K} {K L x : Nat} : kq s (K ||| L) x = if kq s K x < kq s L x then kq s L x else kq s K x := by
  rw [kq_la, kq_la, kq_la, ← laP_or]
  exact laP_cgn _ (fun i _ => Nat.testBit_or ..)
def rowP (pg : Nat → Nat → Nat) (dn x b : Nat) : Bool := dn.testBit b && decide (1 ≤ pg 4 b ∧ pg 4 b ≤ 4 ∧ rowN pg b = x)
/-- what a thread has learned of -/
def oM (pg : Nat → Nat → Nat) (dn : Nat) (so : Int64) (ct : Nat → Nat) (t : Nat) : Nat → Nat
  | 0 => 0
  | n + 1 => if dn.testBit n = true ∧ pg 2 n = t then oM pg dn so ct t n ||| ct (sA so n) ||| (if 1 ≤ pg 4 n ∧ pg 4 n ≤ 4 then 2 ^ n else 0) else oM pg dn so ct t n
def IvQ (T Ac : Nat) (pg : Nat → Nat → Nat) (nm : Nat → Int32) (s : S9K) : Prop :=
  PgI T Ac pg nm s.1 s.2.1 s.2.2.1 s.2.2.2.1 s.2.2.2.2.1 ∧ KOk 0 T Ac pg s.1 s.2.1 s.2.2.1 s.2.2.2.2.2.1 s.2.2.2.2.2.2.1 s.2.2.2.2.2.2.2.1 s.2.2.2.2.2.2.2.2 ∧
  (∀ x, x < 4 → s.2.2.2.2.2.2.1 x = ctB (rowP pg s.1 x) 7) ∧ (∀ x p p', x < 4 → 1 ≤ p → p ≤ s.2.2.2.2.2.2.1 x → 1 ≤ p' → p' ≤ s.2.2.2.2.2.2.1 x → sr9 s x p = sr9 s x p' → p = p') ∧
  (∀ b, s.1.testBit b = true → 1 ≤ pg 4 b → pg 4 b ≤ 4 → ∃ p, 1 ≤ p ∧ p ≤ s.2.2.2.2.2.2.1 (rowN pg b) ∧ sr9 s (rowN pg b) p = b + 1) ∧
  s.2.2.2.2.2.2.2.2 0 = 0 ∧ (∀ t b, t < T → (s.2.2.2.2.2.2.2.1 t).testBit b = true → s.1.testBit b = true) ∧ (∀ q b, wrT pg s.1 q → (s.2.2.2.2.2.2.2.2 q).testBit b = true → s.1.testBit b = true) ∧
  (∀ b, s.1.testBit b = true → 1 ≤ pg 4 b → pg 4 b ≤ 4 → (s.2.2.2.2.2.2.2.1 (pg 2 b)).testBit b = true) ∧ (∀ x p, x < 4 → 1 ≤ p → p ≤ s.2.2.2.2.2.2.1 x → kq s (s.2.2.2.2.2.2.2.2 (sr9 s x p)) x = p) ∧
  (∀ t, t < T → s.2.2.2.2.2.2.2.1 t = oM pg s.1 s.2.1 s.2.2.2.2.2.2.2.2 t 7) ∧ (∀ a, s.1.testBit a = true → 1 ≤ pg 4 a → pg 4 a ≤ 4 → s.2.2.2.2.2.2.2.2 (a + 1) = oM pg s.1 s.2.1 s.2.2.2.2.2.2.2.2 (pg 2 a) (a + 1)) ∧
  (∀ x p p', x < 4 → 1 ≤ p → p < p' → p' ≤ s.2.2.2.2.2.2.1 x → pg 2 (sr9 s x p - 1) = pg 2 (sr9 s x p' - 1) → sr9 s x p < sr9 s x p') ∧
  (∀ x p, x < 4 → 1 ≤ p → p ≤ s.2.2.2.2.2.2.1 x → (pg 4 (sr9 s x p - 1) = 3 ∨ pg 4 (sr9 s x p - 1) = 4) → sA s.2.1 (sr9 s x p - 1) = sr9 s x (p - 1)) ∧
  (∀ a, a < 7 → (pg 4 a = 1 ∨ pg 4 a = 2 ∨ pg 4 a = 5) → sA s.2.1 a = 0) ∧
  ∃ (ps : Nat → Nat) (N : Nat), (∀ a, s.1.testBit a = true → ps a < N) ∧ (∀ a b, s.1.testBit a = true → s.1.testBit b = true → pg 2 a = pg 2 b → a < b → ps a < ps b) ∧ (∀ a, s.1.testBit a = true → sA s.2.1 a ≠ 0 → wrT pg s.1 (sA s.2.1 a) ∧ ps (sA s.2.1 a - 1) < ps a)
theorem ctB_set {p p' : Nat → Bool} {a : Nat} (h1 : ∀ b, b ≠ a → p' b = p b) (h2 : p a = false) (h3 : p' a = true) : ∀ n, ctB p' n = ctB p n + if a < n then 1 else 0
  | 0 => by rw [if_neg (Nat.not_lt_zero a)]; rfl
  | n + 1 => by
    unfold ctB
    rw [ctB_set h1 h2 h3 n]
    by_cases e : n = a
    · rw [e, h2, h3, if_neg (Nat.lt_irrefl a), if_pos rfl, if_neg Bool.false_ne_true, if_pos (Nat.lt_succ_self a)]
    · rw [h1 n e]
      by_cases q : a < n
      · rw [if_pos q, if_pos (show a < n + 1 from by omega)]; omega
      · rw [if_neg q, if_neg (show ¬ a < n + 1 from by omega)]; omega
theorem ctB_cg9 {p q : Nat → Bool} (h : ∀ b, p b = q b) (n : Nat) : ctB p n = ctB q n := by rw [show p = q from funext h]
section IVQ
variable {T Ac : Nat} {pg : Nat → Nat → Nat} {nm : Nat → Int32} {zs kd vx rr : Nat → Nat} {vv : Nat → Int32} {s : S9K}
def s09 : S9K := (0, 0, fun _ => 0, fun _ => 0, fun _ => 0, fun _ => 0, fun _ => 0, fun _ => 0, fun _ => 0)
theorem IvQ_0 : IvQ T Ac pg nm s09 := by
  have hn : ∀ {P : Prop} a, Nat.testBit 0 a = true → P := fun a h => by rw [Nat.zero_testBit] at h; exact absurd h Bool.false_ne_true
  refine ⟨PgI_0, ⟨by decide, fun t _ => Nat.zero_le _, fun a ha _ => srcU_0 a ha, fun t q _ _ _ => Nat.zero_testBit _, fun x _ => ⟨Nat.zero_le _, by show 0 < 8 ^ 0; decide⟩, fun x p _ h1 h2 => absurd h2 (by show ¬ p ≤ 0; omega), fun t => by show 0 < 128; decide, fun q => by show 0 < 128; decide, Nat.zero_le _⟩,
    fun x _ => ?_, fun x p p' _ h1 h2 => absurd h2 (by show ¬ p ≤ 0; omega), fun b h => hn b h, rfl, fun t b _ h => hn b h, fun q b _ h => hn b h, fun b h => hn b h, fun x p _ h1 h2 => absurd h2 (by show ¬ p ≤ 0; omega), fun t _ => ?_, fun a h => hn a h, fun x p p' _ h1 h2 h3 => absurd h3 (by show ¬ p' ≤ 0; omega), fun x p _ h1 h2 => absurd h2 (by show ¬ p ≤ 0; omega), fun a _ _ => ?_, fun _ => 0, 0, fun a h => hn a h, fun a b h => hn a h, fun a h => hn a h⟩
  · show 0 = ctB (rowP pg 0 x) 7
    have : ∀ n, ctB (rowP pg 0 x) n = 0 := fun n => by
      induction n with
      | zero => rfl
      | succ n ih => unfold ctB; rw [ih]; unfold rowP; rw [Nat.zero_testBit, Bool.false_and, if_neg Bool.false_ne_true]
    rw [this]
  · show 0 = oM pg 0 0 (fun _ => 0) t 7
    have : ∀ n, oM pg 0 0 (fun _ => 0) t n = 0 := fun n => by
      induction n with
      | zero => rfl
      | succ n ih => unfold oM; rw [if_neg (fun q => by rw [Nat.zero_testBit] at q; exact Bool.false_ne_true q.1)]; exact ih
    rw [this]
  · show sn 0 / 8 ^ a % 8 = 0
    rw [show sn 0 = 0 from rfl, Nat.zero_div]
end IVQ
