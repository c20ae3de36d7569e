/-- one program on both sides -/
def PX (T Ac : Nat) (pg : Nat → Nat → Nat) (nm : Nat → Int32) (zs kd vx rr : Nat → Nat) (vv : Nat → Int32) : Prop :=
  PgOk T Ac pg ∧ PrR T zs kd vx rr vv ∧ (∀ t, t < T → zs t = pg 0 t) ∧
  (∀ t q, t < T → q < pg 0 t → kd (7 * t + q) = pg 4 (pg 1 (t * 7 + q)) ∧ vx (7 * t + q) = pg 5 (pg 1 (t * 7 + q)) ∧ pg 6 (pg 1 (t * 7 + q)) = 2 * t + rr (7 * t + q) ∧ vv (7 * t + q) = nm (pg 1 (t * 7 + q))) ∧
  (∀ t q q', t < T → q < q' → q' < pg 0 t → pg 1 (t * 7 + q) < pg 1 (t * 7 + q')) ∧
  (∀ a, a < Ac → pg 3 a < pg 0 (pg 2 a) ∧ pg 1 (pg 2 a * 7 + pg 3 a) = a)
def sn (so : Int64) : Nat := so.toInt.toNat
def sA (so : Int64) (a : Nat) : Nat := sn so / 8 ^ a % 8
theorem sn_lN {n : Nat} (h : n < 2 ^ 63) : sn (lN n) = n := by
  unfold sn; rw [show (lN n).toInt = (n : Int) from lg_ofNat_toInt h]; rfl
theorem or_dig0 {k h0 l q : Nat} (hl : l < 2 ^ k) (hq : q < 8) : (2 ^ (k + 3) * h0 + l) ||| (2 ^ k * q) = 2 ^ (k + 3) * h0 + l + 2 ^ k * q := by
  have h8 : 2 ^ (k + 3) = 2 ^ k * 8 := Nat.pow_add 2 k 3
  have hq2 : 2 ^ k * q + 2 ^ k ≤ 2 ^ k * 8 := by rw [← Nat.mul_succ]; exact Nat.mul_le_mul_left _ hq
  have a1 : 2 ^ (k + 3) * h0 + l = 2 ^ (k + 3) * h0 ||| l := Nat.two_pow_add_eq_or_of_lt (by omega) h0
  have a2 : 2 ^ k * q + l = 2 ^ k * q ||| l := Nat.two_pow_add_eq_or_of_lt hl q
  have a3 : 2 ^ (k + 3) * h0 + (2 ^ k * q + l) = 2 ^ (k + 3) * h0 ||| (2 ^ k * q + l) := Nat.two_pow_add_eq_or_of_lt (by omega) h0
  rw [a1, Nat.or_assoc, Nat.or_comm l, ← a2, ← a3]
  rw [← a1]; omega
theorem or_dig {n q k : Nat} (hq : q < 8) (h : n / 2 ^ k % 8 = 0) : n ||| (2 ^ k * q) = n + 2 ^ k * q := by
  have e1 : n % 2 ^ (k + 3) = n % 2 ^ k := by
    rw [Nat.pow_add, show 2 ^ 3 = 8 from rfl, Nat.mod_mul, h, Nat.mul_zero, Nat.add_zero]
  have e : 2 ^ (k + 3) * (n / 2 ^ (k + 3)) + n % 2 ^ k = n := by rw [← e1]; exact Nat.div_add_mod _ _
  have := or_dig0 (k := k) (h0 := n / 2 ^ (k + 3)) (l := n % 2 ^ k) (q := q) (Nat.mod_lt _ (Nat.two_pow_pos k)) hq
  rw [e] at this
  exact this
theorem lN_orN {x y : Nat} (hx : x < 2 ^ 63) (hy : y < 2 ^ 63) : lN x ||| lN y = lN (x ||| y) := by
  have := Nat.or_lt_two_pow hx hy
  refine Int64.toBitVec_inj.mp ?_
  rw [Int64.toBitVec_or, lN_bv, lN_bv, lN_bv]
  refine BitVec.eq_of_toNat_eq ?_
  rw [BitVec.toNat_or, BitVec.toNat_ofNat, BitVec.toNat_ofNat, BitVec.toNat_ofNat, Nat.mod_eq_of_lt (by omega), Nat.mod_eq_of_lt (by omega), Nat.mod_eq_of_lt (by omega)]
theorem lN_shl {n k : Nat} (hn : n < 2 ^ 63) (hk : k < 64) : lN n <<< ((nI k).toInt64 &&& 63) = lN (n * 2 ^ k) := by
  refine Int64.toBitVec_inj.mp ?_
  rw [Int64.toBitVec_shiftLeft, sh64 k hk, lN_bv, lN_bv, BitVec.shiftLeft_eq']
  refine BitVec.eq_of_toNat_eq ?_
  rw [BitVec.toNat_shiftLeft, BitVec.toNat_ofNat, BitVec.toNat_ofNat, BitVec.toNat_ofNat, Nat.shiftLeft_eq, Nat.mod_eq_of_lt (by omega : n < 2 ^ 64), Nat.mod_eq_of_lt (by omega : k < 2 ^ 64)]
theorem p8 (a : Nat) : 2 ^ (3 * a) = 8 ^ a := by rw [Nat.pow_mul]
theorem p8_le : ∀ a, a < 7 → 8 ^ a ≤ 262144 := by decide
theorem sN_P {so : Int64} {q a : Nat} (h1 : so = lN (sn so)) (h2 : sn so < 2 ^ 21) (h3 : sA so a = 0) (hq : q < 8) (ha : a < 7) : srcP so q a = lN (sn so + 8 ^ a * q) := by
  unfold srcP
  have hp := p8_le a ha
  have hm : 8 ^ a * q ≤ 262144 * 8 := Nat.mul_le_mul hp (by omega)
  rw [nI_l (by omega : q < 2 ^ 31), lN_shl (n := q) (by omega) (by omega : 3 * a < 64), Nat.mul_comm q, p8]
  have e := or_dig (n := sn so) (q := q) (k := 3 * a) hq (by rw [p8]; exact h3)
  rw [p8] at e
  conv => lhs; rw [h1]
  rw [lN_orN (by omega) (by omega), e]
theorem dig_add {n q a b : Nat} (hq : q < 8) (ha : a < 7) (hb : b < 7) (h : n / 8 ^ a % 8 = 0) : (n + 8 ^ a * q) / 8 ^ b % 8 = if b = a then q else n / 8 ^ b % 8 := by
  rcases (by omega : a = 0 ∨ a = 1 ∨ a = 2 ∨ a = 3 ∨ a = 4 ∨ a = 5 ∨ a = 6) with e | e | e | e | e | e | e <;> subst e <;>
    rcases (by omega : b = 0 ∨ b = 1 ∨ b = 2 ∨ b = 3 ∨ b = 4 ∨ b = 5 ∨ b = 6) with e | e | e | e | e | e | e <;> subst e <;> simp only [Nat.reducePow, Nat.reduceEqDiff, if_true, if_false, reduceIte] at h ⊢ <;> omega
theorem dig_lt {n q a : Nat} (hq : q < 8) (ha : a < 7) (hn : n < 2 ^ 21) (h : n / 8 ^ a % 8 = 0) : n + 8 ^ a * q < 2 ^ 21 := by
  rcases (by omega : a = 0 ∨ a = 1 ∨ a = 2 ∨ a = 3 ∨ a = 4 ∨ a = 5 ∨ a = 6) with e | e | e | e | e | e | e <;> subst e <;> simp only [Nat.reducePow] at h hn ⊢ <;> omega
theorem sA_P {so : Int64} {q a : Nat} (h1 : so = lN (sn so)) (h2 : sn so < 2 ^ 21) (h3 : sA so a = 0) (hq : q < 8) (ha : a < 7) :
    (∀ b, b < 7 → sA (srcP so q a) b = if b = a then q else sA so b) ∧ srcP so q a = lN (sn (srcP so q a)) ∧ sn (srcP so q a) < 2 ^ 21 := by
  have hd := dig_lt hq ha h2 h3
  have e := sN_P h1 h2 h3 hq ha
  have e2 : sn (srcP so q a) = sn so + 8 ^ a * q := by rw [e]; exact sn_lN (by omega)
  refine ⟨fun b hb => ?_, by rw [e2]; exact e, by rw [e2]; exact hd⟩
  unfold sA
  rw [e2]
  exact dig_add hq ha hb h3
/-- the last one below n that keeps p, and one more -/
def laP (p : Nat → Bool) : Nat → Nat
  | 0 => 0
  | n + 1 => if p n = true then n + 1 else laP p n
theorem laP_in {p : Nat → Bool} : ∀ n, laP p n ≠ 0 → laP p n - 1 < n ∧ p (laP p n - 1) = true
  | 0, h => absurd rfl h
  | n + 1, h => by
    unfold laP at h ⊢
    by_cases c : p n = true
    · rw [if_pos c]; exact ⟨Nat.lt_succ_self n, c⟩
    · rw [if_neg c] at h ⊢
      obtain ⟨a, b⟩ := laP_in n h
      exact ⟨by omega, b⟩
theorem laP_set {p p' : Nat → Bool} {a : Nat} (h1 : ∀ b, b ≠ a → p' b = p b) (h2 : ∀ b, p b = true → b < a) : ∀ n, laP p' n = if a < n ∧ p' a = true then a + 1 else laP p n
  | 0 => by rw [if_neg (by omega)]; rfl
  | n + 1 => by
    unfold laP
    by_cases e : n = a
    · rw [e]
      by_cases c : p' a = true
      · rw [if_pos c, if_pos ⟨Nat.lt_succ_self a, c⟩]
      · rw [if_neg c, if_neg (fun q => c q.2), if_neg (fun q => absurd (h2 a q) (Nat.lt_irrefl a)), laP_set h1 h2 a, if_neg (fun q => absurd q.1 (Nat.lt_irrefl a))]
    · rw [h1 n e, laP_set h1 h2 n]
      by_cases c : p n = true
      · have := h2 n c
        rw [if_pos c, if_pos c, if_neg (fun q => absurd q.1 (by omega))]
      · rw [if_neg c, if_neg c]
        by_cases d : a < n ∧ p' a = true
        · rw [if_pos d, if_pos ⟨by omega, d.2⟩]
        · rw [if_neg d, if_neg (fun q => d ⟨by omega, q.2⟩)]
theorem laP_up {p : Nat → Bool} {a : Nat} (h : ∀ b, p b = true → b < a) : ∀ n, a ≤ n → laP p n = laP p a
  | 0, q => by rw [(by omega : a = 0)]
  | n + 1, q => by
    by_cases e : a = n + 1
    · rw [e]
    · rw [laP, if_neg (fun c => absurd (h n c) (by omega)), laP_up h n (by omega)]
theorem laP_cg {p q : Nat → Bool} (h : ∀ b, p b = q b) (n : Nat) : laP p n = laP q n := by rw [show p = q from funext h]
def tkP (pg : Nat → Nat → Nat) (dn k b : Nat) : Bool := dn.testBit b && (decide (pg 6 b = k) && decide (pg 4 b = 0 ∨ pg 4 b = 3))
def thP (pg : Nat → Nat → Nat) (dn t b : Nat) : Bool := dn.testBit b && decide (pg 2 b = t)
/-- a register's value before a -/
def rgV (pg : Nat → Nat → Nat) (dn : Nat) (so : Int64) (cv : Nat → Int32) (k a : Nat) : Int32 := if laP (tkP pg dn k) a = 0 then 0 else cv (sA so (laP (tkP pg dn k) a - 1))
/-- a thread's place -/
def plV (pg : Nat → Nat → Nat) (nm : Nat → Int32) (dn : Nat) (rg : Nat → Int32) (t : Nat) : Nat := if laP (thP pg dn t) 7 = 0 then 0 else pg 3 (laP (thP pg dn t) 7 - 1) + psP (pg 4 (laP (thP pg dn t) 7 - 1)) (rg (pg 6 (laP (thP pg dn t) 7 - 1))) (nm (laP (thP pg dn t) 7 - 1)) (pg 5 (laP (thP pg dn t) 7 - 1))
/-- what has been done tells the registers, the values and the places -/
def PgI (T Ac : Nat) (pg : Nat → Nat → Nat) (nm : Nat → Int32) (dn : Nat) (so : Int64) (pl : Nat → Nat) (rg cv : Nat → Int32) : Prop :=
  dn < 128 ∧ (∀ a, dn.testBit a = true → a < Ac ∧ pg 3 a < pl (pg 2 a)) ∧ (∀ t q, t < T → pl t ≤ q → q < pg 0 t → dn.testBit (pg 1 (t * 7 + q)) = false) ∧
  so = lN (sn so) ∧ sn so < 2 ^ 21 ∧ (∀ a, a < 7 → dn.testBit a = false → sA so a = 0) ∧ cv 0 = 0 ∧
  (∀ a, dn.testBit a = true → pg 4 a = 0 ∨ pg 4 a = 3 → wr pg dn (sA so a)) ∧
  (∀ a, dn.testBit a = true → (pg 4 a = 1 → cv (a + 1) = nm a) ∧ (pg 4 a = 2 → cv (a + 1) = rgV pg dn so cv (pg 6 a) a + nm a) ∧ (pg 4 a = 3 → cv (a + 1) = cv (sA so a) + nm a)) ∧
  (∀ k, k < 8 → rg k = rgV pg dn so cv k 7) ∧ (∀ t, t < T → pl t = plV pg nm dn rg t) ∧
  ∃ (ps : Nat → Nat) (N : Nat), (∀ a, dn.testBit a = true → ps a < N) ∧ (∀ a b, dn.testBit a = true → dn.testBit b = true → pg 2 a = pg 2 b → a < b → ps a < ps b) ∧ (∀ a, dn.testBit a = true → (pg 4 a = 0 ∨ pg 4 a = 3) → sA so a ≠ 0 → ps (sA so a - 1) < ps a)
section PGI
variable {T Ac : Nat} {pg : Nat → Nat → Nat} {nm : Nat → Int32} {zs kd vx rr : Nat → Nat} {vv : Nat → Int32} {dn : Nat} {so : Int64} {pl : Nat → Nat} {rg cv : Nat → Int32}
theorem px_cell (hX : PX T Ac pg nm zs kd vx rr vv) {a : Nat} (ha : a < Ac) : ∃ r, r < 2 ∧ pg 6 a = 2 * pg 2 a + r := by
  obtain ⟨hP, hR, x1, x2, x3, x4⟩ := hX
  obtain ⟨p1, p2, p3, p4, p5, -⟩ := hP
  obtain ⟨q1, q2⟩ := x4 a ha
  have ht := (p5 a ha).1
  obtain ⟨-, -, e, -⟩ := x2 (pg 2 a) (pg 3 a) ht q1
  rw [q2] at e
  have h7 := p3 _ ht
  exact ⟨_, (hR.2.2.2 (7 * pg 2 a + pg 3 a) (by omega)).2.2.1, e⟩
theorem px_next (hX : PX T Ac pg nm zs kd vx rr vv) (hI : PgI T Ac pg nm dn so pl rg cv) {t a : Nat} (ht : t < T) (hq : pl t < pg 0 t) (ha : a = pg 1 (t * 7 + pl t)) :
    a < 7 ∧ a < Ac ∧ pg 2 a = t ∧ pg 3 a = pl t ∧ dn.testBit a = false ∧ ∀ b, dn.testBit b = true → pg 2 b = t → b < a := by
  obtain ⟨hP, hR, x1, x2, x3, x4⟩ := hX
  obtain ⟨p1, p2, p3, p4, p5, -⟩ := hP
  obtain ⟨b1, b2, b3⟩ := p4 t _ ht hq
  rw [ha]
  refine ⟨by omega, b1, b2, b3, hI.2.2.1 t _ ht (Nat.le_refl _) hq, fun b hb e => ?_⟩
  obtain ⟨c1, c2⟩ := hI.2.1 b hb
  rw [e] at c2
  obtain ⟨d1, d2⟩ := x4 b c1
  rw [e] at d2
  rw [← d2]
  exact x3 t _ _ ht c2 hq
theorem PgI_0 : PgI T Ac pg nm 0 0 (fun _ => 0) (fun _ => 0) (fun _ => 0) := by
  have h0 : ∀ a, Nat.testBit 0 a = false := fun a => Nat.zero_testBit a
  have hn : ∀ {P : Prop} a, Nat.testBit 0 a = true → P := fun a h => by rw [h0 a] at h; exact absurd h Bool.false_ne_true
  have hl : ∀ (p : Nat → Bool), (∀ b, p b = false) → ∀ n, laP p n = 0 := fun p h n => by
    induction n with
    | zero => rfl
    | succ n ih => rw [laP, if_neg (by rw [h n]; exact Bool.false_ne_true)]; exact ih
  refine ⟨by decide, fun a h => hn a h, fun t q _ _ _ => h0 _, rfl, by decide, fun a _ _ => ?_, rfl, fun a h => hn a h, fun a h => hn a h, fun k _ => ?_, fun t _ => ?_, fun _ => 0, 0, fun a h => hn a h, fun a b h => hn a h, fun a h => hn a h⟩
  · unfold sA; rw [show sn 0 = 0 from rfl, Nat.zero_div]
  · unfold rgV; rw [hl _ (fun b => by unfold tkP; rw [h0, Bool.false_and]), if_pos rfl]
  · unfold plV; rw [hl _ (fun b => by unfold thP; rw [h0, Bool.false_and]), if_pos rfl]
end PGI
