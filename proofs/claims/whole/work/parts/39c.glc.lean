/-- a way of n + 1 steps -/
def way9 (E : Nat → Nat → Prop) : Nat → Nat → Nat → Prop
  | 0, a, b => E a b
  | n + 1, a, b => ∃ c, E a c ∧ way9 E n c b
def con9 (E : Nat → Nat → Prop) (a b : Nat) : Prop := ∃ n, way9 E n a b
def rng9 (E : Nat → Nat → Prop) : Prop := ∃ a, con9 E a a
/-- there by one, back by the other -/
def bck9 (E D : Nat → Nat → Prop) : Prop := ∃ a b, con9 E a b ∧ con9 D b a
def imR9 (f : Nat → Nat) (E : Nat → Nat → Prop) (x y : Nat) : Prop := ∃ a b, E a b ∧ f a = x ∧ f b = y
theorem way_app {E : Nat → Nat → Prop} {c b : Nat} : ∀ n m a, way9 E n a c → way9 E m c b → way9 E (n + m + 1) a b
  | 0, m, a, h1, h2 => by rw [Nat.zero_add]; exact ⟨c, h1, h2⟩
  | n + 1, m, a, ⟨d, h3, h4⟩, h2 => by
    rw [show n + 1 + m + 1 = (n + m + 1) + 1 from by omega]
    exact ⟨d, h3, way_app n m d h4 h2⟩
theorem con_tr9 {E : Nat → Nat → Prop} {a b c : Nat} (h1 : con9 E a b) (h2 : con9 E b c) : con9 E a c := by
  obtain ⟨n, h1⟩ := h1
  obtain ⟨m, h2⟩ := h2
  exact ⟨_, way_app n m a h1 h2⟩
theorem con_1 {E : Nat → Nat → Prop} {a b : Nat} (h : E a b) : con9 E a b := ⟨0, h⟩
theorem way_mo {E D : Nat → Nat → Prop} (h : ∀ a b, E a b → con9 D a b) : ∀ n a b, way9 E n a b → con9 D a b
  | 0, a, b, w => h a b w
  | n + 1, a, b, ⟨c, w1, w2⟩ => con_tr9 (h a c w1) (way_mo h n c b w2)
theorem con_mo {E D : Nat → Nat → Prop} (h : ∀ a b, E a b → con9 D a b) {a b : Nat} (w : con9 E a b) : con9 D a b := by
  obtain ⟨n, w⟩ := w
  exact way_mo h n a b w
theorem rng_mo {E D : Nat → Nat → Prop} (h : ∀ a b, E a b → con9 D a b) (w : rng9 E) : rng9 D := by
  obtain ⟨a, w⟩ := w
  exact ⟨a, con_mo h w⟩
theorem rng_cg {E D : Nat → Nat → Prop} (h : ∀ a b, E a b ↔ D a b) : rng9 E ↔ rng9 D :=
  ⟨rng_mo (fun a b w => con_1 ((h a b).mp w)), rng_mo (fun a b w => con_1 ((h a b).mpr w))⟩
theorem bck_cg {E E2 D D2 : Nat → Nat → Prop} (h : ∀ a b, E a b ↔ E2 a b) (k : ∀ a b, D a b ↔ D2 a b) : bck9 E D ↔ bck9 E2 D2 :=
  ⟨fun ⟨a, b, w1, w2⟩ => ⟨a, b, con_mo (fun a b w => con_1 ((h a b).mp w)) w1, con_mo (fun a b w => con_1 ((k a b).mp w)) w2⟩,
   fun ⟨a, b, w1, w2⟩ => ⟨a, b, con_mo (fun a b w => con_1 ((h a b).mpr w)) w1, con_mo (fun a b w => con_1 ((k a b).mpr w)) w2⟩⟩
/-- the other way round -/
theorem con_rev {E : Nat → Nat → Prop} {a b : Nat} (w : con9 E a b) : con9 (fun x y => E y x) b a := by
  obtain ⟨n, w⟩ := w
  have h : ∀ n a b, way9 E n a b → con9 (fun x y => E y x) b a := by
    intro n
    induction n with
    | zero => intro a b w; exact ⟨0, w⟩
    | succ n ih => rintro a b ⟨c, w1, w2⟩; exact con_tr9 (ih c b w2) ⟨0, w1⟩
  exact h n a b w
theorem rng_rev {E : Nat → Nat → Prop} : rng9 E ↔ rng9 (fun x y => E y x) :=
  ⟨fun ⟨a, w⟩ => ⟨a, con_rev w⟩, fun ⟨a, w⟩ => ⟨a, con_rev w⟩⟩
theorem way_end {E : Nat → Nat → Prop} {P : Nat → Prop} (h : ∀ a b, E a b → P a ∧ P b) : ∀ n a b, way9 E n a b → P a ∧ P b
  | 0, a, b, w => h a b w
  | n + 1, a, b, ⟨c, w1, w2⟩ => ⟨(h a c w1).1, (way_end h n c b w2).2⟩
theorem way_im {f : Nat → Nat} {E : Nat → Nat → Prop} {P : Nat → Prop} (h : ∀ a b, E a b → P a ∧ P b) (hi : ∀ a b, P a → P b → f a = f b → a = b) : ∀ n x y, way9 (imR9 f E) n x y ↔ ∃ a b, way9 E n a b ∧ f a = x ∧ f b = y
  | 0, x, y => Iff.rfl
  | n + 1, x, y => by
    constructor
    · rintro ⟨z, ⟨a, b, w1, w2, w3⟩, w⟩
      obtain ⟨c, d, v1, v2, v3⟩ := (way_im h hi n z y).mp w
      have e : b = c := hi b c (h a b w1).2 (way_end h n c d v1).1 (w3.trans v2.symm)
      exact ⟨a, d, ⟨b, w1, by rw [e]; exact v1⟩, w2, v3⟩
    · rintro ⟨a, b, ⟨c, w1, w2⟩, w3, w4⟩
      exact ⟨f c, ⟨a, c, w1, w3, rfl⟩, (way_im h hi n (f c) y).mpr ⟨c, b, w2, rfl, w4⟩⟩
theorem con_im {f : Nat → Nat} {E : Nat → Nat → Prop} {P : Nat → Prop} (h : ∀ a b, E a b → P a ∧ P b) (hi : ∀ a b, P a → P b → f a = f b → a = b) {x y : Nat} : con9 (imR9 f E) x y ↔ ∃ a b, con9 E a b ∧ f a = x ∧ f b = y :=
  ⟨fun ⟨n, w⟩ => by obtain ⟨a, b, w1, w2⟩ := (way_im h hi n x y).mp w; exact ⟨a, b, ⟨n, w1⟩, w2⟩, fun ⟨a, b, ⟨n, w1⟩, w2⟩ => ⟨n, (way_im h hi n x y).mpr ⟨a, b, w1, w2⟩⟩⟩
theorem con_end {E : Nat → Nat → Prop} {P : Nat → Prop} (h : ∀ a b, E a b → P a ∧ P b) {a b : Nat} (w : con9 E a b) : P a ∧ P b := by
  obtain ⟨n, w⟩ := w
  exact way_end h n a b w
theorem rng_im {f : Nat → Nat} {E : Nat → Nat → Prop} {P : Nat → Prop} (h : ∀ a b, E a b → P a ∧ P b) (hi : ∀ a b, P a → P b → f a = f b → a = b) : rng9 (imR9 f E) ↔ rng9 E := by
  constructor
  · rintro ⟨x, w⟩
    obtain ⟨a, b, w1, w2, w3⟩ := (con_im h hi).mp w
    obtain ⟨p1, p2⟩ := con_end h w1
    have e := hi a b p1 p2 (w2.trans w3.symm)
    exact ⟨a, by rw [← e] at w1; exact w1⟩
  · rintro ⟨a, w⟩
    exact ⟨f a, (con_im h hi).mpr ⟨a, a, w, rfl, rfl⟩⟩
theorem bck_im {f : Nat → Nat} {E D : Nat → Nat → Prop} {P : Nat → Prop} (h : ∀ a b, E a b → P a ∧ P b) (k : ∀ a b, D a b → P a ∧ P b) (hi : ∀ a b, P a → P b → f a = f b → a = b) : bck9 (imR9 f E) (imR9 f D) ↔ bck9 E D := by
  constructor
  · rintro ⟨x, y, w, v⟩
    obtain ⟨a, b, w1, w2, w3⟩ := (con_im h hi).mp w
    obtain ⟨c, d, v1, v2, v3⟩ := (con_im k hi).mp v
    obtain ⟨p1, p2⟩ := con_end h w1
    obtain ⟨q1, q2⟩ := con_end k v1
    have e1 := hi a d p1 q2 (w2.trans v3.symm)
    have e2 := hi b c p2 q1 (w3.trans v2.symm)
    exact ⟨a, b, w1, by rw [e1, e2]; exact v1⟩
  · rintro ⟨a, b, w, v⟩
    exact ⟨f a, f b, (con_im h hi).mpr ⟨a, b, w, rfl, rfl⟩, (con_im k hi).mpr ⟨b, a, v, rfl, rfl⟩⟩
/-- masks that tell a relation -/
def msk9 (f : Nat → Nat) (N : Nat) (E : Nat → Nat → Prop) : Prop := (∀ i j, E i j → i < N ∧ j < N) ∧ ∀ i j, i < N → j < N → ((f i).testBit j = true ↔ E i j)
theorem pth_way {f : Nat → Nat} {N : Nat} {E : Nat → Nat → Prop} (h : msk9 f N E) : ∀ n a b, a < N → b < N → (pth f N n a b ↔ way9 E n a b)
  | 0, a, b, ha, hb => h.2 a b ha hb
  | n + 1, a, b, ha, hb => by
    constructor
    · rintro ⟨c, hc, w1, w2⟩
      exact ⟨c, (h.2 a c ha hc).mp w1, (pth_way h n c b hc hb).mp w2⟩
    · rintro ⟨c, w1, w2⟩
      have hc := (h.1 a c w1).2
      exact ⟨c, hc, (h.2 a c ha hc).mpr w1, (pth_way h n c b hc hb).mpr w2⟩
theorem conn_con {f : Nat → Nat} {N : Nat} {E : Nat → Nat → Prop} (h : msk9 f N E) {a b : Nat} (ha : a < N) (hb : b < N) : conn f N a b ↔ con9 E a b :=
  ⟨fun ⟨n, w⟩ => ⟨n, (pth_way h n a b ha hb).mp w⟩, fun ⟨n, w⟩ => ⟨n, (pth_way h n a b ha hb).mpr w⟩⟩
theorem rngP_9 {f : Nat → Nat} {N : Nat} {E : Nat → Nat → Prop} (h : msk9 f N E) : rngP N f ↔ rng9 E := by
  rw [rngP_conn]
  constructor
  · rintro ⟨i, hi, w⟩; exact ⟨i, (conn_con h hi hi).mp w⟩
  · rintro ⟨i, w⟩
    have hi := (con_end h.1 w).1
    exact ⟨i, hi, (conn_con h hi hi).mpr w⟩
theorem kbkP_9 {f g : Nat → Nat} {N : Nat} {E D : Nat → Nat → Prop} (h : msk9 f N E) (k : msk9 g N D) : kbkP N f g ↔ bck9 E D := by
  rw [kbkP_conn]
  constructor
  · rintro ⟨a, b, ha, hb, w, v⟩; exact ⟨a, b, (conn_con h ha hb).mp w, (conn_con k hb ha).mp v⟩
  · rintro ⟨a, b, w, v⟩
    obtain ⟨ha, hb⟩ := con_end h.1 w
    exact ⟨a, b, ha, hb, (conn_con h ha hb).mpr w, (conn_con k hb ha).mpr v⟩
theorem msk_or {f g : Nat → Nat} {N : Nat} {E D : Nat → Nat → Prop} (h : msk9 f N E) (k : msk9 g N D) : msk9 (fun i => f i ||| g i) N (fun a b => E a b ∨ D a b) :=
  ⟨fun i j w => w.elim (h.1 i j) (k.1 i j), fun i j hi hj => by rw [Nat.testBit_or, Bool.or_eq_true, h.2 i j hi hj, k.2 i j hi hj]⟩
theorem msk_cg {f : Nat → Nat} {N : Nat} {E D : Nat → Nat → Prop} (h : msk9 f N E) (e : ∀ a b, E a b ↔ D a b) : msk9 f N D :=
  ⟨fun i j w => h.1 i j ((e i j).mpr w), fun i j hi hj => (h.2 i j hi hj).trans (e i j)⟩
/-- the class's test: nothing is left of am = no ring in am -/
theorem itR_9 {f h : Nat → Nat} {Ac am : Nat} (hA : Ac ≤ 7) (hm : am < 128) (hb : ∀ a, am.testBit a = true → a < Ac) {E : Nat → Nat → Prop} (h1 : ∀ a b, E a b → am.testBit a = true ∧ am.testBit b = true) (h2 : ∀ a b, am.testBit a = true → am.testBit b = true → ((f b ||| h b).testBit a = true ↔ E a b)) : itR f h Ac 7 am = 0 ↔ ¬ rng9 E := by
  have hF : msk9 (fun b => if am.testBit b = true then (f b ||| h b) &&& am else 0) 7 (fun x y => E y x) := by
    refine ⟨fun i j w => ?_, fun i j hi hj => ?_⟩
    · obtain ⟨w1, w2⟩ := h1 j i w
      exact ⟨bit_hi hm w2, bit_hi hm w1⟩
    · show (if am.testBit i = true then (f i ||| h i) &&& am else 0).testBit j = true ↔ E j i
      by_cases c : am.testBit i = true
      · rw [if_pos c, Nat.testBit_and, Bool.and_eq_true]
        constructor
        · rintro ⟨w1, w2⟩; exact (h2 j i w2 c).mp w1
        · intro w; exact ⟨(h2 j i (h1 j i w).1 c).mpr w, (h1 j i w).1⟩
      · rw [if_neg c, Nat.zero_testBit]
        exact ⟨fun w => absurd w Bool.false_ne_true, fun w => absurd (h1 j i w).2 c⟩
  have hr : rng9 E ↔ ∃ i, i < 7 ∧ conn (fun b => if am.testBit b = true then (f b ||| h b) &&& am else 0) 7 i i := by
    rw [rng_rev, ← rngP_9 hF, rngP_conn]
  rw [hr, ← set_ring]
  have hi := itR_iff (f := f) (h := h) hA hm hb
  constructor
  · intro z ⟨S, s1, s2, s3⟩
    refine hi.mpr ⟨S, s1, s2, fun a ha => ?_, fun a ha => ?_⟩ z
    · have := s3 a ha
      by_cases c : am.testBit a = true
      · exact c
      · rw [if_neg c, Nat.zero_and] at this; exact absurd rfl this
    · have := s3 a ha
      by_cases c : am.testBit a = true
      · rw [if_pos c] at this
        intro w
        apply this
        rw [Nat.and_assoc, Nat.and_comm am S, ← Nat.and_assoc, w, Nat.zero_and]
      · rw [if_neg c, Nat.zero_and] at this; exact absurd rfl this
  · intro z
    refine Classical.byContradiction fun w => z ?_
    obtain ⟨S, s1, s2, s3, s4⟩ := hi.mp w
    refine ⟨S, s1, s2, fun a ha => ?_⟩
    rw [if_pos (s3 a ha)]
    intro v
    apply s4 a ha
    have e : am &&& S = S := by
      refine Nat.eq_of_testBit_eq (fun i => ?_)
      rw [Nat.testBit_and]
      cases q : S.testBit i with
      | true => rw [s3 i q]; rfl
      | false => rw [Bool.and_false]
    rw [Nat.and_assoc, e] at v
    exact v
