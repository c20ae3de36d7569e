theorem getD_mid {l1 l2 : List Nat} {b : Nat} : (l1 ++ b :: l2).getD l1.length 0 = b := by
  rw [List.getD_eq_getElem?_getD, List.getElem?_append_right (Nat.le_refl _), Nat.sub_self]; rfl
theorem getD_left {l1 l2 : List Nat} {i : Nat} (h : i < l1.length) : (l1 ++ l2).getD i 0 = l1.getD i 0 := by
  rw [List.getD_eq_getElem?_getD, List.getD_eq_getElem?_getD, List.getElem?_append_left h]
/-- a place of a list cuts it -/
theorem cut_at : ∀ (l : List Nat) (k : Nat), k < l.length → ∃ l1 l2, l = l1 ++ l.getD k 0 :: l2 ∧ l1.length = k
  | [], k, h => absurd h (Nat.not_lt_zero k)
  | a :: l, 0, _ => ⟨[], l, rfl, rfl⟩
  | a :: l, k + 1, h => by
    obtain ⟨l1, l2, h1, h2⟩ := cut_at l k (Nat.lt_of_succ_lt_succ h)
    refine ⟨a :: l1, l2, ?_, by rw [List.length_cons, h2]⟩
    show a :: l = a :: (l1 ++ (a :: l).getD (k + 1) 0 :: l2)
    exact congrArg (fun z => a :: z) h1
theorem pair_sp {l : List Nat} {a b : Nat} : (∃ i j, i < j ∧ j < l.length ∧ l.getD i 0 = a ∧ l.getD j 0 = b) ↔ ∃ l1 l2, l = l1 ++ b :: l2 ∧ a ∈ l1 := by
  constructor
  · rintro ⟨i, j, h1, h2, h3, h4⟩
    obtain ⟨l1, l2, e1, e2⟩ := cut_at l j h2
    rw [h4] at e1
    refine ⟨l1, l2, e1, memD.mpr ⟨i, by omega, ?_⟩⟩
    rw [← h3, e1, getD_left (by omega)]
  · rintro ⟨l1, l2, e, h⟩
    obtain ⟨i, h1, h2⟩ := memD.mp h
    refine ⟨i, l1.length, h1, by rw [e, List.length_append, List.length_cons]; omega, ?_, ?_⟩
    · rw [e, getD_left h1]; exact h2
    · rw [e]; exact getD_mid
theorem seL_sp {l : List Nat} {a w9 b : Nat} : seL9 l a w9 b ↔ ∃ l1 l2, l = l1 ++ b :: l2 ∧ (w9 = 0 ∨ ∃ w, w ∈ l1 ∧ w + 1 = w9) ∧ b ≠ a := by
  unfold seL9
  constructor
  · rintro ⟨k, k1, k2, k3, k4⟩
    obtain ⟨l1, l2, e1, e2⟩ := cut_at l k k1
    rw [k4] at e1 k3
    refine ⟨l1, l2, e1, k2.imp id (fun ⟨m, m1, m2⟩ => ⟨l.getD m 0, ?_, m2⟩), k3⟩
    rw [e1, getD_left (by omega)]
    exact memD.mpr ⟨m, by omega, rfl⟩
  · rintro ⟨l1, l2, e, h1, h2⟩
    refine ⟨l1.length, by rw [e, List.length_append, List.length_cons]; omega, h1.imp id (fun ⟨w, w1, w2⟩ => ?_), by rw [e, getD_mid]; exact h2, by rw [e]; exact getD_mid⟩
    obtain ⟨i, i1, i2⟩ := memD.mp w1
    exact ⟨i, i1, by rw [e, getD_left i1, i2]; exact w2⟩
section RE6
variable {pg : Nat → Nat → Nat} {F : Nat → Nat} {W x : Nat}
/-- what a row keeps -/
theorem rwE_pr : ∀ (e l : List Nat), l.Nodup → rwE9 pg F W x l e → (l ++ e).Nodup ∧ (∀ a, a ∈ e → W.testBit a = true) ∧ (∀ a, W.testBit a = true → a ∈ l ++ e) ∧ ∀ e1 b e2, e = e1 ++ b :: e2 → stO9 pg F W x (l ++ e1) b
  | [], l, hn, h => by
    rw [List.append_nil]
    exact ⟨hn, fun a ha => absurd ha List.not_mem_nil, h, fun e1 b e2 e => by simp at e⟩
  | a :: e, l, hn, ⟨h1, h2⟩ => by
    have hn2 : (l ++ [a]).Nodup := List.nodup_append.mpr ⟨hn, List.nodup_cons.mpr ⟨List.not_mem_nil, List.nodup_nil⟩, fun p hp q hq e => h1.2.1 (by rw [← List.mem_singleton.mp hq, ← e]; exact hp)⟩
    obtain ⟨i1, i2, i3, i4⟩ := rwE_pr e (l ++ [a]) hn2 h2
    have ea : l ++ [a] ++ e = l ++ a :: e := by rw [List.append_assoc]; rfl
    rw [ea] at i1 i3
    refine ⟨i1, fun b hb => ?_, i3, fun e1 b e2 eq => ?_⟩
    · rcases List.mem_cons.mp hb with q | q
      · rw [q]; exact h1.1
      · exact i2 b q
    · cases e1 with
      | nil =>
        rw [List.nil_append] at eq
        rw [← (List.cons.inj eq).1, List.append_nil]; exact h1
      | cons c e1 =>
        obtain ⟨q1, q2⟩ := List.cons.inj eq
        have := i4 e1 b e2 q2
        rw [← q1]
        rw [List.append_assoc] at this; exact this
theorem owE_pr {H : Nat} : ∀ (e l : List Nat), owE9 pg F H W x l e ↔ ∀ e1 b e2, e = e1 ++ b :: e2 → owS9 pg F H W x (l ++ e1) b
  | [], l => ⟨fun _ e1 b e2 e => by simp at e, fun _ => trivial⟩
  | a :: e, l => by
    show owS9 pg F H W x l a ∧ owE9 pg F H W x (l ++ [a]) e ↔ _
    rw [owE_pr e (l ++ [a])]
    constructor
    · rintro ⟨h1, h2⟩ e1 b e2 eq
      cases e1 with
      | nil =>
        rw [List.nil_append] at eq
        rw [← (List.cons.inj eq).1, List.append_nil]; exact h1
      | cons c e1 =>
        obtain ⟨q1, q2⟩ := List.cons.inj eq
        have := h2 e1 b e2 q2
        rw [← q1]
        rw [List.append_assoc] at this; exact this
    · intro h
      refine ⟨?_, fun e1 b e2 eq => ?_⟩
      · have := h [] a e rfl
        rw [List.append_nil] at this; exact this
      · have := h (a :: e1) b e2 (by rw [eq]; rfl)
        rw [List.append_assoc]; exact this
end RE6
/-- the relations of a graph by the class's numbers -/
def cR9 (pg : Nat → Nat → Nat) (F : Nat → Nat) (H a b : Nat) : Prop := H.testBit b = true ∧ tkr9 pg b ∧ F b = a + 1
def cB9 (RW : Nat → List Nat) (a b : Nat) : Prop := ∃ y l1 l2, y < 4 ∧ RW y = l1 ++ b :: l2 ∧ a ∈ l1
def cS9 (pg : Nat → Nat → Nat) (F : Nat → Nat) (H : Nat) (RW : Nat → List Nat) (a b : Nat) : Prop := H.testBit a = true ∧ tkr9 pg a ∧ b ≠ a ∧ ∃ l1 l2, RW (pg 5 a) = l1 ++ b :: l2 ∧ (F a = 0 ∨ ∃ w, w ∈ l1 ∧ F a = w + 1)
