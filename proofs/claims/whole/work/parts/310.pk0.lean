/-- two strictly rising rows of the same things are the same -/
theorem ris_eq {V : Type} {lt : V → V → Prop} (hirr : ∀ v, ¬ lt v v) (htr : ∀ u v w, lt u v → lt v w → lt u w) {n m : Nat} {P Q : Nat → V} (hP : ∀ i j, i < j → j < n → lt (P i) (P j)) (hQ : ∀ i j, i < j → j < m → lt (Q i) (Q j))
    (h1 : ∀ i, i < n → ∃ j, j < m ∧ Q j = P i) (h2 : ∀ j, j < m → ∃ i, i < n ∧ P i = Q j) : (∀ i, i < n → i < m ∧ P i = Q i) ∧ (∀ i, i < m → i < n) := by
  have go : ∀ k i, i < k → (i < n → i < m ∧ P i = Q i) ∧ (i < m → i < n ∧ P i = Q i) := by
    intro k
    induction k with
    | zero => intro i hi; exact absurd hi (Nat.not_lt_zero i)
    | succ k ih =>
      intro i hi
      have a1 : ∀ j, j < m → i < n → Q j = P i → i ≤ j := fun j hj hn e => Nat.le_of_not_lt fun c => by
        have e2 := (ih j (by omega)).2 hj
        have := hP j i c hn
        rw [e2.2, e] at this; exact hirr _ this
      have a2 : ∀ j, j < n → i < m → P j = Q i → i ≤ j := fun j hj hm e => Nat.le_of_not_lt fun c => by
        have e2 := (ih j (by omega)).1 hj
        have := hQ j i c hm
        rw [← e2.2, e] at this; exact hirr _ this
      have both : i < n → i < m → P i = Q i := fun hn hm => by
        obtain ⟨j, hj, ej⟩ := h1 i hn
        obtain ⟨l, hl, el⟩ := h2 i hm
        have b1 := a1 j hj hn ej
        have b2 := a2 l hl hm el
        by_cases c1 : j = i
        · rw [← c1]; rw [c1] at ej ⊢; exact ej.symm
        · by_cases c2 : l = i
          · rw [c2] at el; exact el
          · have d1 := hQ i j (by omega) hj
            have d2 := hP i l (by omega) hl
            rw [ej] at d1; rw [el] at d2
            exact absurd (htr _ _ _ d1 d2) (hirr _)
      refine ⟨fun hn => ?_, fun hm => ?_⟩
      · obtain ⟨j, hj, ej⟩ := h1 i hn
        have hm : i < m := Nat.lt_of_le_of_lt (a1 j hj hn ej) hj
        exact ⟨hm, both hn hm⟩
      · obtain ⟨j, hj, ej⟩ := h2 i hm
        have hn : i < n := Nat.lt_of_le_of_lt (a2 j hj hm ej) hj
        exact ⟨hn, both hn hm⟩
  exact ⟨fun i hi => (go (i + 1) i (Nat.lt_succ_self i)).1 hi, fun i hi => ((go (i + 1) i (Nat.lt_succ_self i)).2 hi).1⟩
/-- the difference of two rows, from the back -/
theorem lx_snoc {a b : Nat → Int32} : ∀ n k, lxG a b (n + 1) k ↔ lxG a b n k ∨ ((∀ j, k ≤ j → j < k + n → a j = b j) ∧ (b (k + n)).toInt < (a (k + n)).toInt)
  | 0, k => by
    constructor
    · intro h
      rcases h with h | ⟨_, h⟩
      · exact Or.inr ⟨fun j h1 h2 => by omega, h⟩
      · exact absurd h (fun q => q)
    · intro h
      rcases h with h | h
      · exact absurd h (fun q => q)
      · exact Or.inl h.2
  | n + 1, k => by
    have ih := lx_snoc (a := a) (b := b) n (k + 1)
    have e : k + 1 + n = k + (n + 1) := by omega
    rw [e] at ih
    constructor
    · intro h
      rcases h with h | ⟨h, h2⟩
      · exact Or.inl (Or.inl h)
      · rcases ih.mp h2 with q | ⟨q1, q2⟩
        · exact Or.inl (Or.inr ⟨h, q⟩)
        · exact Or.inr ⟨fun j h3 h4 => by
            by_cases c : j = k
            · rw [c]; exact h
            · exact q1 j (by omega) (by omega), q2⟩
    · intro h
      rcases h with h | ⟨h1, h2⟩
      · rcases h with h | ⟨h, h2⟩
        · exact Or.inl h
        · exact Or.inr ⟨h, ih.mpr (Or.inl h2)⟩
      · exact Or.inr ⟨h1 k (Nat.le_refl k) (by omega), ih.mpr (Or.inr ⟨fun j h3 h4 => h1 j (by omega) (by omega), h2⟩)⟩
/-- a number as a digit of seven bits -/
def dg (v : Int32) : Nat := (v.toInt + 64).toNat
def okD (v : Int32) : Prop := -64 ≤ v.toInt ∧ v.toInt ≤ 63
theorem dg_lt {v : Int32} (h : okD v) : dg v < 128 := by unfold okD at h; unfold dg; omega
theorem dg_inj {v w : Int32} (hv : okD v) (hw : okD w) : dg v = dg w ↔ v = w := by
  unfold okD at hv hw; unfold dg
  constructor
  · intro h; exact Int32.toInt_inj.mp (by omega)
  · intro h; rw [h]
theorem dg_le {v w : Int32} (hv : okD v) (hw : okD w) : dg v < dg w ↔ v.toInt < w.toInt := by
  unfold okD at hv hw; unfold dg; omega
/-- digits packed, from the first on -/
def pkN (f : Nat → Nat) (k : Nat) : Nat → Nat
  | 0 => 0
  | n + 1 => pkN f k n * 128 + f (k + n)
theorem pkN_s {f : Nat → Nat} {k n : Nat} : pkN f k (n + 1) = pkN f k n * 128 + f (k + n) := by rw [pkN]
theorem pkN_lt {f : Nat → Nat} {k : Nat} : ∀ n, (∀ j, j < n → f (k + j) < 128) → pkN f k n < 128 ^ n
  | 0, _ => by show 0 < 1; decide
  | n + 1, h => by
    have h1 := pkN_lt (f := f) (k := k) n (fun j hj => h j (by omega))
    have h2 := h n (Nat.lt_succ_self n)
    rw [pkN, Nat.pow_succ]; omega
theorem pkN_0 {f : Nat → Nat} {k : Nat} : pkN f k 0 = 0 := by rw [pkN]
theorem pk_core {X Y x y : Nat} (hx : x < 128) (hy : y < 128) : (X * 128 + x < Y * 128 + y ↔ X < Y ∨ (X = Y ∧ x < y)) ∧ (X * 128 + x = Y * 128 + y ↔ X = Y ∧ x = y) := by
  constructor <;> constructor <;> intro h <;> omega
theorem all_snoc {a b : Nat → Int32} {k n : Nat} : (∀ j, k ≤ j → j < k + (n + 1) → a j = b j) ↔ (∀ j, k ≤ j → j < k + n → a j = b j) ∧ a (k + n) = b (k + n) := by
  constructor
  · intro h; exact ⟨fun j h1 h2 => h j h1 (by omega), h _ (by omega) (by omega)⟩
  · intro h j h1 h2
    by_cases c : j = k + n
    · rw [c]; exact h.2
    · exact h.1 j h1 (by omega)
theorem all_symm {a b : Nat → Int32} {k n : Nat} : (∀ j, k ≤ j → j < k + n → a j = b j) ↔ (∀ j, k ≤ j → j < k + n → b j = a j) := ⟨fun h j h1 h2 => (h j h1 h2).symm, fun h j h1 h2 => (h j h1 h2).symm⟩
set_option maxRecDepth 100000 in
/-- packed digits are in the order of the rows -/
theorem pkN_lx {a b : Nat → Int32} {k : Nat} (n : Nat) : (∀ j, k ≤ j → j < k + n → okD (a j) ∧ okD (b j)) → ((pkN (fun i => dg (a i)) k n < pkN (fun i => dg (b i)) k n ↔ lxG b a n k) ∧ (pkN (fun i => dg (a i)) k n = pkN (fun i => dg (b i)) k n ↔ ∀ j, k ≤ j → j < k + n → a j = b j)) := by
  induction n with
  | zero =>
    intro _
    rw [pkN_0, pkN_0]
    exact ⟨⟨fun h => absurd h (Nat.lt_irrefl 0), fun h => absurd h (fun q => q)⟩, ⟨fun _ j h1 h2 => by omega, fun _ => rfl⟩⟩
  | succ n ih =>
    intro h
    obtain ⟨ih1, ih2⟩ := ih (fun j h1 h2 => h j h1 (by omega))
    obtain ⟨ha, hb⟩ := h (k + n) (by omega) (by omega)
    obtain ⟨c1, c2⟩ := pk_core (X := pkN (fun i => dg (a i)) k n) (Y := pkN (fun i => dg (b i)) k n) (dg_lt ha) (dg_lt hb)
    rw [pkN_s, pkN_s]
    show (pkN (fun i => dg (a i)) k n * 128 + dg (a (k + n)) < pkN (fun i => dg (b i)) k n * 128 + dg (b (k + n)) ↔ _) ∧ (pkN (fun i => dg (a i)) k n * 128 + dg (a (k + n)) = pkN (fun i => dg (b i)) k n * 128 + dg (b (k + n)) ↔ _)
    rw [c1, c2, ih1, ih2, lx_snoc, all_snoc, dg_le ha hb, dg_inj ha hb, all_symm (a := b) (b := a)]
    exact ⟨Iff.rfl, Iff.rfl⟩
