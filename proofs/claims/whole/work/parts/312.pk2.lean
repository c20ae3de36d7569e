theorem lx_app {a b : Nat → Int32} {m : Nat} : ∀ n k, lxG a b (n + m) k ↔ lxG a b n k ∨ ((∀ j, k ≤ j → j < k + n → a j = b j) ∧ lxG a b m (k + n))
  | 0, k => by
    rw [Nat.zero_add, Nat.add_zero]
    constructor
    · intro h; exact Or.inr ⟨fun j h1 h2 => by omega, h⟩
    · intro h
      rcases h with h | h
      · exact absurd h (fun q => q)
      · exact h.2
  | n + 1, k => by
    have ih := lx_app (a := a) (b := b) (m := m) n (k + 1)
    rw [show k + 1 + n = k + (n + 1) from by omega] at ih
    rw [show n + 1 + m = (n + m) + 1 from by omega]
    constructor
    · intro h
      rcases h with h | ⟨h, h2⟩
      · exact Or.inl (Or.inl h)
      · rcases ih.mp h2 with q | ⟨q1, q2⟩
        · exact Or.inl (Or.inr ⟨h, q⟩)
        · exact Or.inr ⟨fun j h3 h4 => by
            by_cases c : j = k
            · rw [c]; exact h
            · exact q1 j (by omega) (by omega), q2⟩
    · intro h
      rcases h with h | ⟨h1, h2⟩
      · rcases h with h | ⟨h, h2⟩
        · exact Or.inl h
        · exact Or.inr ⟨h, ih.mpr (Or.inl h2)⟩
      · exact Or.inr ⟨h1 k (Nat.le_refl k) (by omega), ih.mpr (Or.inr ⟨fun j h3 h4 => h1 j (by omega) (by omega), h2⟩)⟩
theorem lN_lt9 {a b : Nat} (ha : a < 2 ^ 63) (hb : b < 2 ^ 63) : lN a < lN b ↔ a < b := by
  rw [Int64.lt_iff_toInt_lt, show (lN a).toInt = (a : Int) from lg_ofNat_toInt ha, show (lN b).toInt = (b : Int) from lg_ofNat_toInt hb]; omega
theorem lN_eq9 {a b : Nat} (ha : a < 2 ^ 63) (hb : b < 2 ^ 63) : lN a = lN b ↔ a = b := by
  rw [← Int64.toInt_inj, show (lN a).toInt = (a : Int) from lg_ofNat_toInt ha, show (lN b).toInt = (b : Int) from lg_ofNat_toInt hb]; omega
/-- an outcome's two keys, by its eleven values -/
def k1O (u : Nat → Int32) : Int64 := lN (pkN (fun i => dg (u i)) 0 8)
def k2O (u : Nat → Int32) : Int32 := nI (pkN (fun i => dg (u i)) 8 3)
theorem k_bd {u : Nat → Int32} (hu : ∀ j, j < 11 → okD (u j)) : pkN (fun i => dg (u i)) 0 8 < 2 ^ 63 ∧ pkN (fun i => dg (u i)) 8 3 < 2 ^ 31 := by
  have h1 := pkN_lt (f := fun i => dg (u i)) (k := 0) 8 (fun j hj => by rw [Nat.zero_add]; exact dg_lt (hu j (by omega)))
  have h2 := pkN_lt (f := fun i => dg (u i)) (k := 8) 3 (fun j hj => dg_lt (hu (8 + j) (by omega)))
  have e1 : (128 : Nat) ^ 8 = 72057594037927936 := by decide
  have e2 : (128 : Nat) ^ 3 = 2097152 := by decide
  omega
theorem keys_lx {u w : Nat → Int32} (hu : ∀ j, j < 11 → okD (u j)) (hw : ∀ j, j < 11 → okD (w j)) : (ltK (k1O u) (k2O u) (k1O w) (k2O w) ↔ lxG w u 11 0) ∧ ((k1O u = k1O w ∧ k2O u = k2O w) ↔ ∀ j, j < 11 → u j = w j) := by
  obtain ⟨b1, b2⟩ := k_bd hu
  obtain ⟨c1, c2⟩ := k_bd hw
  obtain ⟨p1, p2⟩ := pkN_lx (a := u) (b := w) (k := 0) 8 (fun j _ hj => ⟨hu j (by omega), hw j (by omega)⟩)
  obtain ⟨q1, q2⟩ := pkN_lx (a := u) (b := w) (k := 8) 3 (fun j _ hj => ⟨hu j (by omega), hw j (by omega)⟩)
  have ha := lx_app (a := w) (b := u) (m := 3) 8 0
  have e1 : k1O u < k1O w ↔ lxG w u 8 0 := (lN_lt9 b1 c1).trans p1
  have e2 : k1O u = k1O w ↔ ∀ j, 0 ≤ j → j < 0 + 8 → u j = w j := (lN_eq9 b1 c1).trans p2
  have e3 : k2O u < k2O w ↔ lxG w u 3 8 := (nI_ltI b2 c2).trans q1
  have e4 : k2O u = k2O w ↔ ∀ j, 8 ≤ j → j < 8 + 3 → u j = w j := (nI_eq b2 c2).trans q2
  constructor
  · unfold ltK
    rw [e1, e2, e3]
    refine Iff.trans ?_ ha.symm
    rw [all_symm (a := w) (b := u), Nat.zero_add]
  · rw [e2, e4]
    constructor
    · intro h j hj
      by_cases c : j < 8
      · exact h.1 j (Nat.zero_le j) (by omega)
      · exact h.2 j (by omega) (by omega)
    · intro h; exact ⟨fun j _ hj => h j (by omega), fun j _ hj => h j (by omega)⟩
/-- the class's keys of an end are the keys of its eleven values -/
theorem k1O_rK {rg u : Nat → Int32} (hu : ∀ j, j < 8 → u j = rg j) (h : ∀ j, j < 8 → okD (rg j)) : rK rg 7 = k1O u := by
  unfold k1O
  rw [rK_pk 7 (Nat.le_refl 7) (fun j hj => h j (by omega))]
  have go : ∀ n, n ≤ 8 → pkN (fun i => dg (rg i)) 0 n = pkN (fun i => dg (u i)) 0 n := fun n => by
    induction n with
    | zero => intro _; rw [pkN_0, pkN_0]
    | succ n ih => intro hn; rw [pkN_s, pkN_s, ih (by omega), Nat.zero_add, hu n (by omega)]
  rw [go 8 (Nat.le_refl 8)]
theorem k2O_vK {cv u : Nat → Int32} {a b c : Nat} (h8 : u 8 = cv a) (h9 : u 9 = cv b) (h10 : u 10 = cv c) (ha : okD (cv a)) (hb : okD (cv b)) (hc : okD (cv c)) : vK cv a b c = k2O u := by
  unfold k2O
  rw [vK_pk ha hb hc, pkN_s, pkN_s, pkN_s, pkN_0, Nat.zero_mul, Nat.zero_add, Nat.add_zero, h8, show 8 + 1 = 9 from rfl, show 8 + 2 = 10 from rfl, h9, h10]
