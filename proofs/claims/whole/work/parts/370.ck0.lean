/-- a state of the class's walk of model 3: done, sources, places, registers, values, rows, sizes, learned, told -/
abbrev S9K := Nat × Int64 × (Nat → Nat) × (Nat → Int32) × (Nat → Int32) × (Nat → Nat) × (Nat → Nat) × (Nat → Nat) × (Nat → Nat)
def tkC (pg : Nat → Nat → Nat) (nm : Nat → Int32) (s : S9K) (a s9 pc : Nat) : S9K :=
  (s.1 ||| 2 ^ a, srcP s.2.1 s9 a, updN s.2.2.1 (pg 2 a) (s.2.2.1 (pg 2 a) + psP (pg 4 a) (s.2.2.2.1 (pg 6 a)) (nm a) (pg 5 a)), rgP (pg 4 a) s.2.2.2.1 s.2.2.2.2.1 (pg 6 a) s9, vlP (pg 4 a) s.2.2.2.1 s.2.2.2.2.1 (nm a) a (pg 6 a) s9, rwT pg a pc s.2.2.2.2.2.1, zsT pg a pc s.2.2.2.2.2.2.1, leT pg a pc s.2.2.2.2.2.2.2.1 s.2.2.2.2.2.2.2.2 s9, ctT pg a pc s.2.2.2.2.2.2.2.1 s.2.2.2.2.2.2.2.2 s9)
def sr9 (s : S9K) (x p : Nat) : Nat := srA s.2.2.2.2.2.1 s.2.2.2.2.2.2.1 x p
def kn9 (pg : Nat → Nat → Nat) (s : S9K) (a : Nat) : Nat := knP (s.2.2.2.2.2.2.2.1 (pg 2 a)) (srA s.2.2.2.2.2.1 s.2.2.2.2.2.2.1 (pg 5 a)) (s.2.2.2.2.2.2.1 (pg 5 a))
def adC (pg : Nat → Nat → Nat) (s : S9K) (x p : Nat) : Prop := sr9 s x p ≠ 0 ∧ pg 4 (sr9 s x p - 1) = 3
noncomputable def nK (pg : Nat → Nat → Nat) (nm : Nat → Int32) (s : S9K) (a : Nat) : List (Int32 × S9K) :=
  if pg 4 a = 0 then (List.range (s.2.2.2.2.2.2.1 (pg 5 a) + 1 - kn9 pg s a)).filterMap (fun i => some (nI (pg 2 a * 100 + (kn9 pg s a + i)), tkC pg nm s a (sr9 s (pg 5 a) (kn9 pg s a + i)) 0))
  else if pg 4 a = 1 ∨ pg 4 a = 2 then (List.range (s.2.2.2.2.2.2.1 (pg 5 a) + 1 - kn9 pg s a)).filterMap (fun i => @ite _ (adC pg s (pg 5 a) (kn9 pg s a + 1 + i)) (Classical.propDecidable _) none (some (nI (pg 2 a * 100 + (kn9 pg s a + 1 + i)), tkC pg nm s a 0 (kn9 pg s a + 1 + i))))
  else if pg 4 a = 3 then (List.range (s.2.2.2.2.2.2.1 (pg 5 a) + 1 - kn9 pg s a)).filterMap (fun i => @ite _ (adC pg s (pg 5 a) (kn9 pg s a + i + 1)) (Classical.propDecidable _) none (some (nI (pg 2 a * 100 + (kn9 pg s a + i)), tkC pg nm s a (sr9 s (pg 5 a) (kn9 pg s a + i)) (kn9 pg s a + i + 1))))
  else if pg 4 a = 4 then [(nI (pg 2 a * 100 + 0), tkC pg nm s a (sr9 s 3 (s.2.2.2.2.2.2.1 3)) (s.2.2.2.2.2.2.1 3 + 1))]
  else [(nI (pg 2 a * 100 + 0), tkC pg nm s a 0 0)]
noncomputable def nKt (pg : Nat → Nat → Nat) (nm : Nat → Int32) (s : S9K) (t : Nat) : List (Int32 × S9K) := if s.2.2.1 t < pg 0 t then nK pg nm s (pg 1 (t * 7 + s.2.2.1 t)) else []
noncomputable def nxK9 (pg : Nat → Nat → Nat) (nm : Nat → Int32) (T : Nat) (s : S9K) : List (Int32 × S9K) := (List.range T).flatMap (nKt pg nm s)
def knK9 (g : G9) (s : S9K) : Bool := hasK g (keyK s.2.1 s.1 s.2.2.2.2.2.1 s.2.2.2.2.2.2.1)
def preK9 (s : S9K) (g : G9) : G9 := addKey (keyK s.2.1 s.1 s.2.2.2.2.2.1 s.2.2.2.2.2.2.1) g
def finK9 (E : Nat) (s : S9K) (p : List Int32) (g : G9) : G9 := addOut E (rK s.2.2.2.1 7) (vK s.2.2.2.2.1 (sr9 s 0 (s.2.2.2.2.2.2.1 0)) (sr9 s 1 (s.2.2.2.2.2.2.1 1)) (sr9 s 2 (s.2.2.2.2.2.2.1 2))) p g
def apK (nx : NK) (s : S9K) (pf : Nat → Int32) (g : G9) : G9 := nx s.1 s.2.1 s.2.2.1 s.2.2.2.1 s.2.2.2.2.1 s.2.2.2.2.2.1 s.2.2.2.2.2.2.1 s.2.2.2.2.2.2.2.1 s.2.2.2.2.2.2.2.2 pf g
section VIK
variable {E T : Nat} {pg : Nat → Nat → Nat} {nm : Nat → Int32}
theorem goRd_f {nx : NK} {r : S9K → List Int32 → G9 → G9} {d : Nat} {s : S9K} {pf : Nat → Int32} {a kn : Nat} (hd : d < 14) (g : G9) : ∀ n, (∀ c, c ∈ (List.range n).filterMap (fun i => some (nI (pg 2 a * 100 + (kn + i)), tkC pg nm s a (sr9 s (pg 5 a) (kn + i)) 0)) → ∀ g, apK nx c.2 (upd pf d c.1) g = r c.2 ((List.range d).map pf ++ [c.1]) g) →
    goRd pg nm nx d s.1 s.2.1 s.2.2.1 s.2.2.2.1 s.2.2.2.2.1 s.2.2.2.2.2.1 s.2.2.2.2.2.2.1 s.2.2.2.2.2.2.2.1 s.2.2.2.2.2.2.2.2 pf a kn n g = ((List.range n).filterMap (fun i => some (nI (pg 2 a * 100 + (kn + i)), tkC pg nm s a (sr9 s (pg 5 a) (kn + i)) 0))).foldl (fun g c => r c.2 ((List.range d).map pf ++ [c.1]) g) g
  | 0, _ => rfl
  | n + 1, h => by
    rw [List.range_succ, List.filterMap_append] at h ⊢
    rw [List.foldl_append, goRd, goRd_f hd g n (fun c hc => h c (List.mem_append_left _ hc))]
    unfold takeK
    rw [if_neg (by omega)]
    exact h _ (List.mem_append_right _ (by rw [fm_cons]; exact List.mem_cons_self ..)) _
theorem goWr_f {nx : NK} {r : S9K → List Int32 → G9 → G9} {d : Nat} {s : S9K} {pf : Nat → Int32} {a kn : Nat} (hd : d < 14) (g : G9) : ∀ n, (∀ c, c ∈ (List.range n).filterMap (fun i => @ite _ (adC pg s (pg 5 a) (kn + 1 + i)) (Classical.propDecidable _) none (some (nI (pg 2 a * 100 + (kn + 1 + i)), tkC pg nm s a 0 (kn + 1 + i)))) → ∀ g, apK nx c.2 (upd pf d c.1) g = r c.2 ((List.range d).map pf ++ [c.1]) g) →
    goWr pg nm nx d s.1 s.2.1 s.2.2.1 s.2.2.2.1 s.2.2.2.2.1 s.2.2.2.2.2.1 s.2.2.2.2.2.2.1 s.2.2.2.2.2.2.2.1 s.2.2.2.2.2.2.2.2 pf a kn n g = ((List.range n).filterMap (fun i => @ite _ (adC pg s (pg 5 a) (kn + 1 + i)) (Classical.propDecidable _) none (some (nI (pg 2 a * 100 + (kn + 1 + i)), tkC pg nm s a 0 (kn + 1 + i))))).foldl (fun g c => r c.2 ((List.range d).map pf ++ [c.1]) g) g
  | 0, _ => rfl
  | n + 1, h => by
    rw [List.range_succ, List.filterMap_append] at h ⊢
    rw [List.foldl_append, goWr, goWr_f hd g n (fun c hc => h c (List.mem_append_left _ hc)), fm_cons, List.filterMap_nil, List.append_nil]
    have h2 := fun c hc => h c (List.mem_append_right _ hc)
    rw [fm_cons, List.filterMap_nil, List.append_nil] at h2
    by_cases q : adC pg s (pg 5 a) (kn + 1 + n)
    · rw [if_pos q, if_pos (show srA s.2.2.2.2.2.1 s.2.2.2.2.2.2.1 (pg 5 a) (kn + 1 + n) ≠ 0 ∧ pg 4 (srA s.2.2.2.2.2.1 s.2.2.2.2.2.2.1 (pg 5 a) (kn + 1 + n) - 1) = 3 from q)]; rfl
    · rw [if_neg q] at h2 ⊢
      rw [if_neg (show ¬ (srA s.2.2.2.2.2.1 s.2.2.2.2.2.2.1 (pg 5 a) (kn + 1 + n) ≠ 0 ∧ pg 4 (srA s.2.2.2.2.2.1 s.2.2.2.2.2.2.1 (pg 5 a) (kn + 1 + n) - 1) = 3) from q)]
      unfold takeK
      rw [if_neg (by omega)]
      exact h2 _ (List.mem_cons_self ..) _
theorem goAd_f {nx : NK} {r : S9K → List Int32 → G9 → G9} {d : Nat} {s : S9K} {pf : Nat → Int32} {a kn : Nat} (hd : d < 14) (g : G9) : ∀ n, (∀ c, c ∈ (List.range n).filterMap (fun i => @ite _ (adC pg s (pg 5 a) (kn + i + 1)) (Classical.propDecidable _) none (some (nI (pg 2 a * 100 + (kn + i)), tkC pg nm s a (sr9 s (pg 5 a) (kn + i)) (kn + i + 1)))) → ∀ g, apK nx c.2 (upd pf d c.1) g = r c.2 ((List.range d).map pf ++ [c.1]) g) →
    goAd pg nm nx d s.1 s.2.1 s.2.2.1 s.2.2.2.1 s.2.2.2.2.1 s.2.2.2.2.2.1 s.2.2.2.2.2.2.1 s.2.2.2.2.2.2.2.1 s.2.2.2.2.2.2.2.2 pf a kn n g = ((List.range n).filterMap (fun i => @ite _ (adC pg s (pg 5 a) (kn + i + 1)) (Classical.propDecidable _) none (some (nI (pg 2 a * 100 + (kn + i)), tkC pg nm s a (sr9 s (pg 5 a) (kn + i)) (kn + i + 1))))).foldl (fun g c => r c.2 ((List.range d).map pf ++ [c.1]) g) g
  | 0, _ => rfl
  | n + 1, h => by
    rw [List.range_succ, List.filterMap_append] at h ⊢
    rw [List.foldl_append, goAd, goAd_f hd g n (fun c hc => h c (List.mem_append_left _ hc)), fm_cons, List.filterMap_nil, List.append_nil]
    have h2 := fun c hc => h c (List.mem_append_right _ hc)
    rw [fm_cons, List.filterMap_nil, List.append_nil] at h2
    by_cases q : adC pg s (pg 5 a) (kn + n + 1)
    · rw [if_pos q, if_pos (show srA s.2.2.2.2.2.1 s.2.2.2.2.2.2.1 (pg 5 a) (kn + n + 1) ≠ 0 ∧ pg 4 (srA s.2.2.2.2.2.1 s.2.2.2.2.2.2.1 (pg 5 a) (kn + n + 1) - 1) = 3 from q)]; rfl
    · rw [if_neg q] at h2 ⊢
      rw [if_neg (show ¬ (srA s.2.2.2.2.2.1 s.2.2.2.2.2.2.1 (pg 5 a) (kn + n + 1) ≠ 0 ∧ pg 4 (srA s.2.2.2.2.2.1 s.2.2.2.2.2.2.1 (pg 5 a) (kn + n + 1) - 1) = 3) from q)]
      unfold takeK
      rw [if_neg (by omega)]
      exact h2 _ (List.mem_cons_self ..) _
theorem goK_f {nx : NK} {r : S9K → List Int32 → G9 → G9} {d : Nat} {s : S9K} {pf : Nat → Int32} {a : Nat} (hd : d < 14) (h : ∀ c, c ∈ nK pg nm s a → ∀ g, apK nx c.2 (upd pf d c.1) g = r c.2 ((List.range d).map pf ++ [c.1]) g) (g : G9) :
    goK pg nm nx d s.1 s.2.1 s.2.2.1 s.2.2.2.1 s.2.2.2.2.1 s.2.2.2.2.2.1 s.2.2.2.2.2.2.1 s.2.2.2.2.2.2.2.1 s.2.2.2.2.2.2.2.2 pf a g = (nK pg nm s a).foldl (fun g c => r c.2 ((List.range d).map pf ++ [c.1]) g) g := by
  unfold nK at h ⊢
  unfold goK
  by_cases k0 : pg 4 a = 0
  · rw [if_pos k0] at h ⊢
    rw [if_pos k0]
    exact goRd_f hd g _ h
  · rw [if_neg k0] at h ⊢
    rw [if_neg k0]
    by_cases k1 : pg 4 a = 1 ∨ pg 4 a = 2
    · rw [if_pos k1] at h ⊢
      rw [if_pos k1]
      exact goWr_f hd g _ h
    · rw [if_neg k1] at h ⊢
      rw [if_neg k1]
      by_cases k3 : pg 4 a = 3
      · rw [if_pos k3] at h ⊢
        rw [if_pos k3]
        exact goAd_f hd g _ h
      · rw [if_neg k3] at h ⊢
        rw [if_neg k3]
        by_cases k4 : pg 4 a = 4
        · rw [if_pos k4] at h ⊢
          rw [if_pos k4]
          unfold takeK
          rw [if_neg (by omega)]
          exact h _ (List.mem_cons_self ..) g
        · rw [if_neg k4] at h ⊢
          rw [if_neg k4]
          unfold takeK
          rw [if_neg (by omega)]
          exact h _ (List.mem_cons_self ..) g
theorem goTK_f {nx : NK} {r : S9K → List Int32 → G9 → G9} {d : Nat} {s : S9K} {pf : Nat → Int32} (hd : d < 14) (hcov : ∀ t, t < T → s.2.2.1 t < pg 0 t → nKt pg nm s t ≠ []) (h : ∀ c, c ∈ nxK9 pg nm T s → ∀ g, apK nx c.2 (upd pf d c.1) g = r c.2 ((List.range d).map pf ++ [c.1]) g) (g : G9) :
    ∀ n, n ≤ T → goTK pg nm nx d s.1 s.2.1 s.2.2.1 s.2.2.2.1 s.2.2.2.2.1 s.2.2.2.2.2.1 s.2.2.2.2.2.2.1 s.2.2.2.2.2.2.2.1 s.2.2.2.2.2.2.2.2 pf n g = (((List.range n).flatMap (nKt pg nm s)).isEmpty, ((List.range n).flatMap (nKt pg nm s)).foldl (fun g c => r c.2 ((List.range d).map pf ++ [c.1]) g) g)
  | 0, _ => rfl
  | n + 1, hn => by
    have ih := goTK_f hd hcov h g n (by omega)
    have hin : ∀ c, c ∈ nKt pg nm s n → c ∈ nxK9 pg nm T s := fun c hc => List.mem_flatMap.mpr ⟨n, List.mem_range.mpr (by omega), hc⟩
    rw [goTK, ih, List.range_succ, List.flatMap_append, List.flatMap_cons, List.flatMap_nil, List.append_nil, List.foldl_append, ie_app]
    have hc := hcov n (by omega)
    unfold nKt at hin hc
    by_cases q : s.2.2.1 n < pg 0 n
    · rw [if_pos q] at hin hc ⊢
      have hne : (nKt pg nm s n).isEmpty = false := by
        unfold nKt
        rw [if_pos q]
        cases hb : nK pg nm s (pg 1 (n * 7 + s.2.2.1 n)) with
        | nil => exact absurd hb (hc q)
        | cons _ _ => rfl
      rw [hne, Bool.and_false]
      refine Prod.ext rfl ?_
      show goK _ _ _ _ _ _ _ _ _ _ _ _ _ _ _ _ = (nKt pg nm s n).foldl _ _
      unfold nKt
      rw [if_pos q]
      exact goK_f hd (fun c hc2 g => h c (hin c hc2) g) _
    · rw [if_neg q]
      unfold nKt
      rw [if_neg q]
      refine Prod.ext ?_ rfl
      show _ = (_ && true)
      rw [Bool.and_true]
/-- the class's walk of model 3 is the search with memory -/
theorem visitK_mdf {Iv : S9K → Prop} {rk : S9K → Nat} (hch : ∀ s c, Iv s → c ∈ nxK9 pg nm T s → Iv c.2 ∧ rk c.2 < rk s) (hcov : ∀ s, Iv s → ∀ t, t < T → s.2.2.1 t < pg 0 t → nKt pg nm s t ≠ []) :
    ∀ k, k ≤ 14 → ∀ (s : S9K) (pf : Nat → Int32) (g : G9), Iv s → rk s ≤ k → apK (visitK E T pg nm k) s pf g = mdf knK9 preK9 (nxK9 pg nm T) (finK9 E) (k + 1) s ((List.range (14 - k)).map pf) g
  | 0, _, s, pf, g, hI, hr => by
    have hnil : nxK9 pg nm T s = [] := by
      cases hn : nxK9 pg nm T s with
      | nil => rfl
      | cons c l => have := (hch s c hI (by rw [hn]; exact List.mem_cons_self ..)).2; omega
    have hz : ∀ t, t < T → ¬ s.2.2.1 t < pg 0 t := fun t ht q => hcov s hI t ht q (fl_emp hnil t (List.mem_range.mpr ht))
    have h14 : ∀ n, n ≤ T → ∀ (nx : NK) (g : G9), goTK pg nm nx 14 s.1 s.2.1 s.2.2.1 s.2.2.2.1 s.2.2.2.2.1 s.2.2.2.2.2.1 s.2.2.2.2.2.2.1 s.2.2.2.2.2.2.2.1 s.2.2.2.2.2.2.2.2 pf n g = (true, g) := by
      intro n
      induction n with
      | zero => intro _ nx g; rfl
      | succ n ih => intro hn nx g; rw [goTK, if_neg (hz n (by omega))]; exact ih (by omega) nx g
    show visitK E T pg nm 0 _ _ _ _ _ _ _ _ _ _ _ = _
    rw [visitK, mdf, hnil]
    unfold oneK knK9
    by_cases q : hasK g (keyK s.2.1 s.1 s.2.2.2.2.2.1 s.2.2.2.2.2.2.1) = true
    · rw [if_pos q, if_pos q]
    · rw [if_neg q, if_neg q, h14 T (Nat.le_refl T)]; rfl
  | k + 1, hk, s, pf, g, hI, hr => by
    show visitK E T pg nm (k + 1) _ _ _ _ _ _ _ _ _ _ _ = _
    rw [visitK, mdf]
    unfold oneK
    show (if hasK g (keyK s.2.1 s.1 s.2.2.2.2.2.1 s.2.2.2.2.2.2.1) = true then g else _) = (if hasK g (keyK s.2.1 s.1 s.2.2.2.2.2.1 s.2.2.2.2.2.2.1) = true then g else _)
    by_cases q : hasK g (keyK s.2.1 s.1 s.2.2.2.2.2.1 s.2.2.2.2.2.2.1) = true
    · rw [if_pos q, if_pos q]
    · rw [if_neg q, if_neg q, goTK_f (r := fun s2 p g => mdf knK9 preK9 (nxK9 pg nm T) (finK9 E) (k + 1) s2 p g) (by omega) (hcov s hI) (fun c hc g => by
        obtain ⟨c1, c2⟩ := hch s c hI hc
        rw [visitK_mdf hch hcov k (by omega) c.2 _ g c1 (by omega), (by omega : 14 - k = 13 - k + 1), path_s]) _ T (Nat.le_refl T)]
      rw [(by omega : 14 - (k + 1) = 13 - k)]
      unfold endK
      show (if (nxK9 pg nm T s).isEmpty = true then _ else _) = _
      by_cases c : (nxK9 pg nm T s).isEmpty = true
      · rw [if_pos c, if_pos c]
        show addOut _ _ _ _ ((nxK9 pg nm T s).foldl _ _) = _
        rw [List.isEmpty_iff.mp c]; rfl
      · rw [if_neg c, if_neg c]; rfl
end VIK
