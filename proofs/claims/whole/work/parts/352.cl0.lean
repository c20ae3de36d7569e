/-- a state of the class's walk of models 0 to 2: done, sources, places, registers, values, memory, held -/
abbrev S7 := Nat × Int64 × (Nat → Nat) × (Nat → Int32) × (Nat → Int32) × Nat × Nat
def cN (pg : Nat → Nat → Nat) (nm : Nat → Int32) (md : Nat) (s : S7) (a : Nat) : S7 :=
  (s.1 ||| 2 ^ a, srcP s.2.1 (src9 pg s.2.2.2.2.2.2 s.2.2.2.2.2.1 a) a, updN s.2.2.1 (pg 2 a) (s.2.2.1 (pg 2 a) + psP (pg 4 a) (s.2.2.2.1 (pg 6 a)) (nm a) (pg 5 a)), rgP (pg 4 a) s.2.2.2.1 s.2.2.2.2.1 (pg 6 a) (src9 pg s.2.2.2.2.2.2 s.2.2.2.2.2.1 a), vlP (pg 4 a) s.2.2.2.1 s.2.2.2.2.1 (nm a) a (pg 6 a) (src9 pg s.2.2.2.2.2.2 s.2.2.2.2.2.1 a), mmP md (pg 4 a) s.2.2.2.2.2.1 (pg 5 a) a, hdP md (pg 4 a) s.2.2.2.2.2.2 a)
def cL (pg : Nat → Nat → Nat) (s : S7) (w : Nat) : S7 := (s.1, s.2.1, s.2.2.1, s.2.2.2.1, s.2.2.2.2.1, putM s.2.2.2.2.2.1 (pg 5 (lo9 w)) (lo9 w), clr s.2.2.2.2.2.2 (lo9 w))
def nN (pg : Nat → Nat → Nat) (nm : Nat → Int32) (md : Nat) (s : S7) (t : Nat) : List (Int32 × S7) :=
  if s.2.2.1 t < pg 0 t ∧ ¬ ((pg 4 (pg 1 (t * 7 + s.2.2.1 t)) = 4 ∨ pg 4 (pg 1 (t * 7 + s.2.2.1 t)) = 3) ∧ s.2.2.2.2.2.2 &&& pg 8 (pg 2 (pg 1 (t * 7 + s.2.2.1 t))) ≠ 0) then [(nI (t * 100), cN pg nm md s (pg 1 (t * 7 + s.2.2.1 t)))] else []
def lL (pg : Nat → Nat → Nat) (s : S7) (w num : Nat) : List (Int32 × S7) := if w = 0 then [] else [(nI num, cL pg s w)]
def nB (pg : Nat → Nat → Nat) (md : Nat) (s : S7) (t : Nat) : List (Int32 × S7) :=
  if s.2.2.2.2.2.2 &&& pg 8 t = 0 then [] else if md = 1 then lL pg s (s.2.2.2.2.2.2 &&& pg 8 t) (t * 100 + 1) else
    lL pg s (s.2.2.2.2.2.2 &&& pg 8 t &&& pg 10 0) (t * 100 + 1 + 0) ++ (lL pg s (s.2.2.2.2.2.2 &&& pg 8 t &&& pg 10 1) (t * 100 + 1 + 1) ++ lL pg s (s.2.2.2.2.2.2 &&& pg 8 t &&& pg 10 2) (t * 100 + 1 + 2))
def nxC (pg : Nat → Nat → Nat) (nm : Nat → Int32) (md T : Nat) (s : S7) : List (Int32 × S7) := (List.range T).flatMap (fun t => nN pg nm md s t ++ nB pg md s t)
def knC (g : G9) (s : S7) : Bool := hasK g (keyB s.2.1 s.1 s.2.2.2.2.2.1 s.2.2.2.2.2.2)
def preC (pg : Nat → Nat → Nat) (md T Ac : Nat) (s : S7) (g : G9) : G9 := noteG md T Ac pg s.2.2.1 (addKey (keyB s.2.1 s.1 s.2.2.2.2.2.1 s.2.2.2.2.2.2) g)
def finC (E : Nat) (s : S7) (p : List Int32) (g : G9) : G9 := addOut E (rK s.2.2.2.1 7) (vK s.2.2.2.2.1 (srcM s.2.2.2.2.2.1 0) (srcM s.2.2.2.2.2.1 1) (srcM s.2.2.2.2.2.1 2)) p g
theorem fl_emp {A B : Type} {l : List A} {f : A → List B} (h : l.flatMap f = []) : ∀ a, a ∈ l → f a = [] := fun a ha => List.flatMap_eq_nil_iff.mp h a ha
theorem ie_app {A : Type} : ∀ l m : List A, (l ++ m).isEmpty = (l.isEmpty && m.isEmpty)
  | [], _ => rfl
  | _ :: _, _ => rfl
theorem path_s {pf : Nat → Int32} {d : Nat} {v : Int32} : (List.range (d + 1)).map (upd pf d v) = (List.range d).map pf ++ [v] := by
  rw [List.range_succ, List.map_append, List.map_cons, List.map_nil, pk_us]
  refine congrArg (· ++ [v]) (List.map_congr_left (fun k hk => ?_))
  have := List.mem_range.mp hk
  rw [pk_un (by omega)]
section VIS
variable {E T Ac : Nat} {pg : Nat → Nat → Nat} {nm : Nat → Int32} {md : Nat}
theorem letG_f {nx : NX} {r : S7 → List Int32 → G9 → G9} {d : Nat} {s : S7} {pf : Nat → Int32} {w num : Nat} (hd : d < 14) (h : ∀ c, c ∈ lL pg s w num → ∀ g, nx c.2.1 c.2.2.1 c.2.2.2.1 c.2.2.2.2.1 c.2.2.2.2.2.1 c.2.2.2.2.2.2.1 c.2.2.2.2.2.2.2 (upd pf d c.1) g = r c.2 ((List.range d).map pf ++ [c.1]) g) (g : G9) :
    letG pg nx d s.1 s.2.1 s.2.2.1 s.2.2.2.1 s.2.2.2.2.1 s.2.2.2.2.2.1 s.2.2.2.2.2.2 pf w num g = (lL pg s w num).foldl (fun g c => r c.2 ((List.range d).map pf ++ [c.1]) g) g := by
  unfold letG
  unfold lL at h ⊢
  by_cases e : w = 0
  · rw [if_pos (Or.inl e), if_pos e]; rfl
  · rw [if_neg (by omega), if_neg e]
    rw [if_neg e] at h
    exact h _ (List.mem_singleton.mpr rfl) g
theorem goT_f {nx : NX} {r : S7 → List Int32 → G9 → G9} {d : Nat} {s : S7} {pf : Nat → Int32} (hd : d < 14) (hcov : ∀ t, t < T → nB pg md s t = [] → s.2.2.2.2.2.2 &&& pg 8 t = 0)
    (h : ∀ c, c ∈ nxC pg nm md T s → ∀ g, nx c.2.1 c.2.2.1 c.2.2.2.1 c.2.2.2.2.1 c.2.2.2.2.2.1 c.2.2.2.2.2.2.1 c.2.2.2.2.2.2.2 (upd pf d c.1) g = r c.2 ((List.range d).map pf ++ [c.1]) g) (g : G9) :
    ∀ n, n ≤ T → goT pg nm md nx d s.1 s.2.1 s.2.2.1 s.2.2.2.1 s.2.2.2.2.1 s.2.2.2.2.2.1 s.2.2.2.2.2.2 pf n g = (((List.range n).flatMap (fun t => nN pg nm md s t ++ nB pg md s t)).isEmpty, ((List.range n).flatMap (fun t => nN pg nm md s t ++ nB pg md s t)).foldl (fun g c => r c.2 ((List.range d).map pf ++ [c.1]) g) g)
  | 0, _ => rfl
  | n + 1, hn => by
    have ih := goT_f hd hcov h g n (by omega)
    have hin : ∀ c, c ∈ nN pg nm md s n ++ nB pg md s n → c ∈ nxC pg nm md T s := fun c hc => List.mem_flatMap.mpr ⟨n, List.mem_range.mpr (by omega), hc⟩
    have eN : ∀ g, goN pg nm md nx d s.1 s.2.1 s.2.2.1 s.2.2.2.1 s.2.2.2.2.1 s.2.2.2.2.2.1 s.2.2.2.2.2.2 pf n g = (!(nN pg nm md s n).isEmpty, (nN pg nm md s n).foldl (fun g c => r c.2 ((List.range d).map pf ++ [c.1]) g) g) := fun g => by
      unfold goN
      have hm := fun c hc => hin c (List.mem_append_left _ hc)
      unfold nN at hm ⊢
      by_cases q : s.2.2.1 n < pg 0 n ∧ ¬ ((pg 4 (pg 1 (n * 7 + s.2.2.1 n)) = 4 ∨ pg 4 (pg 1 (n * 7 + s.2.2.1 n)) = 3) ∧ s.2.2.2.2.2.2 &&& pg 8 (pg 2 (pg 1 (n * 7 + s.2.2.1 n))) ≠ 0)
      · rw [if_pos ⟨q.1, hd, q.2⟩, if_pos q]
        rw [if_pos q] at hm
        exact Prod.ext rfl (h _ (hm _ (List.mem_singleton.mpr rfl)) g)
      · rw [if_neg (fun z => q ⟨z.1, z.2.2⟩), if_neg q]; rfl
    have eB : ∀ g, goB pg md nx d s.1 s.2.1 s.2.2.1 s.2.2.2.1 s.2.2.2.2.1 s.2.2.2.2.2.1 s.2.2.2.2.2.2 pf n g = (!(nB pg md s n).isEmpty, (nB pg md s n).foldl (fun g c => r c.2 ((List.range d).map pf ++ [c.1]) g) g) := fun g => by
      have hm := fun c hc => hin c (List.mem_append_right _ hc)
      by_cases q : s.2.2.2.2.2.2 &&& pg 8 n = 0
      · unfold goB nB
        rw [if_pos q, if_pos q]; rfl
      · have hne : (nB pg md s n).isEmpty = false := by
          cases hb : nB pg md s n with
          | nil => exact absurd (hcov n (by omega) hb) q
          | cons _ _ => rfl
        rw [hne]
        unfold goB
        unfold nB at hm ⊢
        rw [if_neg q] at hm ⊢
        rw [if_neg q]
        refine Prod.ext rfl ?_
        show (if md = 1 then _ else _) = _
        by_cases m : md = 1
        · rw [if_pos m] at hm ⊢
          rw [if_pos m]
          exact letG_f hd (fun c hc g => h c (hm c hc) g) g
        · rw [if_neg m] at hm ⊢
          rw [if_neg m, List.foldl_append, List.foldl_append]
          rw [letG_f hd (fun c hc g => h c (hm c (List.mem_append_left _ hc)) g), letG_f hd (fun c hc g => h c (hm c (List.mem_append_right _ (List.mem_append_left _ hc))) g), letG_f hd (fun c hc g => h c (hm c (List.mem_append_right _ (List.mem_append_right _ hc))) g)]
    rw [goT, ih, eN, eB, List.range_succ, List.flatMap_append, List.flatMap_cons, List.flatMap_nil, List.append_nil, List.foldl_append, List.foldl_append]
    refine Prod.ext ?_ rfl
    dsimp only
    rw [Bool.not_not, Bool.not_not, ie_app, ie_app, Bool.and_assoc]
theorem goT_14 {nx : NX} {s : S7} {pf : Nat → Int32} {g : G9} : ∀ n, (∀ t, t < n → s.2.2.2.2.2.2 &&& pg 8 t = 0) → goT pg nm md nx 14 s.1 s.2.1 s.2.2.1 s.2.2.2.1 s.2.2.2.2.1 s.2.2.2.2.2.1 s.2.2.2.2.2.2 pf n g = (true, g)
  | 0, _ => rfl
  | n + 1, h => by
    rw [goT, goT_14 n (fun t ht => h t (by omega))]
    have eN : goN pg nm md nx 14 s.1 s.2.1 s.2.2.1 s.2.2.2.1 s.2.2.2.2.1 s.2.2.2.2.2.1 s.2.2.2.2.2.2 pf n g = (false, g) := by
      unfold goN; rw [if_neg (fun z => absurd z.2.1 (by decide))]
    have eB : goB pg md nx 14 s.1 s.2.1 s.2.2.1 s.2.2.2.1 s.2.2.2.2.1 s.2.2.2.2.2.1 s.2.2.2.2.2.2 pf n g = (false, g) := by
      unfold goB; rw [if_pos (h n (Nat.lt_succ_self n))]
    dsimp only
    rw [eN]; dsimp only; rw [eB]; rfl
/-- the class's walk is the search with memory -/
theorem visit_mdf {Iv : S7 → Prop} {rk : S7 → Nat} (hch : ∀ s c, Iv s → c ∈ nxC pg nm md T s → Iv c.2 ∧ rk c.2 < rk s) (hcov : ∀ s, Iv s → ∀ t, t < T → nB pg md s t = [] → s.2.2.2.2.2.2 &&& pg 8 t = 0) :
    ∀ k, k ≤ 14 → ∀ (s : S7) (pf : Nat → Int32) (g : G9), Iv s → rk s ≤ k → visit E T Ac pg nm md k s.1 s.2.1 s.2.2.1 s.2.2.2.1 s.2.2.2.2.1 s.2.2.2.2.2.1 s.2.2.2.2.2.2 pf g = mdf knC (preC pg md T Ac) (nxC pg nm md T) (finC E) (k + 1) s ((List.range (14 - k)).map pf) g
  | 0, _, s, pf, g, hI, hr => by
    have hnil : nxC pg nm md T s = [] := by
      cases hn : nxC pg nm md T s with
      | nil => rfl
      | cons c l => have := (hch s c hI (by rw [hn]; exact List.mem_cons_self ..)).2; omega
    have hz : ∀ t, t < T → s.2.2.2.2.2.2 &&& pg 8 t = 0 := fun t ht => hcov s hI t ht (List.append_eq_nil_iff.mp (fl_emp hnil t (List.mem_range.mpr ht))).2
    rw [visit, mdf, hnil]
    unfold one9 knC
    by_cases q : hasK g (keyB s.2.1 s.1 s.2.2.2.2.2.1 s.2.2.2.2.2.2) = true
    · rw [if_pos q, if_pos q]
    · rw [if_neg q, if_neg q, goT_14 T hz]; rfl
  | k + 1, hk, s, pf, g, hI, hr => by
    rw [visit, mdf]
    unfold one9
    show (if hasK g (keyB s.2.1 s.1 s.2.2.2.2.2.1 s.2.2.2.2.2.2) = true then g else _) = (if hasK g (keyB s.2.1 s.1 s.2.2.2.2.2.1 s.2.2.2.2.2.2) = true then g else _)
    by_cases q : hasK g (keyB s.2.1 s.1 s.2.2.2.2.2.1 s.2.2.2.2.2.2) = true
    · rw [if_pos q, if_pos q]
    · rw [if_neg q, if_neg q, goT_f (r := fun s2 p g => mdf knC (preC pg md T Ac) (nxC pg nm md T) (finC E) (k + 1) s2 p g) (by omega) (hcov s hI) (fun c hc g => by
        obtain ⟨c1, c2⟩ := hch s c hI hc
        rw [visit_mdf hch hcov k (by omega) c.2 _ g c1 (by omega), (by omega : 14 - k = 13 - k + 1), path_s]) _ T (Nat.le_refl T)]
      rw [(by omega : 14 - (k + 1) = 13 - k)]
      unfold endG
      show (if (nxC pg nm md T s).isEmpty = true then _ else _) = _
      by_cases c : (nxC pg nm md T s).isEmpty = true
      · rw [if_pos c, if_pos c]
        show addOut _ _ _ _ ((nxC pg nm md T s).foldl _ _) = _
        rw [List.isEmpty_iff.mp c]; rfl
      · rw [if_neg c, if_neg c]; rfl
end VIS
