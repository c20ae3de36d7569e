/-- an outcome comes to a list with its run, if it isn't there -/
noncomputable def adV {V : Type} (L : List (V × List Int32)) (v : V) (p : List Int32) : List (V × List Int32) := @ite _ (∃ r, r ∈ L ∧ r.1 = v) (Classical.propDecidable _) L (L ++ [(v, p)])
def inV {V : Type} (L : List (V × List Int32)) (v : V) : Prop := ∃ r, r ∈ L ∧ r.1 = v
theorem adV_y {V : Type} {L : List (V × List Int32)} {v : V} {p : List Int32} (h : inV L v) : adV L v p = L := by unfold adV; exact if_pos h
theorem adV_n {V : Type} {L : List (V × List Int32)} {v : V} {p : List Int32} (h : ¬ inV L v) : adV L v p = L ++ [(v, p)] := by unfold adV; exact if_neg h
theorem inV_ad {V : Type} {L : List (V × List Int32)} {v w : V} {p : List Int32} : inV (adV L v p) w ↔ inV L w ∨ w = v := by
  by_cases h : inV L v
  · rw [adV_y h]
    exact ⟨Or.inl, fun q => by
      rcases q with q | q
      · exact q
      · rw [q]; exact h⟩
  · rw [adV_n h]
    constructor
    · rintro ⟨r, hr, e⟩
      rcases List.mem_append.mp hr with hr | hr
      · exact Or.inl ⟨r, hr, e⟩
      · rw [List.mem_singleton.mp hr] at e; exact Or.inr e.symm
    · rintro (⟨r, hr, e⟩ | e)
      · exact ⟨r, List.mem_append_left _ hr, e⟩
      · exact ⟨(v, p), List.mem_append_right _ (List.mem_singleton.mpr rfl), e.symm⟩
theorem adV_len {V : Type} {L : List (V × List Int32)} {v : V} {p : List Int32} : L.length ≤ (adV L v p).length := by
  by_cases h : inV L v
  · rw [adV_y h]; exact Nat.le_refl _
  · rw [adV_n h, List.length_append]; exact Nat.le_add_right _ _
/-- all runs from a state on, none left out -/
noncomputable def pdf {S V : Type} (nx : S → List (Int32 × S)) (oc : S → V) : Nat → S → List Int32 → List (V × List Int32) → List (V × List Int32)
  | 0, _, _, f => f
  | n + 1, s, p, f => if (nx s).isEmpty = true then adV f (oc s) p else (nx s).foldl (fun f c => pdf nx oc n c.2 (p ++ [c.1]) f) f
/-- the outcomes from a state on -/
def ous {S V : Type} (nx : S → List (Int32 × S)) (oc : S → V) : Nat → S → V → Prop
  | 0, _, _ => False
  | n + 1, s, v => if (nx s).isEmpty = true then v = oc s else ∃ c, c ∈ nx s ∧ ous nx oc n c.2 v
/-- the marks of the states from a state on -/
def mks {S : Type} (nx : S → List (Int32 × S)) (rp : S → Nat → Nat → Prop) : Nat → S → Nat → Nat → Prop
  | 0, _, _, _ => False
  | n + 1, s, a, b => rp s a b ∨ ∃ c, c ∈ nx s ∧ mks nx rp n c.2 a b
/-- the same, but what is known is not gone through again -/
def mdf {S G : Type} (kn : G → S → Bool) (pre : S → G → G) (nx : S → List (Int32 × S)) (fin : S → List Int32 → G → G) : Nat → S → List Int32 → G → G
  | 0, _, _, g => g
  | n + 1, s, p, g => if kn g s = true then g else if (nx s).isEmpty = true then fin s p (pre s g) else (nx s).foldl (fun g c => mdf kn pre nx fin n c.2 (p ++ [c.1]) g) (pre s g)
theorem fold_id {A B : Type} {h : B → A → B} {f : B} : ∀ l : List A, (∀ c, c ∈ l → h f c = f) → l.foldl h f = f
  | [], _ => rfl
  | a :: l, q => by rw [List.foldl_cons, q a (List.mem_cons_self ..)]; exact fold_id l (fun c hc => q c (List.mem_cons_of_mem _ hc))
theorem pdf_id {S V : Type} {nx : S → List (Int32 × S)} {oc : S → V} : ∀ n s p f, (∀ v, ous nx oc n s v → inV f v) → pdf nx oc n s p f = f
  | 0, _, _, _, _ => rfl
  | n + 1, s, p, f, h => by
    unfold pdf
    by_cases c : (nx s).isEmpty = true
    · rw [if_pos c]; exact adV_y (h _ (by unfold ous; rw [if_pos c]))
    · rw [if_neg c]
      exact fold_id _ (fun x hx => pdf_id n x.2 _ f (fun v hv => h v (by unfold ous; rw [if_neg c]; exact ⟨x, hx, hv⟩)))
theorem fold_len {A B : Type} {h : List B → A → List B} (q : ∀ f c, f.length ≤ (h f c).length) : ∀ (l : List A) (f : List B), f.length ≤ (l.foldl h f).length
  | [], _ => Nat.le_refl _
  | a :: l, f => Nat.le_trans (q f a) (fold_len q l (h f a))
theorem pdf_len {S V : Type} {nx : S → List (Int32 × S)} {oc : S → V} : ∀ n s p f, f.length ≤ (pdf nx oc n s p f).length
  | 0, _, _, _ => Nat.le_refl _
  | n + 1, s, p, f => by
    unfold pdf
    by_cases c : (nx s).isEmpty = true
    · rw [if_pos c]; exact adV_len
    · rw [if_neg c]; exact fold_len (fun f (x : Int32 × S) => pdf_len n x.2 (p ++ [x.1]) f) _ f
section MD
variable {S V G : Type} (kn : G → S → Bool) (pre : S → G → G) (nx : S → List (Int32 × S)) (fin : S → List Int32 → G → G) (oc : S → V) (rp : S → Nat → Nat → Prop) (Iv : S → Prop) (rk : S → Nat) (sk : S → S → Prop) (fo : G → List (V × List Int32)) (mk : G → Nat → Nat → Prop) (B : Nat)
/-- all that comes behind a state is gathered -/
def cmp9 (s : S) (g : G) : Prop := (∀ n v, ous nx oc n s v → inV (fo g) v) ∧ ∀ n a b, mks nx rp n s a b → mk g a b
/-- what the gathering must keep -/
def md9 : Prop :=
  (∀ s c, Iv s → c ∈ nx s → Iv c.2 ∧ rk c.2 < rk s) ∧ (∀ s g, Iv s → fo (pre s g) = fo g) ∧ (∀ s g a b, Iv s → (mk (pre s g) a b ↔ mk g a b ∨ rp s a b)) ∧ (∀ s g s', Iv s → Iv s' → kn (pre s g) s' = true → kn g s' = true ∨ sk s s') ∧
  (∀ s p g, Iv s → (adV (fo g) (oc s) p).length ≤ B → fo (fin s p g) = adV (fo g) (oc s) p) ∧ (∀ s p g a b, mk (fin s p g) a b ↔ mk g a b) ∧ (∀ s p g s', kn (fin s p g) s' = kn g s') ∧
  (∀ s s', Iv s → Iv s' → sk s s' → rk s' = rk s ∧ (∀ n v, ous nx oc n s' v → ous nx oc n s v) ∧ ∀ n a b, mks nx rp n s' a b → mks nx rp n s a b)
/-- what holds behind a state that has been gone through -/
def aft9 (s : S) (g g' : G) (f : List (V × List Int32)) : Prop :=
  fo g' = f ∧ cmp9 nx oc rp fo mk s g' ∧ (∀ s', Iv s' → kn g' s' = true → kn g s' = true ∨ rk s' ≤ rk s) ∧ (∀ s', Iv s' → kn g' s' = true → rk s' ≤ rk s → cmp9 nx oc rp fo mk s' g') ∧
  (∀ v, inV (fo g) v → inV (fo g') v) ∧ (∀ a b, mk g a b → mk g' a b) ∧ ∀ a b, mk g' a b → mk g a b ∨ ∃ n, mks nx rp n s a b
theorem cmp9_up {s : S} {g g' : G} (h : cmp9 nx oc rp fo mk s g) (h1 : ∀ v, inV (fo g) v → inV (fo g') v) (h2 : ∀ a b, mk g a b → mk g' a b) : cmp9 nx oc rp fo mk s g' :=
  ⟨fun n v q => h1 v (h.1 n v q), fun n a b q => h2 a b (h.2 n a b q)⟩
theorem md_fold (H : md9 kn pre nx fin oc rp Iv rk sk fo mk B) (s : S) (hI : Iv s) (n : Nat) (p : List Int32)
    (ih : ∀ (c : Int32 × S) (g : G), c ∈ nx s → (∀ s', Iv s' → kn g s' = true → rk s' ≤ rk c.2 → cmp9 nx oc rp fo mk s' g) → (pdf nx oc n c.2 (p ++ [c.1]) (fo g)).length ≤ B → aft9 kn nx oc rp Iv rk fo mk c.2 g (mdf kn pre nx fin n c.2 (p ++ [c.1]) g) (pdf nx oc n c.2 (p ++ [c.1]) (fo g))) :
    ∀ (l : List (Int32 × S)) (g : G), (∀ c, c ∈ l → c ∈ nx s) → (∀ s', Iv s' → kn g s' = true → rk s' < rk s → cmp9 nx oc rp fo mk s' g) → (l.foldl (fun f c => pdf nx oc n c.2 (p ++ [c.1]) f) (fo g)).length ≤ B →
      ∃ g', g' = l.foldl (fun g c => mdf kn pre nx fin n c.2 (p ++ [c.1]) g) g ∧ fo g' = l.foldl (fun f c => pdf nx oc n c.2 (p ++ [c.1]) f) (fo g) ∧ (∀ c, c ∈ l → cmp9 nx oc rp fo mk c.2 g') ∧ (∀ s', Iv s' → kn g' s' = true → kn g s' = true ∨ rk s' < rk s) ∧ (∀ s', Iv s' → kn g' s' = true → rk s' < rk s → cmp9 nx oc rp fo mk s' g') ∧
        (∀ v, inV (fo g) v → inV (fo g') v) ∧ (∀ a b, mk g a b → mk g' a b) ∧ ∀ a b, mk g' a b → mk g a b ∨ ∃ n c, c ∈ l ∧ mks nx rp n c.2 a b
  | [], g, _, hQ, _ => ⟨g, rfl, rfl, fun c hc => absurd hc (List.not_mem_nil), fun s' _ q => Or.inl q, hQ, fun _ q => q, fun _ _ q => q, fun _ _ q => Or.inl q⟩
  | c :: l, g, hl, hQ, hB => by
    have hc := hl c (List.mem_cons_self ..)
    obtain ⟨hIc, hrc⟩ := H.1 s c hI hc
    rw [List.foldl_cons] at hB
    have hB1 : (pdf nx oc n c.2 (p ++ [c.1]) (fo g)).length ≤ B := Nat.le_trans (fold_len (fun f c => pdf_len n c.2 _ f) l _) hB
    obtain ⟨a1, a2, a3, a4, a5, a6, a7⟩ := ih c g hc (fun s' h1 h2 h3 => hQ s' h1 h2 (by omega)) hB1
    generalize hg1 : mdf kn pre nx fin n c.2 (p ++ [c.1]) g = g1 at a1 a2 a3 a4 a5 a6 a7
    have hQ1 : ∀ s', Iv s' → kn g1 s' = true → rk s' < rk s → cmp9 nx oc rp fo mk s' g1 := fun s' h1 h2 h3 => by
      by_cases q : rk s' ≤ rk c.2
      · exact a4 s' h1 h2 q
      · rcases a3 s' h1 h2 with h | h
        · exact cmp9_up nx oc rp fo mk (hQ s' h1 h h3) a5 a6
        · exact absurd h q
    rw [← a1] at hB
    obtain ⟨g', e, b1, b2, b3, b4, b5, b6, b7⟩ := md_fold H s hI n p ih l g1 (fun c hc => hl c (List.mem_cons_of_mem _ hc)) hQ1 hB
    refine ⟨g', ?_, ?_, fun x hx => ?_, fun s' h1 h2 => ?_, b4, fun v q => b5 v (a5 v q), fun a b q => b6 a b (a6 a b q), fun a b q => ?_⟩
    · rw [List.foldl_cons, hg1]; exact e
    · rw [List.foldl_cons, b1, a1]
    · rcases List.mem_cons.mp hx with hx | hx
      · rw [hx]; exact cmp9_up nx oc rp fo mk a2 b5 b6
      · exact b2 x hx
    · rcases b3 s' h1 h2 with h | h
      · rcases a3 s' h1 h with h | h
        · exact Or.inl h
        · exact Or.inr (by omega)
      · exact Or.inr h
    · rcases b7 a b q with h | ⟨m, x, hx, h⟩
      · rcases a7 a b h with h | ⟨m, h⟩
        · exact Or.inl h
        · exact Or.inr ⟨m, c, List.mem_cons_self .., h⟩
      · exact Or.inr ⟨m, x, List.mem_cons_of_mem _ hx, h⟩
theorem md_main (H : md9 kn pre nx fin oc rp Iv rk sk fo mk B) : ∀ (n : Nat) (s : S) (p : List Int32) (g : G), Iv s → rk s < n → (∀ s', Iv s' → kn g s' = true → rk s' ≤ rk s → cmp9 nx oc rp fo mk s' g) → (pdf nx oc n s p (fo g)).length ≤ B →
    aft9 kn nx oc rp Iv rk fo mk s g (mdf kn pre nx fin n s p g) (pdf nx oc n s p (fo g))
  | 0, s, _, _, _, h, _, _ => absurd h (Nat.not_lt_zero _)
  | n + 1, s, p, g, hI, hr, hQ, hB => by
    have H' := H
    obtain ⟨k1, k2, k3, k4, k5, k6, k7, k8⟩ := H'
    by_cases hk : kn g s = true
    · have hc := hQ s hI hk (Nat.le_refl _)
      rw [pdf_id (n + 1) s p (fo g) (fun v hv => hc.1 _ v hv), mdf, if_pos hk]
      exact ⟨rfl, hc, fun s' _ q => Or.inl q, hQ, fun _ q => q, fun _ _ q => q, fun _ _ q => Or.inl q⟩
    · rw [mdf, if_neg hk]
      have hf := k2 s g hI
      have up1 : ∀ v, inV (fo g) v → inV (fo (pre s g)) v := fun v q => by rw [hf]; exact q
      have up2 : ∀ a b, mk g a b → mk (pre s g) a b := fun a b q => (k3 s g a b hI).mpr (Or.inl q)
      by_cases he : (nx s).isEmpty = true
      · rw [pdf, if_pos he] at hB ⊢
        rw [if_pos he]
        have ef := k5 s p (pre s g) hI (by rw [hf]; exact hB)
        rw [hf] at ef
        have hs : cmp9 nx oc rp fo mk s (fin s p (pre s g)) := by
          refine ⟨fun m v q => ?_, fun m a b q => ?_⟩
          · cases m with
            | zero => exact absurd q (fun h => h)
            | succ m => unfold ous at q; rw [if_pos he] at q; rw [ef]; exact inV_ad.mpr (Or.inr q)
          · cases m with
            | zero => exact absurd q (fun h => h)
            | succ m =>
              unfold mks at q
              rcases q with q | ⟨c, hc, -⟩
              · exact (k6 s p _ a b).mpr ((k3 s g a b hI).mpr (Or.inr q))
              · rw [List.isEmpty_iff.mp he] at hc; exact absurd hc (List.not_mem_nil)
        have up3 : ∀ v, inV (fo g) v → inV (fo (fin s p (pre s g))) v := fun v q => by rw [ef]; exact inV_ad.mpr (Or.inl q)
        have up4 : ∀ a b, mk g a b → mk (fin s p (pre s g)) a b := fun a b q => (k6 s p _ a b).mpr (up2 a b q)
        have kk : ∀ s', Iv s' → kn (fin s p (pre s g)) s' = true → kn g s' = true ∨ sk s s' := fun s' h1 h2 => by
          rw [k7] at h2; exact k4 s g s' hI h1 h2
        refine ⟨ef, hs, fun s' h1 h2 => ?_, fun s' h1 h2 h3 => ?_, up3, up4, fun a b q => ?_⟩
        · rcases kk s' h1 h2 with h | h
          · exact Or.inl h
          · exact Or.inr (by rw [(k8 s s' hI h1 h).1]; exact Nat.le_refl _)
        · rcases kk s' h1 h2 with h | h
          · exact cmp9_up nx oc rp fo mk (hQ s' h1 h h3) up3 up4
          · obtain ⟨e1, e2, e3⟩ := k8 s s' hI h1 h
            exact ⟨fun n v q => hs.1 n v (e2 n v q), fun n a b q => hs.2 n a b (e3 n a b q)⟩
        · rcases (k3 s g a b hI).mp ((k6 s p _ a b).mp q) with h | h
          · exact Or.inl h
          · exact Or.inr ⟨1, Or.inl h⟩
      · rw [pdf, if_neg he] at hB ⊢
        rw [if_neg he]
        rw [← hf] at hB
        obtain ⟨g', e, b1, b2, b3, b4, b5, b6, b7⟩ := md_fold kn pre nx fin oc rp Iv rk sk fo mk B H s hI n p (fun c g hc hq hb => md_main H n c.2 (p ++ [c.1]) g (k1 s c hI hc).1 (by have := (k1 s c hI hc).2; omega) hq hb) (nx s) (pre s g) (fun _ q => q) (fun s' h1 h2 h3 => by
          rcases k4 s g s' hI h1 h2 with h | h
          · exact cmp9_up nx oc rp fo mk (hQ s' h1 h (by omega)) up1 up2
          · have := (k8 s s' hI h1 h).1; omega) hB
        rw [hf] at b1
        rw [← e]
        have hs : cmp9 nx oc rp fo mk s g' := by
          refine ⟨fun m v q => ?_, fun m a b q => ?_⟩
          · cases m with
            | zero => exact absurd q (fun h => h)
            | succ m =>
              unfold ous at q; rw [if_neg he] at q
              obtain ⟨c, hc, q⟩ := q
              exact (b2 c hc).1 m v q
          · cases m with
            | zero => exact absurd q (fun h => h)
            | succ m =>
              unfold mks at q
              rcases q with q | ⟨c, hc, q⟩
              · exact b6 a b ((k3 s g a b hI).mpr (Or.inr q))
              · exact (b2 c hc).2 m a b q
        have kk : ∀ s', Iv s' → kn g' s' = true → (kn g s' = true ∨ sk s s') ∨ rk s' < rk s := fun s' h1 h2 => by
          rcases b3 s' h1 h2 with h | h
          · exact Or.inl (k4 s g s' hI h1 h)
          · exact Or.inr h
        refine ⟨b1, hs, fun s' h1 h2 => ?_, fun s' h1 h2 h3 => ?_, fun v q => b5 v (up1 v q), fun a b q => b6 a b (up2 a b q), fun a b q => ?_⟩
        · rcases kk s' h1 h2 with (h | h) | h
          · exact Or.inl h
          · exact Or.inr (by rw [(k8 s s' hI h1 h).1]; exact Nat.le_refl _)
          · exact Or.inr (by omega)
        · rcases kk s' h1 h2 with (h | h) | h
          · exact cmp9_up nx oc rp fo mk (hQ s' h1 h h3) (fun v q => b5 v (up1 v q)) (fun a b q => b6 a b (up2 a b q))
          · obtain ⟨e1, e2, e3⟩ := k8 s s' hI h1 h
            exact ⟨fun n v q => hs.1 n v (e2 n v q), fun n a b q => hs.2 n a b (e3 n a b q)⟩
          · exact b4 s' h1 h2 h
        · rcases b7 a b q with h | ⟨m, c, hc, h⟩
          · rcases (k3 s g a b hI).mp h with h | h
            · exact Or.inl h
            · exact Or.inr ⟨1, Or.inl h⟩
          · exact Or.inr ⟨m + 1, Or.inr ⟨c, hc, h⟩⟩
end MD
/-- a picture of the states: what comes of it is the same -/
theorem fold_cg {A B C : Type} {h : B → A → B} {k : B → C → B} {m : A → C} : ∀ (l : List A) (f : B), (∀ c, c ∈ l → ∀ f, h f c = k f (m c)) → l.foldl h f = (l.map m).foldl k f
  | [], _, _ => rfl
  | a :: l, f, q => by rw [List.foldl_cons, List.map_cons, List.foldl_cons, q a (List.mem_cons_self ..)]; exact fold_cg l _ (fun c hc => q c (List.mem_cons_of_mem _ hc))
theorem map_emp {A B : Type} {m : A → B} {l : List A} : (l.map m).isEmpty = l.isEmpty := by cases l <;> rfl
section SIM
variable {S A V : Type} {nx : S → List (Int32 × S)} {oc : S → V} {rp : S → Nat → Nat → Prop} {na : A → List (Int32 × A)} {oa : A → V} {ra9 : A → Nat → Nat → Prop} {ab : S → A} {Iv : S → Prop}
theorem pdf_sim (h1 : ∀ s, Iv s → (nx s).map (fun c => (c.1, ab c.2)) = na (ab s)) (h2 : ∀ s, Iv s → oc s = oa (ab s)) (h3 : ∀ s c, Iv s → c ∈ nx s → Iv c.2) : ∀ n s p f, Iv s → pdf nx oc n s p f = pdf na oa n (ab s) p f
  | 0, _, _, _, _ => rfl
  | n + 1, s, p, f, hI => by
    unfold pdf
    rw [← h1 s hI, map_emp, h2 s hI]
    by_cases c : (nx s).isEmpty = true
    · rw [if_pos c, if_pos c]
    · rw [if_neg c, if_neg c]
      exact fold_cg _ _ (fun x hx f => pdf_sim h1 h2 h3 n x.2 _ f (h3 s x hI hx))
theorem ous_sim (h1 : ∀ s, Iv s → (nx s).map (fun c => (c.1, ab c.2)) = na (ab s)) (h2 : ∀ s, Iv s → oc s = oa (ab s)) (h3 : ∀ s c, Iv s → c ∈ nx s → Iv c.2) : ∀ n s v, Iv s → (ous nx oc n s v ↔ ous na oa n (ab s) v)
  | 0, _, _, _ => Iff.rfl
  | n + 1, s, v, hI => by
    unfold ous
    rw [← h1 s hI, map_emp, h2 s hI]
    by_cases c : (nx s).isEmpty = true
    · rw [if_pos c, if_pos c]
    · rw [if_neg c, if_neg c]
      constructor
      · rintro ⟨x, hx, q⟩
        exact ⟨_, List.mem_map.mpr ⟨x, hx, rfl⟩, (ous_sim h1 h2 h3 n x.2 v (h3 s x hI hx)).mp q⟩
      · rintro ⟨y, hy, q⟩
        obtain ⟨x, hx, e⟩ := List.mem_map.mp hy
        subst e
        exact ⟨x, hx, (ous_sim h1 h2 h3 n x.2 v (h3 s x hI hx)).mpr q⟩
theorem mks_sim (h1 : ∀ s, Iv s → (nx s).map (fun c => (c.1, ab c.2)) = na (ab s)) (h2 : ∀ s a b, Iv s → (rp s a b ↔ ra9 (ab s) a b)) (h3 : ∀ s c, Iv s → c ∈ nx s → Iv c.2) : ∀ n s a b, Iv s → (mks nx rp n s a b ↔ mks na ra9 n (ab s) a b)
  | 0, _, _, _, _ => Iff.rfl
  | n + 1, s, a, b, hI => by
    unfold mks
    rw [← h1 s hI, h2 s a b hI]
    constructor
    · rintro (q | ⟨x, hx, q⟩)
      · exact Or.inl q
      · exact Or.inr ⟨_, List.mem_map.mpr ⟨x, hx, rfl⟩, (mks_sim h1 h2 h3 n x.2 a b (h3 s x hI hx)).mp q⟩
    · rintro (q | ⟨y, hy, q⟩)
      · exact Or.inl q
      · obtain ⟨x, hx, e⟩ := List.mem_map.mp hy
        subst e
        exact Or.inr ⟨x, hx, (mks_sim h1 h2 h3 n x.2 a b (h3 s x hI hx)).mpr q⟩
end SIM
/-- outcomes by other words -/
theorem adV_map {V W : Type} {en : V → W} {Ok : V → Prop} (hi : ∀ v w, Ok v → Ok w → en v = en w → v = w) {L : List (V × List Int32)} {v : V} {p : List Int32} (hL : ∀ r, r ∈ L → Ok r.1) (hv : Ok v) : adV (L.map (fun r => (en r.1, r.2))) (en v) p = (adV L v p).map (fun r => (en r.1, r.2)) := by
  by_cases h : inV L v
  · rw [adV_y h, adV_y]
    obtain ⟨r, hr, e⟩ := h
    exact ⟨_, List.mem_map.mpr ⟨r, hr, rfl⟩, by rw [e]⟩
  · rw [adV_n h, adV_n, List.map_append]
    · rfl
    · rintro ⟨r, hr, e⟩
      obtain ⟨x, hx, ex⟩ := List.mem_map.mp hr
      subst ex
      exact h ⟨x, hx, hi _ _ (hL x hx) hv e⟩
theorem adV_ok {V : Type} {Ok : V → Prop} {L : List (V × List Int32)} {v : V} {p : List Int32} (hL : ∀ r, r ∈ L → Ok r.1) (hv : Ok v) : ∀ r, r ∈ adV L v p → Ok r.1 := fun r hr => by
  by_cases h : inV L v
  · rw [adV_y h] at hr; exact hL r hr
  · rw [adV_n h] at hr
    rcases List.mem_append.mp hr with hr | hr
    · exact hL r hr
    · rw [List.mem_singleton.mp hr]; exact hv
theorem fold_map {A B C : Type} {h : B → A → B} {k : C → A → C} {m : B → C} {Ok : B → Prop} : ∀ (l : List A) (f : B), Ok f → (∀ c, c ∈ l → ∀ f, Ok f → k (m f) c = m (h f c) ∧ Ok (h f c)) → l.foldl k (m f) = m (l.foldl h f) ∧ Ok (l.foldl h f)
  | [], _, q, _ => ⟨rfl, q⟩
  | a :: l, f, q, hs => by
    obtain ⟨e1, e2⟩ := hs a (List.mem_cons_self ..) f q
    rw [List.foldl_cons, List.foldl_cons, e1]
    exact fold_map l _ e2 (fun c hc => hs c (List.mem_cons_of_mem _ hc))
theorem pdf_map {S V W : Type} {nx : S → List (Int32 × S)} {oc : S → V} {en : V → W} {Ok : V → Prop} {Iv : S → Prop} (hi : ∀ v w, Ok v → Ok w → en v = en w → v = w) (ho : ∀ s, Iv s → Ok (oc s)) (h3 : ∀ s c, Iv s → c ∈ nx s → Iv c.2) :
    ∀ n s p f, Iv s → (∀ r, r ∈ f → Ok r.1) → pdf nx (fun s => en (oc s)) n s p (f.map (fun r => (en r.1, r.2))) = (pdf nx oc n s p f).map (fun r => (en r.1, r.2)) ∧ ∀ r, r ∈ pdf nx oc n s p f → Ok r.1
  | 0, _, _, _, _, hf => ⟨rfl, hf⟩
  | n + 1, s, p, f, hI, hf => by
    unfold pdf
    by_cases c : (nx s).isEmpty = true
    · rw [if_pos c, if_pos c]
      exact ⟨adV_map hi hf (ho s hI), adV_ok hf (ho s hI)⟩
    · rw [if_neg c, if_neg c]
      exact fold_map (h := fun f (c : Int32 × S) => pdf nx oc n c.2 (p ++ [c.1]) f) (k := fun f (c : Int32 × S) => pdf nx (fun s => en (oc s)) n c.2 (p ++ [c.1]) f) (m := fun f : List (V × List Int32) => f.map (fun r => (en r.1, r.2))) (Ok := fun f => ∀ r, r ∈ f → Ok r.1) _ f hf (fun x hx f hf => pdf_map hi ho h3 n x.2 _ f (h3 s x hI hx) hf)
