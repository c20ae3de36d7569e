theorem fold_flat {A B C : Type} {f : A → List B} {h : C → B → C} : ∀ (l : List A) (g : C), (l.flatMap f).foldl h g = l.foldl (fun g a => (f a).foldl h g) g
  | [], _ => rfl
  | a :: l, g => by rw [List.flatMap_cons, List.foldl_append, List.foldl_cons, fold_flat l]
theorem fold_cg9 {A C : Type} {h k : C → A → C} : ∀ (l : List A) (g : C), (∀ a, a ∈ l → ∀ g, h g a = k g a) → l.foldl h g = l.foldl k g
  | [], _, _ => rfl
  | a :: l, g, q => by rw [List.foldl_cons, List.foldl_cons, q a (List.mem_cons_self ..), fold_cg9 l _ (fun b hb => q b (List.mem_cons_of_mem _ hb))]
/-- who may come to a row of the reference's graph -/
def rcI (gm : Nat) (kd vx hp : Nat → Nat) (x : Nat) (l : List Nat) (t n : Nat) : List Nat := ((List.range n).map (fun i => 7 * t + i)).filter (fun a => decide (ofP gm kd vx hp a x ∧ ¬ a ∈ l))
def rcL (gm T : Nat) (zs kd vx hp : Nat → Nat) (x : Nat) (l : List Nat) : List Nat := (List.range T).flatMap (fun t => rcI gm kd vx hp x l t (zs t))
theorem rcI_s {gm : Nat} {kd vx hp : Nat → Nat} {x : Nat} {l : List Nat} {t n : Nat} : rcI gm kd vx hp x l t (n + 1) = rcI gm kd vx hp x l t n ++ (if ofP gm kd vx hp (7 * t + n) x ∧ ¬ (7 * t + n) ∈ l then [7 * t + n] else []) := by
  unfold rcI
  rw [List.range_succ, List.map_append, List.filter_append]
  refine congrArg (fun z : List Nat => ((List.range n).map (fun i => 7 * t + i)).filter _ ++ z) ?_
  show List.filter _ [7 * t + n] = _
  by_cases q : ofP gm kd vx hp (7 * t + n) x ∧ ¬ (7 * t + n) ∈ l
  · rw [if_pos q, List.filter_cons_of_pos (p := fun a => decide (ofP gm kd vx hp a x ∧ ¬ a ∈ l)) (decide_eq_true q)]; rfl
  · rw [if_neg q, List.filter_cons_of_neg (p := fun a => decide (ofP gm kd vx hp a x ∧ ¬ a ∈ l)) (by rw [decide_eq_false q]; exact Bool.false_ne_true)]; rfl
theorem fil_emp {A : Type} {l : List A} {p : A → Bool} : (l ++ []).isEmpty = l.isEmpty := by rw [List.append_nil]
theorem rwI_f {gm : Nat} {kd vx hp : Nat → Nat} {mf : List Nat → Nat → Nat → Bool} {rec : (Nat → List Nat) → GG → GG} {x : Nat} {RL : Nat → List Nat} {t : Nat} {r : Bool × GG} : ∀ n, rwI gm kd vx hp mf rec x RL t r n =
    (r.1 || !(rcI gm kd vx hp x (RL x) t n).isEmpty, ((rcI gm kd vx hp x (RL x) t n).filter (fun a => mf (RL x) a x)).foldl (fun g a => rec (updR RL x (RL x ++ [a])) g) r.2)
  | 0 => by
    show r = (r.1 || false, r.2)
    rw [Bool.or_false]
  | n + 1 => by
    rw [rcI_s, List.filter_append, List.foldl_append, ie_app]
    unfold rwI
    rw [rwI_f n]
    by_cases q : ofP gm kd vx hp (7 * t + n) x ∧ ¬ (7 * t + n) ∈ RL x
    · rw [if_pos q, if_pos q]
      refine Prod.ext ?_ ?_
      · show true = (r.1 || !(_ && false))
        rw [Bool.and_false, Bool.not_false, Bool.or_true]
      · show (if mf (RL x) (7 * t + n) x = true then _ else _) = _
        by_cases m : mf (RL x) (7 * t + n) x = true
        · rw [if_pos m, List.filter_cons_of_pos (p := fun a => mf (RL x) a x) m]; rfl
        · rw [if_neg m, List.filter_cons_of_neg (p := fun a => mf (RL x) a x) m]; rfl
    · rw [if_neg q, if_neg q]
      refine Prod.ext ?_ rfl
      show _ = (r.1 || !(_ && true))
      rw [Bool.and_true]
theorem rwTt_f {gm : Nat} {zs kd vx hp : Nat → Nat} {mf : List Nat → Nat → Nat → Bool} {rec : (Nat → List Nat) → GG → GG} {x : Nat} {RL : Nat → List Nat} {g : GG} : ∀ T, rwTt gm zs kd vx hp mf rec x RL g T =
    (!(rcL gm T zs kd vx hp x (RL x)).isEmpty, ((rcL gm T zs kd vx hp x (RL x)).filter (fun a => mf (RL x) a x)).foldl (fun g a => rec (updR RL x (RL x ++ [a])) g) g)
  | 0 => rfl
  | T + 1 => by
    unfold rwTt
    rw [rwTt_f T, rwI_f]
    have e : rcL gm (T + 1) zs kd vx hp x (RL x) = rcL gm T zs kd vx hp x (RL x) ++ rcI gm kd vx hp x (RL x) T (zs T) := by
      unfold rcL
      rw [List.range_succ, List.flatMap_append, List.flatMap_cons, List.flatMap_nil, List.append_nil]
    rw [e, List.filter_append, List.foldl_append, ie_app]
    refine Prod.ext ?_ rfl
    show (!_ || !_) = !(_ && _)
    rw [Bool.not_and]
/-- the rows that the reference lays -/
def rwLv (gm T : Nat) (zs kd vx hp : Nat → Nat) (mf : List Nat → Nat → Nat → Bool) : Nat → Nat → (Nat → List Nat) → List (Nat → List Nat)
  | 0, _, _ => []
  | n + 1, x, RL => if x = 4 then [RL] else if (rcL gm T zs kd vx hp x (RL x)).isEmpty = true then rwLv gm T zs kd vx hp mf n (x + 1) RL else ((rcL gm T zs kd vx hp x (RL x)).filter (fun a => mf (RL x) a x)).flatMap (fun a => rwLv gm T zs kd vx hp mf n x (updR RL x (RL x ++ [a])))
theorem rwR_f {gm T : Nat} {zs kd vx hp : Nat → Nat} {mf : List Nat → Nat → Nat → Bool} {std : (Nat → List Nat) → Bool} {nvL : (Nat → List Nat) → List Int32} : ∀ n x RL g, rwR gm T zs kd vx hp mf std nvL n x RL g = (rwLv gm T zs kd vx hp mf n x RL).foldl (fun g L => whR (std L) (nvL L) g) g
  | 0, _, _, _ => rfl
  | n + 1, x, RL, g => by
    unfold rwR rwLv
    by_cases e : x = 4
    · rw [if_pos e, if_pos e]; rfl
    · rw [if_neg e, if_neg e, rwTt_f]
      dsimp only
      by_cases q : (rcL gm T zs kd vx hp x (RL x)).isEmpty = true
      · rw [if_pos q, q, if_neg (by decide), List.isEmpty_iff.mp q]
        exact rwR_f n (x + 1) RL g
      · rw [if_neg q, if_pos (by simpa using q), fold_flat]
        exact fold_cg9 _ _ (fun a _ g => rwR_f n x _ g)
/-- the choices of FROM that the reference tries -/
def cbI (kd vx li fl : Nat → Nat) (k t n : Nat) : List Nat := ((List.range n).map (fun i => 7 * t + i)).filter (fun b => decide (cnP kd vx li k b ∧ frL kd li (updN fl k (b + 1)) k))
theorem cbI_s {kd vx li fl : Nat → Nat} {k t n : Nat} : cbI kd vx li fl k t (n + 1) = cbI kd vx li fl k t n ++ (if cnP kd vx li k (7 * t + n) ∧ frL kd li (updN fl k (7 * t + n + 1)) k then [7 * t + n] else []) := by
  unfold cbI
  rw [List.range_succ, List.map_append, List.filter_append]
  refine congrArg (fun z : List Nat => ((List.range n).map (fun i => 7 * t + i)).filter _ ++ z) ?_
  show List.filter _ [7 * t + n] = _
  by_cases q : cnP kd vx li k (7 * t + n) ∧ frL kd li (updN fl k (7 * t + n + 1)) k
  · rw [if_pos q, List.filter_cons_of_pos (p := fun b => decide (cnP kd vx li k b ∧ frL kd li (updN fl k (b + 1)) k)) (decide_eq_true q)]; rfl
  · rw [if_neg q, List.filter_cons_of_neg (p := fun b => decide (cnP kd vx li k b ∧ frL kd li (updN fl k (b + 1)) k)) (by rw [decide_eq_false q]; exact Bool.false_ne_true)]; rfl
theorem gchI_f {kd vx li : Nat → Nat} {rec : (Nat → Nat) → GG → GG} {k : Nat} {fl : Nat → Nat} {t : Nat} {g : GG} : ∀ n, gchI kd vx li rec k fl t g n = (cbI kd vx li fl k t n).foldl (fun g b => rec (updN fl k (b + 1)) g) g
  | 0 => rfl
  | n + 1 => by
    rw [cbI_s, List.foldl_append]
    unfold gchI
    rw [gchI_f n]
    by_cases q : cnP kd vx li k (7 * t + n) ∧ frL kd li (updN fl k (7 * t + n + 1)) k
    · rw [if_pos q, if_pos q]; rfl
    · rw [if_neg q, if_neg q]; rfl
def cbL (T : Nat) (zs kd vx li fl : Nat → Nat) (k : Nat) : List Nat := (List.range T).flatMap (fun t => cbI kd vx li fl k t (zs t))
theorem gchT_f {zs kd vx li : Nat → Nat} {rec : (Nat → Nat) → GG → GG} {k : Nat} {fl : Nat → Nat} {g : GG} : ∀ T, gchT zs kd vx li rec k fl g T = (cbL T zs kd vx li fl k).foldl (fun g b => rec (updN fl k (b + 1)) g) g
  | 0 => rfl
  | T + 1 => by
    unfold gchT
    rw [gchT_f T, gchI_f]
    have e : cbL (T + 1) zs kd vx li fl k = cbL T zs kd vx li fl k ++ cbI kd vx li fl k T (zs T) := by
      unfold cbL
      rw [List.range_succ, List.flatMap_append, List.flatMap_cons, List.flatMap_nil, List.append_nil]
    rw [e, List.foldl_append]
def gcL (T : Nat) (zs kd vx li : Nat → Nat) : Nat → Nat → (Nat → Nat) → List (Nat → Nat)
  | 0, _, fl => [fl]
  | n + 1, k, fl => (if frL kd li (updN fl k 0) k then gcL T zs kd vx li n (k + 1) (updN fl k 0) else []) ++ (cbL T zs kd vx li fl k).flatMap (fun b => gcL T zs kd vx li n (k + 1) (updN fl k (b + 1)))
theorem gchR_f {T : Nat} {zs kd vx li : Nat → Nat} {on : (Nat → Nat) → GG → GG} : ∀ n k fl g, gchR T zs kd vx li on n k fl g = (gcL T zs kd vx li n k fl).foldl (fun g fl => on fl g) g
  | 0, _, _, _ => rfl
  | n + 1, k, fl, g => by
    unfold gchR gcL
    rw [gchT_f, List.foldl_append, fold_flat]
    have e : (if frL kd li (updN fl k 0) k then gchR T zs kd vx li on n (k + 1) (updN fl k 0) g else g) = (if frL kd li (updN fl k 0) k then gcL T zs kd vx li n (k + 1) (updN fl k 0) else []).foldl (fun g fl => on fl g) g := by
      by_cases q : frL kd li (updN fl k 0) k
      · rw [if_pos q, if_pos q]; exact gchR_f n (k + 1) _ g
      · rw [if_neg q, if_neg q]; rfl
    rw [e]
    exact fold_cg9 _ _ (fun b _ g => gchR_f n (k + 1) _ g)
/-- all graphs that the reference looks at -/
noncomputable def rfL (gm K N0 N1 T ld : Nat) (zs kd vx rr li : Nat → Nat) (vv : Nat → Int32) : List ((Nat → Nat) × (Nat → List Nat)) :=
  (gcL T zs kd vx li ld 0 (fun _ => 0)).flatMap (fun fl => if goP T ld zs kd vx li (fQ li ld fl) (gzQ K N0 T ld zs kd vx rr li vv fl) then (rwLv gm T zs kd vx (gzQ K N0 T ld zs kd vx rr li vv fl).2.2.2.1 (fun l a x => decide (mfL kd vx li (fQ li ld fl) (gzQ K N0 T ld zs kd vx rr li vv fl).2.2.2.1 ld l a x)) (N1 + 1) 0 (fun _ => [])).map (fun RL => (fl, RL)) else [])
theorem ref_graphs_f {gm K N0 N1 T ld : Nat} {zs kd vx rr li : Nat → Nat} {vv : Nat → Int32} {std : (Nat → Nat) → (Nat → List Nat) → Bool} {g : GG} :
    gchR T zs kd vx li (onR gm K N0 N1 T ld zs kd vx rr li vv std) ld 0 (fun _ => 0) g = (rfL gm K N0 N1 T ld zs kd vx rr li vv).foldl (fun g L => whR (std L.1 L.2) (v11 (nvR (gzQ K N0 T ld zs kd vx rr li vv L.1).2.1 (gzQ K N0 T ld zs kd vx rr li vv L.1).2.2.1 L.2)) g) g := by
  rw [gchR_f]
  unfold rfL
  rw [fold_flat]
  refine fold_cg9 _ _ (fun fl _ g => ?_)
  unfold onR
  by_cases q : goP T ld zs kd vx li (fQ li ld fl) (gzQ K N0 T ld zs kd vx rr li vv fl)
  · rw [if_pos q, if_pos q, rwR_f, List.foldl_map]
  · rw [if_neg q, if_neg q]; rfl
theorem adO_in {L : List O9} {v : List Int32} (h : L.length < 4000 ∨ ∃ r, r ∈ L ∧ r.1 = v) (w : List Int32) : (∃ r, r ∈ adO L v [] ∧ r.1 = w) ↔ (∃ r, r ∈ L ∧ r.1 = w) ∨ w = v := by
  unfold adO
  by_cases k : L.any (fun r => r.1 == v) = true
  · rw [if_pos k]
    obtain ⟨r, hr, e⟩ := List.any_eq_true.mp k
    have e : r.1 = v := by simpa using e
    exact ⟨fun q => Or.inl q, fun q => by
      rcases q with q | q
      · exact q
      · exact ⟨r, hr, by rw [q]; exact e⟩⟩
  · have hl : L.length < 4000 := by
      rcases h with h | ⟨r, hr, e⟩
      · exact h
      · exact absurd (List.any_eq_true.mpr ⟨r, hr, by simpa using e⟩) k
    rw [if_neg k, if_pos hl]
    constructor
    · rintro ⟨r, hr, e⟩
      rcases List.mem_append.mp hr with q | q
      · exact Or.inl ⟨r, q, e⟩
      · rw [List.mem_singleton.mp q] at e; exact Or.inr e.symm
    · rintro (⟨r, hr, e⟩ | e)
      · exact ⟨r, List.mem_append_left _ hr, e⟩
      · exact ⟨(v, []), List.mem_append_right _ (List.mem_singleton.mpr rfl), e.symm⟩
/-- how many stand, and their outcomes -/
theorem wh_fold {X : Type} {sd : X → Bool} {nv : X → List Int32} : ∀ (l : List X) (g : GG), (l.foldl (fun g L => whR (sd L) (nv L) g) g).1 = g.1 + (l.filter sd).length ∧ (l.foldl (fun g L => whR (sd L) (nv L) g) g).2 = (l.filter sd).foldl (fun o L => adO o (nv L) []) g.2
  | [], _ => ⟨rfl, rfl⟩
  | a :: l, g => by
    obtain ⟨h1, h2⟩ := wh_fold (sd := sd) (nv := nv) l (whR (sd a) (nv a) g)
    rw [List.foldl_cons, h1, h2]
    unfold whR
    cases q : sd a with
    | true => rw [List.filter_cons_of_pos q, if_pos rfl, List.length_cons, List.foldl_cons]; exact ⟨by dsimp only; omega, rfl⟩
    | false => rw [List.filter_cons_of_neg (by rw [q]; exact Bool.false_ne_true), if_neg Bool.false_ne_true]; exact ⟨rfl, rfl⟩
