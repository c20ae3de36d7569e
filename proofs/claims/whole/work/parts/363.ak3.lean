/-- each row begins with its first one -/
def FA (A : AK) : Prop := ∀ x, x < 4 → ∃ L, A.2.2.1 x = e0K :: L
theorem shE_0 {x pc : Nat} (h : 1 ≤ pc) : shE x pc e0K = e0K := by
  refine Prod.ext rfl (Prod.ext rfl ?_)
  funext y
  show (if y = x ∧ pc ≤ 0 then 0 + 1 else 0) = 0
  rw [if_neg (fun q => absurd q.2 (by omega))]
theorem FA_put {A : AK} {t x pc an : Nat} {v : Int32} (h : FA A) (hp : 1 ≤ pc) : FA (putA A t x pc v an) := fun y hy => by
  obtain ⟨L, hL⟩ := h y hy
  show ∃ M, (if y = x then ((A.2.2.1 x).map (shE x pc)).take pc ++ (v, an, nwK A t x pc) :: ((A.2.2.1 x).map (shE x pc)).drop pc else (A.2.2.1 y).map (shE x pc)) = e0K :: M
  by_cases c : y = x
  · rw [if_pos c, ← c, hL, List.map_cons, c, shE_0 hp]
    obtain ⟨p, rfl⟩ : ∃ p, pc = p + 1 := ⟨pc - 1, by omega⟩
    exact ⟨_, rfl⟩
  · rw [if_neg c, hL, List.map_cons, shE_0 hp]; exact ⟨_, rfl⟩
theorem FA_s {zs kd vx rr : Nat → Nat} {vv : Nat → Int32} {A A2 : AK} {t k : Nat} (h : FA A) (e : aK zs kd vx rr vv A t k = some A2) : FA A2 := by
  have h3 : 1 ≤ lnX A 3 := by
    obtain ⟨L, hL⟩ := h 3 (by decide)
    unfold lnX; rw [hL, List.length_cons]; omega
  unfold aK at e
  by_cases m1 : ¬ A.1 t < zs t
  · rw [if_pos m1] at e; exact nomatch e
  · rw [if_neg m1] at e
    by_cases k5 : kd (7 * t + A.1 t) = 5
    · rw [if_pos k5] at e
      by_cases q : k = 0
      · rw [if_pos q] at e; rw [← Option.some.inj e]; exact h
      · rw [if_neg q] at e; exact nomatch e
    · rw [if_neg k5] at e
      by_cases k4 : kd (7 * t + A.1 t) = 4
      · rw [if_pos k4] at e
        by_cases q : k = 0
        · rw [if_pos q] at e; rw [← Option.some.inj e]; exact FA_put h h3
        · rw [if_neg q] at e; exact nomatch e
      · rw [if_neg k4] at e
        by_cases k0 : kd (7 * t + A.1 t) = 0
        · rw [if_pos k0] at e
          by_cases q : A.2.2.2 t (vx (7 * t + A.1 t)) ≤ k ∧ k < lnX A (vx (7 * t + A.1 t))
          · rw [if_pos q] at e; rw [← Option.some.inj e]; exact h
          · rw [if_neg q] at e; exact nomatch e
        · rw [if_neg k0] at e
          by_cases k3 : kd (7 * t + A.1 t) = 3
          · rw [if_pos k3] at e
            by_cases q : (A.2.2.2 t (vx (7 * t + A.1 t)) ≤ k ∧ k < lnX A (vx (7 * t + A.1 t))) ∧ ¬ (k + 1 < lnX A (vx (7 * t + A.1 t)) ∧ (atK A (vx (7 * t + A.1 t)) (k + 1)).2.1 = 1)
            · rw [if_pos q] at e; rw [← Option.some.inj e]; exact FA_put h (by omega)
            · rw [if_neg q] at e; exact nomatch e
          · rw [if_neg k3] at e
            by_cases q : (A.2.2.2 t (vx (7 * t + A.1 t)) < k ∧ k ≤ lnX A (vx (7 * t + A.1 t))) ∧ ¬ (k < lnX A (vx (7 * t + A.1 t)) ∧ (atK A (vx (7 * t + A.1 t)) k).2.1 = 1)
            · rw [if_pos q] at e; rw [← Option.some.inj e]; exact FA_put h (by omega)
            · rw [if_neg q] at e; exact nomatch e
/-- a thread moves on with each step -/
def rkK (T : Nat) (zs : Nat → Nat) (A : AK) : Nat := smN (fun t => zs t - A.1 t) T
theorem rkK_dec {T : Nat} {zs kd vx rr : Nat → Nat} {vv : Nat → Int32} {A A2 : AK} {t k : Nat} (ht : t < T) (e : aK zs kd vx rr vv A t k = some A2) : rkK T zs A2 < rkK T zs A := by
  have mv : ∀ p, A.1 t < p → p ≤ zs t → A2.1 = updN A.1 t p → rkK T zs A2 < rkK T zs A := fun p h1 h2 h3 => by
    unfold rkK
    rw [h3]
    have := smN_upd (zs := zs) (pl := A.1) T ht (Nat.le_of_lt h1) h2
    omega
  unfold aK at e
  by_cases m1 : ¬ A.1 t < zs t
  · rw [if_pos m1] at e; exact nomatch e
  · rw [if_neg m1] at e
    have m2 : A.1 t < zs t := Classical.byContradiction m1
    by_cases k5 : kd (7 * t + A.1 t) = 5
    · rw [if_pos k5] at e
      by_cases q : k = 0
      · rw [if_pos q] at e
        refine mv _ ?_ ?_ (by rw [← Option.some.inj e]; rfl)
        · split
          · omega
          · split <;> omega
        · split
          · omega
          · split <;> omega
      · rw [if_neg q] at e; exact nomatch e
    · rw [if_neg k5] at e
      by_cases k4 : kd (7 * t + A.1 t) = 4
      · rw [if_pos k4] at e
        by_cases q : k = 0
        · rw [if_pos q] at e; exact mv (A.1 t + 1) (by omega) (by omega) (by rw [← Option.some.inj e]; rfl)
        · rw [if_neg q] at e; exact nomatch e
      · rw [if_neg k4] at e
        by_cases k0 : kd (7 * t + A.1 t) = 0
        · rw [if_pos k0] at e
          by_cases q : A.2.2.2 t (vx (7 * t + A.1 t)) ≤ k ∧ k < lnX A (vx (7 * t + A.1 t))
          · rw [if_pos q] at e; exact mv (A.1 t + 1) (by omega) (by omega) (by rw [← Option.some.inj e]; rfl)
          · rw [if_neg q] at e; exact nomatch e
        · rw [if_neg k0] at e
          by_cases k3 : kd (7 * t + A.1 t) = 3
          · rw [if_pos k3] at e
            by_cases q : (A.2.2.2 t (vx (7 * t + A.1 t)) ≤ k ∧ k < lnX A (vx (7 * t + A.1 t))) ∧ ¬ (k + 1 < lnX A (vx (7 * t + A.1 t)) ∧ (atK A (vx (7 * t + A.1 t)) (k + 1)).2.1 = 1)
            · rw [if_pos q] at e; exact mv (A.1 t + 1) (by omega) (by omega) (by rw [← Option.some.inj e]; rfl)
            · rw [if_neg q] at e; exact nomatch e
          · rw [if_neg k3] at e
            by_cases q : (A.2.2.2 t (vx (7 * t + A.1 t)) < k ∧ k ≤ lnX A (vx (7 * t + A.1 t))) ∧ ¬ (k < lnX A (vx (7 * t + A.1 t)) ∧ (atK A (vx (7 * t + A.1 t)) k).2.1 = 1)
            · rw [if_pos q] at e; exact mv (A.1 t + 1) (by omega) (by omega) (by rw [← Option.some.inj e]; rfl)
            · rw [if_neg q] at e; exact nomatch e
/-- fields of bits of model 3 -/
def enE (e : EK) : List (Int64 × Nat) := [((e.1 + 64).toInt64, 7), ((nI e.2.1).toInt64, 1), ((nI (e.2.2 0)).toInt64, 3), ((nI (e.2.2 1)).toInt64, 3), ((nI (e.2.2 2)).toInt64, 3), ((nI (e.2.2 3)).toInt64, 3)]
def okEK (e : EK) : Prop := okD e.1 ∧ e.2.1 < 2 ∧ (∀ y, y < 4 → e.2.2 y < 8) ∧ ∀ y, ¬ y < 4 → e.2.2 y = 0
theorem enE_ok {e : EK} (h : okEK e) : okW (enE e) := by
  obtain ⟨h1, h2, h3, -⟩ := h
  have k0 := h3 0 (by omega)
  have k1 := h3 1 (by omega)
  have k2 := h3 2 (by omega)
  have k3 := h3 3 (by omega)
  exact okW_cons (w_v h1) (okW_cons (w_n (by omega) (by decide) (by decide)) (okW_cons (w_n (by omega) (by decide) (by decide)) (okW_cons (w_n (by omega) (by decide) (by decide)) (okW_cons (w_n (by omega) (by decide) (by decide)) (okW_cons (w_n (by omega) (by decide) (by decide)) okW_nil)))))
theorem enE_w (e : EK) : (enE e).map (fun x => x.2) = [7, 1, 3, 3, 3, 3] := by unfold enE; simp only [List.map_cons, List.map_nil]
theorem enE_in {e f : EK} (h : okEK e) (g : okEK f) (q : enE e = enE f) : e = f := by
  obtain ⟨h1, h2, h3, h4⟩ := h
  obtain ⟨g1, g2, g3, g4⟩ := g
  unfold enE at q
  simp only [List.cons.injEq, Prod.mk.injEq, and_true] at q
  obtain ⟨q0, q1, q2, q3, q4, q5⟩ := q
  have a0 := h3 0 (by omega); have a1 := h3 1 (by omega); have a2 := h3 2 (by omega); have a3 := h3 3 (by omega)
  have b0 := g3 0 (by omega); have b1 := g3 1 (by omega); have b2 := g3 2 (by omega); have b3 := g3 3 (by omega)
  refine Prod.ext (v64_in h1 g1 q0) (Prod.ext (i64_in (by omega) (by omega) q1) ?_)
  funext y
  by_cases hy : y < 4
  · rcases (by omega : y = 0 ∨ y = 1 ∨ y = 2 ∨ y = 3) with z | z | z | z
    · rw [z]; exact i64_in (by omega) (by omega) q2
    · rw [z]; exact i64_in (by omega) (by omega) q3
    · rw [z]; exact i64_in (by omega) (by omega) q4
    · rw [z]; exact i64_in (by omega) (by omega) q5
  · rw [h4 y hy, g4 y hy]
theorem enE_peel : ∀ (L M : List EK) {P Q : List (Int64 × Nat)}, L.length = M.length → (∀ e, e ∈ L → okEK e) → (∀ e, e ∈ M → okEK e) → nmB (L.flatMap enE ++ P) = nmB (M.flatMap enE ++ Q) → L = M ∧ nmB P = nmB Q
  | [], [], _, _, _, _, _, h => ⟨rfl, h⟩
  | [], _ :: _, _, _, e, _, _, _ => nomatch e
  | _ :: _, [], _, _, e, _, _, _ => nomatch e
  | e :: L, f :: M, P, Q, hl, hL, hM, h => by
    rw [List.flatMap_cons, List.flatMap_cons, List.append_assoc, List.append_assoc] at h
    have oe := hL e (List.mem_cons_self ..)
    have of := hM f (List.mem_cons_self ..)
    obtain ⟨q1, q2⟩ := nm_app (enE e) (enE f) (enE_ok oe) (enE_ok of) (by rw [enE_w, enE_w]) h
    obtain ⟨q3, q4⟩ := enE_peel L M (Nat.succ.inj hl) (fun x hx => hL x (List.mem_cons_of_mem _ hx)) (fun x hx => hM x (List.mem_cons_of_mem _ hx)) q2
    exact ⟨by rw [enE_in oe of q1, q3], q4⟩
def ktE (k : Nat → Nat) (T : Nat) : List (Int64 × Nat) := (List.range T).flatMap (fun t => [((nI (k t)).toInt64, 3)])
theorem kt_peel {k l : Nat → Nat} : ∀ T, (∀ t, t < T → k t < 8 ∧ l t < 8) → ∀ {P Q : List (Int64 × Nat)}, nmB (ktE k T ++ P) = nmB (ktE l T ++ Q) → (∀ t, t < T → k t = l t) ∧ nmB P = nmB Q
  | 0, _, P, Q, e => ⟨fun t ht => absurd ht (Nat.not_lt_zero t), e⟩
  | T + 1, h, P, Q, e => by
    unfold ktE at e
    rw [List.range_succ, List.flatMap_append, List.flatMap_append, List.append_assoc, List.append_assoc] at e
    obtain ⟨q1, q2⟩ := kt_peel T (fun t ht => h t (by omega)) e
    have hT := h T (Nat.lt_succ_self T)
    obtain ⟨q3, q4⟩ := nm_head (x := ((nI (k T)).toInt64, 3)) (y := ((nI (l T)).toInt64, 3)) (w_n (n := k T) (w := 3) (by omega) (by decide) (by decide)).2.2 (w_n (n := l T) (w := 3) (by omega) (by decide) (by decide)).2.2 rfl q2
    refine ⟨fun t ht => ?_, q4⟩
    by_cases z : t = T
    · rw [z]; exact i64_in (by omega) (by omega) (Prod.mk.inj q3).1
    · exact q1 t (by omega)
/-- one row -/
def rwE (L : List EK) (k : Nat → Nat) (T : Nat) : List (Int64 × Nat) := ((nI (L.length + 1)).toInt64, 4) :: (L.flatMap enE ++ ktE k T)
theorem rw_peel {L M : List EK} {k l : Nat → Nat} {T : Nat} {P Q : List (Int64 × Nat)} (hL : L.length < 15) (hM : M.length < 15) (oL : ∀ e, e ∈ L → okEK e) (oM : ∀ e, e ∈ M → okEK e) (hk : ∀ t, t < T → k t < 8 ∧ l t < 8) (h : nmB (rwE L k T ++ P) = nmB (rwE M l T ++ Q)) : L = M ∧ (∀ t, t < T → k t = l t) ∧ nmB P = nmB Q := by
  unfold rwE at h
  rw [List.cons_append, List.cons_append, List.append_assoc, List.append_assoc] at h
  obtain ⟨q1, q2⟩ := nm_head (x := ((nI (L.length + 1)).toInt64, 4)) (y := ((nI (M.length + 1)).toInt64, 4)) (w_n (n := L.length + 1) (w := 4) (by omega) (by decide) (by decide)).2.2 (w_n (n := M.length + 1) (w := 4) (by omega) (by decide) (by decide)).2.2 rfl h
  have hl := i64_in (by omega) (by omega) (Prod.mk.inj q1).1
  obtain ⟨q3, q4⟩ := enE_peel L M (by omega) oL oM q2
  obtain ⟨q5, q6⟩ := kt_peel T hk q4
  exact ⟨q3, q5, q6⟩
theorem ktE_ok {k : Nat → Nat} {T : Nat} (h : ∀ t, t < T → k t < 8) : okW (ktE k T) := fun x hx => by
  unfold ktE at hx
  obtain ⟨t, ht, hx⟩ := List.mem_flatMap.mp hx
  rw [List.mem_singleton.mp hx]
  exact w_n (by have := h t (List.mem_range.mp ht); omega) (by decide) (by decide)
theorem rwE_ok {L : List EK} {k : Nat → Nat} {T : Nat} (hL : L.length < 15) (oL : ∀ e, e ∈ L → okEK e) (hk : ∀ t, t < T → k t < 8) : okW (rwE L k T) := by
  refine okW_cons (w_n (by omega) (by decide) (by decide)) (okW_app (fun x hx => ?_) (ktE_ok hk))
  obtain ⟨e, he, hx⟩ := List.mem_flatMap.mp hx
  exact enE_ok (oL e he) x hx
theorem hdB_eq (sf : Nat → Int32) : hdB sf = [((sf 0).toInt64, 3), ((sf 1).toInt64, 3), ((sf 2).toInt64, 3), ((sf 3).toInt64, 3), ((sf 4 + 64).toInt64, 7), ((sf 5 + 64).toInt64, 7), ((sf 6 + 64).toInt64, 7), ((sf 7 + 64).toInt64, 7), ((sf 8 + 64).toInt64, 7), ((sf 9 + 64).toInt64, 7), ((sf 10 + 64).toInt64, 7), ((sf 11 + 64).toInt64, 7)] := rfl
theorem hdB_w (sf : Nat → Int32) : (hdB sf).map (fun x => x.2) = [3, 3, 3, 3, 7, 7, 7, 7, 7, 7, 7, 7] := by
  rw [hdB_eq]; simp only [List.map_cons, List.map_nil]
theorem hdB_ok {sf : Nat → Int32} {pl : Nat → Nat} (h : ∀ t, t < 4 → sf t = nI (pl t) ∧ pl t ≤ 7) (h2 : ∀ k, 4 ≤ k → k < 12 → okD (sf k)) : okW (hdB sf) := by
  rw [hdB_eq, (h 0 (by omega)).1, (h 1 (by omega)).1, (h 2 (by omega)).1, (h 3 (by omega)).1]
  have p0 := (h 0 (by omega)).2
  have p1 := (h 1 (by omega)).2
  have p2 := (h 2 (by omega)).2
  have p3 := (h 3 (by omega)).2
  refine okW_cons (w_n (by omega) (by decide) (by decide)) (okW_cons (w_n (by omega) (by decide) (by decide)) (okW_cons (w_n (by omega) (by decide) (by decide)) (okW_cons (w_n (by omega) (by decide) (by decide)) ?_)))
  exact okW_cons (w_v (h2 _ (by omega) (by omega))) (okW_cons (w_v (h2 _ (by omega) (by omega))) (okW_cons (w_v (h2 _ (by omega) (by omega))) (okW_cons (w_v (h2 _ (by omega) (by omega))) (okW_cons (w_v (h2 _ (by omega) (by omega))) (okW_cons (w_v (h2 _ (by omega) (by omega))) (okW_cons (w_v (h2 _ (by omega) (by omega))) (okW_cons (w_v (h2 _ (by omega) (by omega))) okW_nil)))))))
theorem hdB_in {sf s2 : Nat → Int32} {pl p2 : Nat → Nat} (h : ∀ t, t < 4 → sf t = nI (pl t) ∧ pl t ≤ 7) (h2 : ∀ k, 4 ≤ k → k < 12 → okD (sf k)) (g : ∀ t, t < 4 → s2 t = nI (p2 t) ∧ p2 t ≤ 7) (g2 : ∀ k, 4 ≤ k → k < 12 → okD (s2 k)) (e : hdB sf = hdB s2) : ∀ k, k < 12 → sf k = s2 k := by
  rw [hdB_eq, hdB_eq] at e
  simp only [List.cons.injEq, Prod.mk.injEq, and_true] at e
  obtain ⟨e0, e1, e2, e3, e4, e5, e6, e7, e8, e9, e10, e11⟩ := e
  have ht : ∀ t, t < 4 → (sf t).toInt64 = (s2 t).toInt64 → sf t = s2 t := fun t ht q => by
    obtain ⟨a1, a2⟩ := h t ht; obtain ⟨b1, b2⟩ := g t ht
    rw [a1, b1] at q ⊢
    rw [i64_in (by omega) (by omega) q]
  intro k hk
  by_cases c : k < 4
  · refine ht k c ?_
    rcases (by omega : k = 0 ∨ k = 1 ∨ k = 2 ∨ k = 3) with q | q | q | q
    · rw [q]; exact e0
    · rw [q]; exact e1
    · rw [q]; exact e2
    · rw [q]; exact e3
  · refine v64_in (h2 k (by omega) hk) (g2 k (by omega) hk) ?_
    rcases (by omega : k = 4 ∨ k = 5 ∨ k = 6 ∨ k = 7 ∨ k = 8 ∨ k = 9 ∨ k = 10 ∨ k = 11) with q | q | q | q | q | q | q | q
    · rw [q]; exact e4
    · rw [q]; exact e5
    · rw [q]; exact e6
    · rw [q]; exact e7
    · rw [q]; exact e8
    · rw [q]; exact e9
    · rw [q]; exact e10
    · rw [q]; exact e11
