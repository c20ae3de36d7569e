/-- a buffer in fields of bits -/
def encL : List (Nat × Int32) → List (Int64 × Nat)
  | [] => []
  | e :: L => ((nI e.1).toInt64, 2) :: ((e.2 + 64).toInt64, 7) :: encL L
def blkL (F : List (Nat × Int32)) : List (Int64 × Nat) := ((nI F.length).toInt64, 3) :: encL F
def okE (F : List (Nat × Int32)) : Prop := F.length < 8 ∧ ∀ e, e ∈ F → e.1 < 3 ∧ okD e.2
theorem encL_app : ∀ F G : List (Nat × Int32), encL (F ++ G) = encL F ++ encL G
  | [], _ => rfl
  | e :: F, G => by rw [List.cons_append, encL, encL, encL_app F G]; rfl
theorem encL_w : ∀ F G : List (Nat × Int32), F.length = G.length → (encL F).map (fun x => x.2) = (encL G).map (fun x => x.2)
  | [], [], _ => rfl
  | [], _ :: _, h => nomatch h
  | _ :: _, [], h => nomatch h
  | e :: F, f :: G, h => by
    rw [encL, encL, List.map_cons, List.map_cons, List.map_cons, List.map_cons, encL_w F G (Nat.succ.inj h)]
theorem encL_ok : ∀ F : List (Nat × Int32), (∀ e, e ∈ F → e.1 < 3 ∧ okD e.2) → okW (encL F)
  | [], _ => okW_nil
  | e :: F, h => by
    obtain ⟨h1, h2⟩ := h e (List.mem_cons_self ..)
    exact okW_cons (w_n (by omega) (by decide) (by decide)) (okW_cons (w_v h2) (encL_ok F (fun x hx => h x (List.mem_cons_of_mem _ hx))))
theorem encL_in : ∀ F G : List (Nat × Int32), (∀ e, e ∈ F → e.1 < 3 ∧ okD e.2) → (∀ e, e ∈ G → e.1 < 3 ∧ okD e.2) → encL F = encL G → F = G
  | [], [], _, _, _ => rfl
  | [], _ :: _, _, _, h => nomatch h
  | _ :: _, [], _, _, h => nomatch h
  | e :: F, f :: G, hF, hG, h => by
    obtain ⟨h1, h2⟩ := hF e (List.mem_cons_self ..)
    obtain ⟨h3, h4⟩ := hG f (List.mem_cons_self ..)
    rw [encL, encL] at h
    obtain ⟨q1, q⟩ := List.cons.inj h
    obtain ⟨q2, q3⟩ := List.cons.inj q
    rw [encL_in F G (fun x hx => hF x (List.mem_cons_of_mem _ hx)) (fun x hx => hG x (List.mem_cons_of_mem _ hx)) q3, Prod.ext (i64_in (by omega) (by omega) (Prod.mk.inj q1).1) (v64_in h2 h4 (Prod.mk.inj q2).1)]
theorem blk_ok {F : List (Nat × Int32)} (h : okE F) : okW (blkL F) := okW_cons (w_n (by have := h.1; omega) (by decide) (by decide)) (encL_ok F h.2)
theorem blk_peel {F G : List (Nat × Int32)} {L M : List (Int64 × Nat)} (hF : okE F) (hG : okE G) (h : nmB (blkL F ++ L) = nmB (blkL G ++ M)) : F = G ∧ nmB L = nmB M := by
  unfold blkL at h
  rw [List.cons_append, List.cons_append] at h
  obtain ⟨q1, q2⟩ := nm_head (w_n (n := F.length) (w := 3) (by have := hF.1; omega) (by decide) (by decide)).2.2 (w_n (n := G.length) (w := 3) (by have := hG.1; omega) (by decide) (by decide)).2.2 rfl h
  have hl := i64_in (by have := hF.1; omega) (by have := hG.1; omega) (Prod.mk.inj q1).1
  obtain ⟨q3, q4⟩ := nm_app (encL F) (encL G) (encL_ok F hF.2) (encL_ok G hG.2) (encL_w F G hl) q2
  exact ⟨encL_in F G hF.2 hG.2 q3, q4⟩
theorem blk_all {F G : Nat → List (Nat × Int32)} (hF : ∀ j, okE (F j)) (hG : ∀ j, okE (G j)) : ∀ Js : List Nat, nmB (Js.flatMap (fun j => blkL (F j))) = nmB (Js.flatMap (fun j => blkL (G j))) → ∀ j, j ∈ Js → F j = G j
  | [], _, j, hj => absurd hj (List.not_mem_nil)
  | i :: Js, h, j, hj => by
    rw [List.flatMap_cons, List.flatMap_cons] at h
    obtain ⟨q1, q2⟩ := blk_peel (hF i) (hG i) h
    rcases List.mem_cons.mp hj with e | e
    · rw [e]; exact q1
    · exact blk_all hF hG Js q2 j e
theorem bk_enc {md : Nat} {sf : Nat → Int32} {bt bx : Nat → Nat} {t x j : Nat} {x9 : Int32} (hj : (md = 1 ∧ x9 = -1 ∧ j = 3 * t) ∨ (md = 2 ∧ x < 3 ∧ x9 = nI x ∧ j = 3 * t + x)) (ht : t < 4) : ∀ nb, (∀ k, k < nb → sf (16 + k) = nI (bt k) ∧ bt k < 4 ∧ sf (23 + k) = nI (bx k) ∧ bx k < 3) →
    ctB (inB sf t x9) nb = (fbL md j (glR sf nb)).length ∧ mpL (blB sf t x9) nb = encL (fbL md j (glR sf nb))
  | 0, _ => ⟨rfl, rfl⟩
  | n + 1, h => by
    obtain ⟨i1, i2⟩ := bk_enc hj ht n (fun k hk => h k (by omega))
    obtain ⟨h1, h2, h3, h4⟩ := h n (Nat.lt_succ_self n)
    have hi := in_j hj ht (h n (Nat.lt_succ_self n))
    rw [glR_s, fbL_app, List.length_append, encL_app, ← i1, ← i2, h1, h3, nI_clamp (by omega), nI_clamp (by omega), ctB, mpL]
    unfold blB
    rw [hi]
    by_cases c : bj md (bt n) (bx n) = j
    · rw [decide_eq_true c, if_pos rfl, if_pos rfl, fbL_1 (by exact c), h3]; exact ⟨rfl, rfl⟩
    · rw [decide_eq_false c, if_neg (by decide), if_neg (by decide), fbL_0 (by exact c)]; exact ⟨rfl, rfl⟩
theorem fbL_ok {md j : Nat} {sf : Nat → Int32} {bt bx : Nat → Nat} {nb : Nat} (hn : nb ≤ 7) (h : ∀ k, k < nb → sf (16 + k) = nI (bt k) ∧ bt k < 4 ∧ sf (23 + k) = nI (bx k) ∧ bx k < 3) (h2 : ∀ k, k < nb → okD (sf (30 + k))) : okE (fbL md j (glR sf nb)) := by
  refine ⟨?_, fun e he => ?_⟩
  · unfold fbL glR
    have q := List.length_filter_le (fun e : Nat × Nat × Int32 => decide (bj md e.1 e.2.1 = j)) ((List.range nb).map (fun k => ((sf (16 + k)).toNatClampNeg, (sf (23 + k)).toNatClampNeg, sf (30 + k))))
    rw [List.length_map, List.length_range] at q
    rw [List.length_map]; omega
  · unfold fbL at he
    obtain ⟨g, hg, rfl⟩ := List.mem_map.mp he
    have hg := (List.mem_filter.mp hg).1
    unfold glR at hg
    obtain ⟨k, hk, rfl⟩ := List.mem_map.mp hg
    have hk := List.mem_range.mp hk
    obtain ⟨a1, a2, a3, a4⟩ := h k hk
    exact ⟨by show (sf (23 + k)).toNatClampNeg < 3; rw [a3, nI_clamp (by omega)]; exact a4, h2 k hk⟩
def preB (sf : Nat → Int32) : List (Int64 × Nat) := hdB sf ++ mpL (fun x => [((sf (12 + x) + 64).toInt64, 7)]) 3
theorem preB_eq (sf : Nat → Int32) : preB sf = [((sf 0).toInt64, 3), ((sf 1).toInt64, 3), ((sf 2).toInt64, 3), ((sf 3).toInt64, 3), ((sf 4 + 64).toInt64, 7), ((sf 5 + 64).toInt64, 7), ((sf 6 + 64).toInt64, 7), ((sf 7 + 64).toInt64, 7), ((sf 8 + 64).toInt64, 7), ((sf 9 + 64).toInt64, 7), ((sf 10 + 64).toInt64, 7), ((sf 11 + 64).toInt64, 7), ((sf 12 + 64).toInt64, 7), ((sf 13 + 64).toInt64, 7), ((sf 14 + 64).toInt64, 7)] := rfl
theorem preB_ok {sf : Nat → Int32} {pl : Nat → Nat} (h : ∀ t, t < 4 → sf t = nI (pl t) ∧ pl t ≤ 7) (h2 : ∀ k, 4 ≤ k → k < 15 → okD (sf k)) : okW (preB sf) := by
  rw [preB_eq, (h 0 (by omega)).1, (h 1 (by omega)).1, (h 2 (by omega)).1, (h 3 (by omega)).1]
  have p0 := (h 0 (by omega)).2
  have p1 := (h 1 (by omega)).2
  have p2 := (h 2 (by omega)).2
  have p3 := (h 3 (by omega)).2
  refine okW_cons (w_n (by omega) (by decide) (by decide)) (okW_cons (w_n (by omega) (by decide) (by decide)) (okW_cons (w_n (by omega) (by decide) (by decide)) (okW_cons (w_n (by omega) (by decide) (by decide)) ?_)))
  exact okW_cons (w_v (h2 _ (by omega) (by omega))) (okW_cons (w_v (h2 _ (by omega) (by omega))) (okW_cons (w_v (h2 _ (by omega) (by omega))) (okW_cons (w_v (h2 _ (by omega) (by omega))) (okW_cons (w_v (h2 _ (by omega) (by omega))) (okW_cons (w_v (h2 _ (by omega) (by omega))) (okW_cons (w_v (h2 _ (by omega) (by omega))) (okW_cons (w_v (h2 _ (by omega) (by omega))) (okW_cons (w_v (h2 _ (by omega) (by omega))) (okW_cons (w_v (h2 _ (by omega) (by omega))) (okW_cons (w_v (h2 _ (by omega) (by omega))) okW_nil))))))))))
theorem preB_in {sf s2 : Nat → Int32} {pl p2 : Nat → Nat} (h : ∀ t, t < 4 → sf t = nI (pl t) ∧ pl t ≤ 7) (h2 : ∀ k, 4 ≤ k → k < 15 → okD (sf k)) (g : ∀ t, t < 4 → s2 t = nI (p2 t) ∧ p2 t ≤ 7) (g2 : ∀ k, 4 ≤ k → k < 15 → okD (s2 k)) (e : preB sf = preB s2) : ∀ k, k < 15 → sf k = s2 k := by
  rw [preB_eq, preB_eq] at e
  simp only [List.cons.injEq, Prod.mk.injEq, and_true] at e
  obtain ⟨e0, e1, e2, e3, e4, e5, e6, e7, e8, e9, e10, e11, e12, e13, e14⟩ := e
  have ht : ∀ t, t < 4 → (sf t).toInt64 = (s2 t).toInt64 → sf t = s2 t := fun t ht q => by
    obtain ⟨a1, a2⟩ := h t ht; obtain ⟨b1, b2⟩ := g t ht
    rw [a1, b1] at q ⊢
    rw [i64_in (by omega) (by omega) q]
  intro k hk
  by_cases c : k < 4
  · refine ht k c ?_
    rcases (by omega : k = 0 ∨ k = 1 ∨ k = 2 ∨ k = 3) with q | q | q | q
    · rw [q]; exact e0
    · rw [q]; exact e1
    · rw [q]; exact e2
    · rw [q]; exact e3
  · refine v64_in (h2 k (by omega) hk) (g2 k (by omega) hk) ?_
    rcases (by omega : k = 4 ∨ k = 5 ∨ k = 6 ∨ k = 7 ∨ k = 8 ∨ k = 9 ∨ k = 10 ∨ k = 11 ∨ k = 12 ∨ k = 13 ∨ k = 14) with q | q | q | q | q | q | q | q | q | q | q
    · rw [q]; exact e4
    · rw [q]; exact e5
    · rw [q]; exact e6
    · rw [q]; exact e7
    · rw [q]; exact e8
    · rw [q]; exact e9
    · rw [q]; exact e10
    · rw [q]; exact e11
    · rw [q]; exact e12
    · rw [q]; exact e13
    · rw [q]; exact e14
/-- the buffers' numbers -/
def jsB (md : Nat) : List Nat := if md = 1 then [0, 3, 6, 9] else [0, 1, 2, 3, 4, 5, 6, 7, 8, 9, 10, 11]
theorem mpL4 {f : Nat → List (Int64 × Nat)} : mpL f 4 = f 0 ++ (f 1 ++ (f 2 ++ f 3)) := by
  show ((([] ++ f 0) ++ f 1) ++ f 2) ++ f 3 = _
  rw [List.nil_append, List.append_assoc, List.append_assoc]
theorem flat4 {f : Nat → List (Int64 × Nat)} {a b c d : Nat} : [a, b, c, d].flatMap f = f a ++ (f b ++ (f c ++ f d)) := by
  rw [List.flatMap_cons, List.flatMap_cons, List.flatMap_cons, List.flatMap_cons, List.flatMap_nil, List.append_nil]
theorem flat3 {f : Nat → List (Int64 × Nat)} {a b c : Nat} {L : List Nat} : (a :: b :: c :: L).flatMap f = (f a ++ (f b ++ f c)) ++ L.flatMap f := by
  rw [List.flatMap_cons, List.flatMap_cons, List.flatMap_cons, List.append_assoc, List.append_assoc]
theorem bufs_eq {md : Nat} {sf : Nat → Int32} {bt bx : Nat → Nat} {nb : Nat} (hmd : md = 1 ∨ md = 2) (h : ∀ k, k < nb → sf (16 + k) = nI (bt k) ∧ bt k < 4 ∧ sf (23 + k) = nI (bx k) ∧ bx k < 3) : mpL (buB md sf nb) 4 = (jsB md).flatMap (fun j => blkL (fbL md j (glR sf nb))) := by
  have blk : ∀ (t x j : Nat) (x9 : Int32), ((md = 1 ∧ x9 = -1 ∧ j = 3 * t) ∨ (md = 2 ∧ x < 3 ∧ x9 = nI x ∧ j = 3 * t + x)) → t < 4 → bkB sf nb t x9 = blkL (fbL md j (glR sf nb)) := fun t x j x9 hj ht => by
    obtain ⟨q1, q2⟩ := bk_enc hj ht nb h
    unfold bkB blkL; rw [q1, q2]
  rw [mpL4]
  unfold buB jsB
  rcases hmd with e | e
  · have b1 : ∀ t j, t < 4 → j = 3 * t → bkB sf nb t (-1) = blkL (fbL md j (glR sf nb)) := fun t j ht hj => blk t 0 j _ (Or.inl ⟨e, rfl, hj⟩) ht
    rw [if_pos e, if_pos e, if_pos e, if_pos e, if_pos e, flat4, b1 0 0 (by decide) (by decide), b1 1 3 (by decide) (by decide), b1 2 6 (by decide) (by decide), b1 3 9 (by decide) (by decide)]
  · have e1 : ¬ md = 1 := by omega
    have b0 : ∀ t j, t < 4 → j = 3 * t + 0 → bkB sf nb t 0 = blkL (fbL md j (glR sf nb)) := fun t j ht hj => blk t 0 j _ (Or.inr ⟨e, by decide, by decide, hj⟩) ht
    have b1 : ∀ t j, t < 4 → j = 3 * t + 1 → bkB sf nb t 1 = blkL (fbL md j (glR sf nb)) := fun t j ht hj => blk t 1 j _ (Or.inr ⟨e, by decide, by decide, hj⟩) ht
    have b2 : ∀ t j, t < 4 → j = 3 * t + 2 → bkB sf nb t 2 = blkL (fbL md j (glR sf nb)) := fun t j ht hj => blk t 2 j _ (Or.inr ⟨e, by decide, by decide, hj⟩) ht
    rw [if_neg e1, if_neg e1, if_neg e1, if_neg e1, if_neg e1, flat3, flat3, flat3, flat3, List.flatMap_nil, List.append_nil,
      b0 0 0 (by decide) (by decide), b1 0 1 (by decide) (by decide), b2 0 2 (by decide) (by decide), b0 1 3 (by decide) (by decide), b1 1 4 (by decide) (by decide), b2 1 5 (by decide) (by decide),
      b0 2 6 (by decide) (by decide), b1 2 7 (by decide) (by decide), b2 2 8 (by decide) (by decide), b0 3 9 (by decide) (by decide), b1 3 10 (by decide) (by decide), b2 3 11 (by decide) (by decide)]
theorem js1 : ∀ b, b < 4 → 3 * b ∈ [0, 3, 6, 9] := by decide
theorem js2 : ∀ b, b < 4 → ∀ x, x < 3 → 3 * b + x ∈ [0, 1, 2, 3, 4, 5, 6, 7, 8, 9, 10, 11] := by decide
theorem jsB_out {md b x j : Nat} (hmd : md = 1 ∨ md = 2) (hj : ¬ j ∈ jsB md) (hb : b < 4) (hx : x < 3) : ¬ bj md b x = j := fun q => hj (by
  unfold jsB
  rcases hmd with m | m
  · rw [m, bj_1] at q
    rw [if_pos m, ← q]; exact js1 b hb
  · rw [m, bj_2] at q
    rw [if_neg (by omega), ← q]; exact js2 b hb x hx)
theorem fbL_out {md j : Nat} {sf : Nat → Int32} {bt bx : Nat → Nat} {nb : Nat} (hmd : md = 1 ∨ md = 2) (hj : ¬ j ∈ jsB md) (h : ∀ k, k < nb → sf (16 + k) = nI (bt k) ∧ bt k < 4 ∧ sf (23 + k) = nI (bx k) ∧ bx k < 3) : fbL md j (glR sf nb) = [] := by
  refine fbL_nil (fun e he q => ?_)
  unfold glR at he
  obtain ⟨k, hk2, rfl⟩ := List.mem_map.mp he
  have hk2 := List.mem_range.mp hk2
  obtain ⟨r1, r2, r3, r4⟩ := h k hk2
  dsimp only at q
  rw [r1, r3, nI_clamp (by omega), nI_clamp (by omega)] at q
  exact jsB_out hmd hj r2 r4 q
theorem cd_buf {md : Nat} {sf s2 : Nat → Int32} {bt bx bt2 bx2 : Nat → Nat} {nb nb2 : Nat} (hmd : md = 1 ∨ md = 2) (hn : nb ≤ 7) (hn2 : nb2 ≤ 7) (h : ∀ k, k < nb → sf (16 + k) = nI (bt k) ∧ bt k < 4 ∧ sf (23 + k) = nI (bx k) ∧ bx k < 3) (h2 : ∀ k, k < nb2 → s2 (16 + k) = nI (bt2 k) ∧ bt2 k < 4 ∧ s2 (23 + k) = nI (bx2 k) ∧ bx2 k < 3)
    (g : ∀ k, k < nb → okD (sf (30 + k))) (g2 : ∀ k, k < nb2 → okD (s2 (30 + k))) (e : nmB (mpL (buB md sf nb) 4) = nmB (mpL (buB md s2 nb2) 4)) (j : Nat) : fbL md j (glR sf nb) = fbL md j (glR s2 nb2) := by
  rw [bufs_eq hmd h, bufs_eq hmd h2] at e
  by_cases hj : j ∈ jsB md
  · exact blk_all (F := fun j => fbL md j (glR sf nb)) (G := fun j => fbL md j (glR s2 nb2)) (fun j => fbL_ok hn h g) (fun j => fbL_ok hn2 h2 g2) (jsB md) e j hj
  · rw [fbL_out hmd hj h, fbL_out hmd hj h2]
theorem bufs_ok {md : Nat} {sf : Nat → Int32} {bt bx : Nat → Nat} {nb : Nat} (hmd : md = 1 ∨ md = 2) (hn : nb ≤ 7) (h : ∀ k, k < nb → sf (16 + k) = nI (bt k) ∧ bt k < 4 ∧ sf (23 + k) = nI (bx k) ∧ bx k < 3) (g : ∀ k, k < nb → okD (sf (30 + k))) : okW (mpL (buB md sf nb) 4) := by
  rw [bufs_eq hmd h]
  intro x hx
  obtain ⟨j, -, hj⟩ := List.mem_flatMap.mp hx
  exact blk_ok (fbL_ok hn h g) x hj
def sufB (md : Nat) (sf : Nat → Int32) (nb : Nat) : List (Int64 × Nat) := if md = 0 then [] else mpL (buB md sf nb) 4
theorem enB_s {md : Nat} {sf : Nat → Int32} {nb : Nat} : enB md sf nb = preB sf ++ sufB md sf nb := by
  unfold enB preB sufB; rw [List.append_assoc]
theorem preB_w1 (sf : Nat → Int32) : (preB sf).map (fun x => x.2) = [3, 3, 3, 3, 7, 7, 7, 7, 7, 7, 7, 7, 7, 7, 7] := by
  rw [preB_eq]; simp only [List.map_cons, List.map_nil]
theorem preB_w (sf s2 : Nat → Int32) : (preB sf).map (fun x => x.2) = (preB s2).map (fun x => x.2) := by rw [preB_w1, preB_w1]
theorem cd_pre {md : Nat} {sf s2 : Nat → Int32} {pl p2 : Nat → Nat} {nb nb2 : Nat} (hn : nb ≤ 7) (hn2 : nb2 ≤ 7) (h : ∀ t, t < 4 → sf t = nI (pl t) ∧ pl t ≤ 7) (h2 : ∀ k, 4 ≤ k → k < 15 → okD (sf k)) (g : ∀ t, t < 4 → s2 t = nI (p2 t) ∧ p2 t ≤ 7) (g2 : ∀ k, 4 ≤ k → k < 15 → okD (s2 k)) (w3 : okW (sufB md sf nb)) (w4 : okW (sufB md s2 nb2))
    (e : c5 (wrB (enB md sf nb)).1 = c5 (wrB (enB md s2 nb2)).1) : (∀ k, k < 15 → sf k = s2 k) ∧ nmB (sufB md sf nb) = nmB (sufB md s2 nb2) := by
  have w1 := preB_ok h h2
  have w2 := preB_ok g g2
  have hnm : nmB (enB md sf nb) = nmB (enB md s2 nb2) := cod_inj (by rw [enB_s]; exact okW_app w1 w3) (by rw [enB_s]; exact okW_app w2 w4) (enB_sz hn) (enB_sz hn2) e
  rw [enB_s, enB_s] at hnm
  obtain ⟨q1, q2⟩ := nm_app (preB sf) (preB s2) w1 w2 (preB_w sf s2) hnm
  exact ⟨preB_in h h2 g g2 q1, q2⟩
/-- one code, one state of the machine -/
theorem cd_abR {T md : Nat} {zs : Nat → Nat} {fu f2 : Nat} {sf s2 : Nat → Int32} (hT : T ≤ 4) (hz : ∀ t, t < T → zs t ≤ 7) (hmd : md < 3) (h : IvB T zs fu sf) (g : IvB T zs f2 s2) (e : c5 (cdB md sf) = c5 (cdB md s2)) : abR md sf = abR md s2 := by
  obtain ⟨pl, bt, bx, nb, rm, hD⟩ := h
  obtain ⟨p2, bt2, bx2, nb2, rm2, hE⟩ := g
  obtain ⟨c1, c2, c3⟩ := IvD_pl hT hz hD
  obtain ⟨d1, d2, d3⟩ := IvD_pl hT hz hE
  obtain ⟨a1, a2, a3, a4, a5, a6, a7, a8, a9, a10⟩ := hD
  obtain ⟨b1, b2, b3, b4, b5, b6, b7, b8, b9, b10⟩ := hE
  unfold cdB at e
  rw [c2, d2] at e
  have hA : ∀ k, 4 ≤ k → k < 15 → okD (sf k) := fun k q1 q2 => wB_okD (a9 k q1 q2) (by omega)
  have hB : ∀ k, 4 ≤ k → k < 15 → okD (s2 k) := fun k q1 q2 => wB_okD (b9 k q1 q2) (by omega)
  have hA3 : ∀ k, k < nb → okD (sf (30 + k)) := fun k q => wB_okD (a10 k q) (by omega)
  have hB3 : ∀ k, k < nb2 → okD (s2 (30 + k)) := fun k q => wB_okD (b10 k q) (by omega)
  have w3 : okW (sufB md sf nb) := by
    unfold sufB
    by_cases m0 : md = 0
    · rw [if_pos m0]; exact okW_nil
    · rw [if_neg m0]; exact bufs_ok (by omega) (by omega) a5 hA3
  have w4 : okW (sufB md s2 nb2) := by
    unfold sufB
    by_cases m0 : md = 0
    · rw [if_pos m0]; exact okW_nil
    · rw [if_neg m0]; exact bufs_ok (by omega) (by omega) b5 hB3
  obtain ⟨hk, q2⟩ := cd_pre (by omega) (by omega) (fun t q => ⟨a1 t q, (c1 t q).2⟩) hA (fun t q => ⟨b1 t q, (d1 t q).2⟩) hB w3 w4 e
  refine Prod.ext (cutN_cg (fun t ht => ?_)) (Prod.ext (cutI_cg (fun k hk2 => hk (4 + k) (by omega))) (Prod.ext (cutI_cg (fun x hx => hk (12 + x) (by omega))) ?_))
  · have := hk t (by omega)
    rw [this]
  · funext j
    show (if md = 0 then [] else fbL md j (glR sf (sf 15).toNatClampNeg)) = (if md = 0 then [] else fbL md j (glR s2 (s2 15).toNatClampNeg))
    by_cases m0 : md = 0
    · rw [if_pos m0, if_pos m0]
    · rw [if_neg m0, if_neg m0, c2, d2]
      unfold sufB at q2
      rw [if_neg m0, if_neg m0] at q2
      exact cd_buf (by omega) (by omega) (by omega) a5 b5 hA3 hB3 q2 j
