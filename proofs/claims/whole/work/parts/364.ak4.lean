theorem mpL_flat {f : Nat → List (Int64 × Nat)} : ∀ n, mpL f n = (List.range n).flatMap f
  | 0 => rfl
  | n + 1 => by rw [mpL, mpL_flat n, List.range_succ, List.flatMap_append, List.flatMap_cons, List.flatMap_nil, List.append_nil]
def a0K : AK := (fun _ => 0, fun _ => 0, fun x => if x < 4 then [e0K] else [], fun _ _ => 0)
def ocK (A : AK) : List Int32 := v11 (fun k => if k < 8 then A.2.1 k else (atK A (k - 8) (lnX A (k - 8) - 1)).1)
theorem fl_cg {A B : Type} {f g : A → List B} : ∀ l : List A, (∀ t, t ∈ l → f t = g t) → l.flatMap f = l.flatMap g
  | [], _ => rfl
  | a :: l, h => by rw [List.flatMap_cons, List.flatMap_cons, h a (List.mem_cons_self ..), fl_cg l (fun t ht => h t (List.mem_cons_of_mem _ ht))]
section AKr
variable {T : Nat} {zs : Nat → Nat} {sf : Nat → Int32} {pl zz : Nat → Nat} {ro : Nat → Nat → Nat} {ad : Nat → Nat} {wn rm : Nat}
def tlK (sf : Nat → Int32) (x : Nat) : List EK := (List.range (zzF sf x - 1)).map (fun j => enR sf (roF sf x (j + 1)))
theorem rowsK_tl {x : Nat} (hx : x < 4) (h1 : 1 ≤ zzF sf x) : rowsK sf x = enR sf (roF sf x 0) :: tlK sf x := by
  unfold rowsK tlK
  have := map_split (fun q => enR sf (roF sf x q)) 1 (zzF sf x - 1)
  rw [(by omega : 1 + (zzF sf x - 1) = zzF sf x)] at this
  rw [if_pos hx, this]
  refine congrArg (fun z => enR sf (roF sf x 0) :: z) (List.map_congr_left (fun j _ => ?_))
  rw [Nat.add_comm 1 j]
theorem kn_8 (hT : T ≤ 4) (hz : ∀ t, t < T → zs t ≤ 7) (h : KD T zs sf pl zz ro ad wn rm) {w : Nat} (hw : w < wn) : okEK (enR sf w) := by
  obtain ⟨c1, c2, c3, c4, c5, c6⟩ := KD_rd hT hz h
  obtain ⟨a1, a2, a3, a4, a5, a6, a7, a8, a9, a10, a11, a12, a13, a14, a15⟩ := h
  refine ⟨wB_okD (a15 w hw) (by omega), ?_, fun y hy => ?_, fun y hy => enR_out hy⟩
  · show (sf (84 + w)).toNatClampNeg < 2
    rw [(a13 w hw).1, nI_clamp (by have := (a13 w hw).2; omega)]; exact (a13 w hw).2
  · rw [enR_at hy]; exact (plF_ok (c5 w hw y hy)).1
theorem rwB_E (hT : T ≤ 4) (hz : ∀ t, t < T → zs t ≤ 7) (h : KD T zs sf pl zz ro ad wn rm) {x : Nat} (hx : x < 4) : rwB sf T (zzF sf) (roF sf) x = rwE (tlK sf x) (fun t => ktK T sf t x) T := by
  obtain ⟨b1, b2⟩ := KD_b hT hz h
  have h1 : 1 ≤ zzF sf x := by rw [(b1 x hx).1]; exact (h.2.2.2.2.2.2.2.1 x hx).2
  have e1 : sf (37 + x) = nI (zzF sf x) := by rw [(b1 x hx).1]; exact (h.2.2.2.2.2.2.2.1 x hx).1
  have el : (tlK sf x).length + 1 = zzF sf x := by unfold tlK; rw [List.length_map, List.length_range]; omega
  unfold rwB rwE
  rw [e1, el, mpL_flat, mpL_flat]
  refine congrArg (fun z => ((nI (zzF sf x)).toInt64, 4) :: z) ?_
  refine congr (congrArg _ ?_) ?_
  · unfold tlK
    rw [List.flatMap_map]
    refine fl_cg _ (fun j hj => ?_)
    have hj := List.mem_range.mp hj
    have hw := (b2 x (j + 1) hx (by omega)).1
    have ea := h.2.2.2.2.2.2.2.2.2.2.2.2.1 _ hw
    unfold enB1 enE
    rw [mpL4]
    unfold knB
    show _ :: _ :: ([_] ++ ([_] ++ ([_] ++ [_]))) = [_, _, _, _, _, _]
    rw [enR_at (by decide), enR_at (by decide), enR_at (by decide), enR_at (by decide)]
    have ek : (enR sf (roF sf x (j + 1))).2.1 = ad (roF sf x (j + 1)) := by
      show (sf (84 + roF sf x (j + 1))).toNatClampNeg = _
      rw [ea.1, nI_clamp (by have := ea.2; omega)]
    rw [ek, ← ea.1]
    rfl
  · unfold ktE
    refine fl_cg _ (fun t ht => ?_)
    have ht := List.mem_range.mp ht
    show [((nI (plF sf x (sf (139 + 4 * t + x)))).toInt64, 3)] = [((nI (ktK T sf t x)).toInt64, 3)]
    rw [ktK_at ht hx]
end AKr
def IvK1 (T : Nat) (zs : Nat → Nat) (sf : Nat → Int32) : Prop := (∃ fu, IvK T zs fu sf) ∧ FA (abK T sf)
/-- one code, one state of the machine -/
theorem cd_abK {T : Nat} {zs : Nat → Nat} {sf s2 : Nat → Int32} (hT : T ≤ 4) (hz : ∀ t, t < T → zs t ≤ 7) (h : IvK1 T zs sf) (g : IvK1 T zs s2) (e : c5 (cd3 T sf) = c5 (cd3 T s2)) : abK T sf = abK T s2 := by
  obtain ⟨⟨fu, pl, zz, ro, ad, wn, rm, hK, hfu⟩, hF⟩ := h
  obtain ⟨⟨f2, pl2, zz2, ro2, ad2, wn2, rm2, gK, gfu⟩, gF⟩ := g
  obtain ⟨c1, c2, c3, c4, c5', c6⟩ := KD_rd hT hz hK
  obtain ⟨d1, d2, d3, d4, d5, d6⟩ := KD_rd hT hz gK
  obtain ⟨b1, b2⟩ := KD_b hT hz hK
  obtain ⟨e1, e2⟩ := KD_b hT hz gK
  have hz8 := KD_z8 hK
  have gz8 := KD_z8 gK
  have tA : ∀ t, t < 4 → sf t = nI (pl t) ∧ pl t ≤ 7 := fun t q => ⟨hK.1 t q, (c1 t q).2⟩
  have tB : ∀ t, t < 4 → s2 t = nI (pl2 t) ∧ pl2 t ≤ 7 := fun t q => ⟨gK.1 t q, (d1 t q).2⟩
  have hA : ∀ k, 4 ≤ k → k < 12 → okD (sf k) := fun k q1 q2 => wB_okD (hK.2.2.2.2.2.2.2.2.2.2.2.2.2.1 k q1 q2) (by omega)
  have hB : ∀ k, 4 ≤ k → k < 12 → okD (s2 k) := fun k q1 q2 => wB_okD (gK.2.2.2.2.2.2.2.2.2.2.2.2.2.1 k q1 q2) (by omega)
  have len1 : ∀ x, x < 4 → (tlK sf x).length < 15 := fun x hx => by unfold tlK; rw [List.length_map, List.length_range]; have := (b1 x hx).2; omega
  have len2 : ∀ x, x < 4 → (tlK s2 x).length < 15 := fun x hx => by unfold tlK; rw [List.length_map, List.length_range]; have := (e1 x hx).2; omega
  have ok1 : ∀ x, x < 4 → ∀ z, z ∈ tlK sf x → okEK z := fun x hx z hz2 => by
    unfold tlK at hz2
    obtain ⟨j, hj, rfl⟩ := List.mem_map.mp hz2
    have hj := List.mem_range.mp hj
    exact kn_8 hT hz hK (b2 x (j + 1) hx (by omega)).1
  have ok2 : ∀ x, x < 4 → ∀ z, z ∈ tlK s2 x → okEK z := fun x hx z hz2 => by
    unfold tlK at hz2
    obtain ⟨j, hj, rfl⟩ := List.mem_map.mp hz2
    have hj := List.mem_range.mp hj
    exact kn_8 hT hz gK (e2 x (j + 1) hx (by omega)).1
  have kt1 : ∀ x, x < 4 → ∀ t, t < T → ktK T sf t x < 8 := fun x hx t ht => by rw [ktK_at ht hx]; exact (plF_ok (c6 t (by omega) x hx)).1
  have kt2 : ∀ x, x < 4 → ∀ t, t < T → ktK T s2 t x < 8 := fun x hx t ht => by rw [ktK_at ht hx]; exact (plF_ok (d6 t (by omega) x hx)).1
  have E1 : en3 sf T (zzF sf) (roF sf) = hdB sf ++ (rwE (tlK sf 0) (fun t => ktK T sf t 0) T ++ (rwE (tlK sf 1) (fun t => ktK T sf t 1) T ++ (rwE (tlK sf 2) (fun t => ktK T sf t 2) T ++ (rwE (tlK sf 3) (fun t => ktK T sf t 3) T ++ [])))) := by
    unfold en3
    rw [mpL4, rwB_E hT hz hK (by decide), rwB_E hT hz hK (by decide), rwB_E hT hz hK (by decide), rwB_E hT hz hK (by decide), List.append_nil]
  have E2 : en3 s2 T (zzF s2) (roF s2) = hdB s2 ++ (rwE (tlK s2 0) (fun t => ktK T s2 t 0) T ++ (rwE (tlK s2 1) (fun t => ktK T s2 t 1) T ++ (rwE (tlK s2 2) (fun t => ktK T s2 t 2) T ++ (rwE (tlK s2 3) (fun t => ktK T s2 t 3) T ++ [])))) := by
    unfold en3
    rw [mpL4, rwB_E hT hz gK (by decide), rwB_E hT hz gK (by decide), rwB_E hT hz gK (by decide), rwB_E hT hz gK (by decide), List.append_nil]
  have W1 : okW (en3 sf T (zzF sf) (roF sf)) := by
    rw [E1]
    exact okW_app (hdB_ok tA hA) (okW_app (rwE_ok (len1 0 (by decide)) (ok1 0 (by decide)) (kt1 0 (by decide))) (okW_app (rwE_ok (len1 1 (by decide)) (ok1 1 (by decide)) (kt1 1 (by decide))) (okW_app (rwE_ok (len1 2 (by decide)) (ok1 2 (by decide)) (kt1 2 (by decide))) (okW_app (rwE_ok (len1 3 (by decide)) (ok1 3 (by decide)) (kt1 3 (by decide))) okW_nil))))
  have W2 : okW (en3 s2 T (zzF s2) (roF s2)) := by
    rw [E2]
    exact okW_app (hdB_ok tB hB) (okW_app (rwE_ok (len2 0 (by decide)) (ok2 0 (by decide)) (kt2 0 (by decide))) (okW_app (rwE_ok (len2 1 (by decide)) (ok2 1 (by decide)) (kt2 1 (by decide))) (okW_app (rwE_ok (len2 2 (by decide)) (ok2 2 (by decide)) (kt2 2 (by decide))) (okW_app (rwE_ok (len2 3 (by decide)) (ok2 3 (by decide)) (kt2 3 (by decide))) okW_nil))))
  have sz1 : szB (en3 sf T (zzF sf) (roF sf)) ≤ 320 := en3_sz hT (by rw [c3 0 (by decide), c3 1 (by decide), c3 2 (by decide), c3 3 (by decide), hK.2.2.2.2.2.2.2.2.1]; have := hz8 0 (by decide); omega) (fun x hx => by rw [c3 x hx]; exact (hK.2.2.2.2.2.2.2.1 x hx).2)
  have sz2 : szB (en3 s2 T (zzF s2) (roF s2)) ≤ 320 := en3_sz hT (by rw [d3 0 (by decide), d3 1 (by decide), d3 2 (by decide), d3 3 (by decide), gK.2.2.2.2.2.2.2.2.1]; have := gz8 0 (by decide); omega) (fun x hx => by rw [d3 x hx]; exact (gK.2.2.2.2.2.2.2.1 x hx).2)
  have hnm := cod_inj W1 W2 sz1 sz2 e
  rw [E1, E2] at hnm
  obtain ⟨q1, q2⟩ := nm_app (hdB sf) (hdB s2) (hdB_ok tA hA) (hdB_ok tB hB) (by rw [hdB_w, hdB_w]) hnm
  have hk := hdB_in tA hA tB hB q1
  obtain ⟨l0, m0, q3⟩ := rw_peel (len1 0 (by decide)) (len2 0 (by decide)) (ok1 0 (by decide)) (ok2 0 (by decide)) (fun t ht => ⟨kt1 0 (by decide) t ht, kt2 0 (by decide) t ht⟩) q2
  obtain ⟨l1, m1, q4⟩ := rw_peel (len1 1 (by decide)) (len2 1 (by decide)) (ok1 1 (by decide)) (ok2 1 (by decide)) (fun t ht => ⟨kt1 1 (by decide) t ht, kt2 1 (by decide) t ht⟩) q3
  obtain ⟨l2, m2, q5⟩ := rw_peel (len1 2 (by decide)) (len2 2 (by decide)) (ok1 2 (by decide)) (ok2 2 (by decide)) (fun t ht => ⟨kt1 2 (by decide) t ht, kt2 2 (by decide) t ht⟩) q4
  obtain ⟨l3, m3, -⟩ := rw_peel (len1 3 (by decide)) (len2 3 (by decide)) (ok1 3 (by decide)) (ok2 3 (by decide)) (fun t ht => ⟨kt1 3 (by decide) t ht, kt2 3 (by decide) t ht⟩) q5
  have hl : ∀ x, x < 4 → tlK sf x = tlK s2 x := fun x hx => by
    rcases (by omega : x = 0 ∨ x = 1 ∨ x = 2 ∨ x = 3) with z | z | z | z
    · rw [z]; exact l0
    · rw [z]; exact l1
    · rw [z]; exact l2
    · rw [z]; exact l3
  have hm : ∀ x, x < 4 → ∀ t, t < T → ktK T sf t x = ktK T s2 t x := fun x hx t ht => by
    rcases (by omega : x = 0 ∨ x = 1 ∨ x = 2 ∨ x = 3) with z | z | z | z
    · rw [z]; exact m0 t ht
    · rw [z]; exact m1 t ht
    · rw [z]; exact m2 t ht
    · rw [z]; exact m3 t ht
  refine Prod.ext (cutN_cg (fun t ht => by rw [hk t (by omega)])) (Prod.ext (cutI_cg (fun k hk2 => hk (4 + k) (by omega))) (Prod.ext ?_ ?_))
  · funext x
    show rowsK sf x = rowsK s2 x
    by_cases hx : x < 4
    · obtain ⟨L, hL⟩ := hF x hx
      obtain ⟨M, hM⟩ := gF x hx
      have r1 : rowsK sf x = e0K :: L := hL
      have r2 : rowsK s2 x = e0K :: M := hM
      have y1 := rowsK_tl (sf := sf) hx (by rw [c3 x hx]; exact (hK.2.2.2.2.2.2.2.1 x hx).2)
      have y2 := rowsK_tl (sf := s2) hx (by rw [d3 x hx]; exact (gK.2.2.2.2.2.2.2.1 x hx).2)
      rw [r1] at y1
      rw [r2] at y2
      rw [r1, r2, (List.cons.inj y1).2, (List.cons.inj y2).2, hl x hx]
    · unfold rowsK; rw [if_neg hx, if_neg hx]
  · funext t x
    show ktK T sf t x = ktK T s2 t x
    by_cases q : t < T ∧ x < 4
    · exact hm x q.2 t q.1
    · rw [ktK_out q, ktK_out q]
theorem bg_0 : (∀ t, t < 4 → bg3 t = 0) ∧ (∀ k, k < 8 → bg3 (4 + k) = 0) ∧ (∀ x, x < 4 → zzF bg3 x = 1 ∧ roF bg3 x 0 = x ∧ bg3 (73 + x) = 0 ∧ bg3 (84 + x) = 0) ∧ (∀ w, w < 4 → ∀ y, y < 4 → plF bg3 y (bg3 (95 + 4 * w + y)) = 0) ∧ ∀ t, t < 4 → ∀ y, y < 4 → plF bg3 y (bg3 (139 + 4 * t + y)) = 0 := by decide +kernel
theorem abK_0 {T : Nat} (hT : T ≤ 4) : abK T bg3 = a0K := by
  obtain ⟨g1, g2, g3, g4, g5⟩ := bg_0
  refine Prod.ext ?_ (Prod.ext ?_ (Prod.ext ?_ ?_))
  · show cutN 4 (fun t => (bg3 t).toNatClampNeg) = fun _ => 0
    rw [← cutN_0 (n := 4)]
    exact cutN_cg (fun t ht => by rw [g1 t ht]; rfl)
  · show cutI 8 (fun k => bg3 (4 + k)) = fun _ => 0
    rw [← cutI_0 (n := 8)]
    exact cutI_cg (fun k hk => g2 k hk)
  · funext x
    show rowsK bg3 x = if x < 4 then [e0K] else []
    unfold rowsK
    by_cases hx : x < 4
    · obtain ⟨z1, z2, z3, z4⟩ := g3 x hx
      rw [if_pos hx, if_pos hx, z1]
      show [enR bg3 (roF bg3 x 0)] = [e0K]
      rw [z2]
      refine congrArg (fun z => [z]) (Prod.ext z3 (Prod.ext ?_ ?_))
      · show (bg3 (84 + x)).toNatClampNeg = 0
        rw [z4]; rfl
      · show cutN 4 (fun y => plF bg3 y (bg3 (95 + 4 * x + y))) = fun _ => 0
        rw [← cutN_0 (n := 4)]
        exact cutN_cg (fun y hy => g4 x hx y hy)
    · rw [if_neg hx, if_neg hx]
  · funext t y
    show ktK T bg3 t y = 0
    by_cases q : t < T ∧ y < 4
    · rw [ktK_at q.1 q.2]; exact g5 t (by omega) y q.2
    · exact ktK_out q
theorem FA_0 : FA a0K := fun x hx => ⟨[], if_pos hx⟩
theorem oc_RK {T : Nat} {zs : Nat → Nat} {sf : Nat → Int32} (hT : T ≤ 4) (hz : ∀ t, t < T → zs t ≤ 7) (h : IvK1 T zs sf) : v11 (nv3 sf) = ocK (abK T sf) := by
  obtain ⟨⟨fu, pl, zz, ro, ad, wn, rm, hK, hfu⟩, hF⟩ := h
  obtain ⟨c1, c2, c3, c4, c5', c6⟩ := KD_rd hT hz hK
  unfold ocK
  refine v11_cg (fun k hk => ?_)
  unfold nv3
  by_cases c : k < 8
  · rw [if_pos c, if_pos c, abK_2 c]
  · have hx : k - 8 < 4 := by omega
    have h1 : 1 ≤ zzF sf (k - 8) := by rw [c3 _ hx]; exact (hK.2.2.2.2.2.2.2.1 _ hx).2
    rw [if_neg c, if_neg c, lnX_R hx, atK_R hx (by omega)]; rfl
theorem rkK_0 {T : Nat} {zs kd vx rr : Nat → Nat} {vv : Nat → Int32} (hPr : PrR T zs kd vx rr vv) : rkK T zs a0K < 15 := by
  have h := hPr.2.2.1
  unfold rkK a0K
  show smN (fun t => zs t - 0) T < 15
  rw [show (fun t => zs t - 0) = zs from rfl]; omega
theorem IvK1_s {T : Nat} {zs kd vx rr : Nat → Nat} {vv : Nat → Int32} {sf s2 : Nat → Int32} {t k : Nat} (hPr : PrR T zs kd vx rr vv) (h : IvK1 T zs sf) (ht : t < T) (e : stK zs kd vx rr vv sf t k = some s2) : IvK1 T zs s2 := by
  obtain ⟨⟨fu, hI⟩, hF⟩ := h
  refine ⟨⟨fu - 1, (iv_stK hPr hI ht e).2⟩, ?_⟩
  obtain ⟨pl, zz, ro, ad, wn, rm, hK, hfu⟩ := hI
  have q := simK (k := k) hPr hK ht
  rw [e] at q
  exact FA_s hF q.symm
theorem simK1 {T : Nat} {zs kd vx rr : Nat → Nat} {vv : Nat → Int32} {sf : Nat → Int32} {t k : Nat} (hPr : PrR T zs kd vx rr vv) (h : IvK1 T zs sf) (ht : t < T) : (stK zs kd vx rr vv sf t k).map (abK T) = aK zs kd vx rr vv (abK T sf) t k := by
  obtain ⟨⟨fu, pl, zz, ro, ad, wn, rm, hK, hfu⟩, hF⟩ := h
  exact simK hPr hK ht
theorem IvK1_0 {T : Nat} {zs kd vx rr : Nat → Nat} {vv : Nat → Int32} (hPr : PrR T zs kd vx rr vv) : IvK1 T zs bg3 := ⟨⟨14, IvK_0 hPr⟩, by rw [abK_0 hPr.1]; exact FA_0⟩
/-- the reference's outcomes of model 3, with their runs, are the machine's -/
theorem ref_runs_K {T : Nat} {zs kd vx rr : Nat → Nat} {vv : Nat → Int32} {rc0 : Nat → Int32} (hPr : PrR T zs kd vx rr vv) (hB : (pdf (nxF (aK zs kd vx rr vv) T) ocK 15 a0K [] []).length ≤ 4000) :
    (frR (stK zs kd vx rr vv) (fun s9 => c5 (cd3 T s9)) (mkS zs kd vx T) (fun s9 => v11 (nv3 s9)) T 0 15 bg3 [] (([], [], rc0) : R9)).2.1 = pdf (nxF (aK zs kd vx rr vv) T) ocK 15 a0K [] [] := by
  rw [fr_mdf]
  have h := md_use (kn := knR (fun s9 => c5 (cd3 T s9))) (pre := beR (fun s9 => c5 (cd3 T s9)) (mkS zs kd vx T) 0) (nx := nxF (stK zs kd vx rr vv) T) (fin := fnR (fun s9 => v11 (nv3 s9)) 0) (oc := fun s9 => v11 (nv3 s9)) (rp := fun _ _ _ => False) (Iv := IvK1 T zs)
    (sk := fun s s' => c5 (cd3 T s') = c5 (cd3 T s)) (fo := fun g : R9 => g.2.1) (mk := fun _ _ _ => False) (B := 4000) (na := nxF (aK zs kd vx rr vv) T) (oa := ocK) (ra9 := fun _ _ _ => False) (ab := abK T) (rkA := rkK T zs)
    (fun s hs => nxF_sim (fun t c ht _ => simK1 hPr hs ht)) (fun s hs => oc_RK hPr.1 hPr.2.1 hs) (fun _ _ _ _ => Iff.rfl)
    (fun s c hs hc => by
      obtain ⟨t, k, ht, _, e, _⟩ := nxF_mem hc
      exact IvK1_s hPr hs ht e)
    (fun s c hs hc => by
      obtain ⟨t, k, ht, _, e, _⟩ := nxF_mem hc
      have q := simK1 (k := k) hPr hs ht
      rw [e] at q
      exact rkK_dec ht q.symm)
    (fun s g _ => rfl) (fun s g a b _ => ⟨fun q => Or.inl q, fun q => by rcases q with q | q <;> exact q⟩)
    (fun s g s' _ _ q => by
      unfold knR at q ⊢
      rcases adM_in (of_decide_eq_true q) with h | h
      · exact Or.inl (decide_eq_true h)
      · exact Or.inr h)
    (fun s p g _ q => adO_V q) (fun _ _ _ _ _ => Iff.rfl) (fun s p g s' => rfl)
    (fun s s' hs hs' q => cd_abK hPr.1 hPr.2.1 hs hs' q.symm)
    15 bg3 [] (([], [], rc0) : R9) (IvK1_0 hPr) (by rw [abK_0 hPr.1]; exact rkK_0 hPr) (fun s' => decide_eq_false (List.not_mem_nil)) (by rw [abK_0 hPr.1]; exact hB)
  rw [abK_0 hPr.1] at h
  exact h.1
