theorem upd_2 {f : Nat → Int32} {k : Nat} {a b : Int32} : upd (upd f k a) k b = upd f k b := by
  funext i
  by_cases c : i = k
  · rw [c, pk_us, pk_us]
  · rw [pk_un c, pk_un c, pk_un c]
section AKq
variable {T : Nat} {zs : Nat → Nat} {sf : Nat → Int32} {pl zz : Nat → Nat} {ro : Nat → Nat → Nat} {ad : Nat → Nat} {wn rm : Nat}
theorem abK_1 {t : Nat} (h : t < 4) : (abK T sf).1 t = (sf t).toNatClampNeg := cutN_at (f := fun t => (sf t).toNatClampNeg) h
theorem abK_2 {k : Nat} (h : k < 8) : (abK T sf).2.1 k = sf (4 + k) := cutI_at (f := fun k => sf (4 + k)) h
theorem lnX_R {x : Nat} (hx : x < 4) : lnX (abK T sf) x = zzF sf x := by
  show (rowsK sf x).length = _
  unfold rowsK; rw [if_pos hx, List.length_map, List.length_range]
theorem atK_R {x q : Nat} (hx : x < 4) (hq : q < zzF sf x) : atK (abK T sf) x q = enR sf (roF sf x q) := by
  show (rowsK sf x).getD q e0K = _
  unfold rowsK
  rw [if_pos hx, List.getD_eq_getElem?_getD, List.getElem?_map, List.getElem?_range hq]; rfl
theorem ab_lnK {t w : Nat} (hT : T ≤ 4) (hz : ∀ t, t < T → zs t ≤ 7) (h : KD T zs sf pl zz ro ad wn rm) (ht : t < T) (hp : pl t < zs t) (hw : w < wn) : abK T (lnK sf t w) = lnA (mvK (abK T sf) t (pl t + 1)) t (enR sf w) := by
  have ht4 : t < 4 := by omega
  have hw11 : wn ≤ 11 := by have := KD_z8 h 0 (by decide); omega
  have st : sf t + 1 = nI (pl t + 1) := by rw [h.1 t ht4]; exact nI_1 _
  have hz7 := hz t ht
  obtain ⟨rm2, q1, q2⟩ := KD_move (s2 := upd sf t (nI (pl t + 1))) hT h ht (Nat.lt_succ_self _) hp pk_us (fun i hi => pk_un hi)
  unfold lnK
  rw [st, ab_ln hT hz q2 ht (fun y hy => ?_) (fun y hy => ?_), ab_mv hT hz h ht4 (by omega), enR_cg (sf := sf) (fun i h1 _ => pk_un (by omega)) (by omega)]
  · rw [pk_un (by omega), plF_cg (sf := sf) (fun q hq => pk_un (by omega))]
  · rw [pk_un (by omega), plF_cg (sf := sf) (fun q hq => pk_un (by omega))]
theorem lnK_at {t w i : Nat} (h : i < 139) (hi : i ≠ t) : lnK sf t w i = sf i := by
  unfold lnK
  rw [lnF_o 4 (Or.inl (by omega)), pk_un hi]
theorem KD_rdK {rr : Nat → Nat} {t w a : Nat} (hT : T ≤ 4) (hz : ∀ t, t < T → zs t ≤ 7) (h : KD T zs sf pl zz ro ad wn rm) (ht : t < T) (hp : pl t < zs t) (hw : w < wn) (hr : rr a < 2) :
    (∃ rm2, rm2 < rm ∧ KD T zs (rdK rr sf t a w) (updN pl t (pl t + 1)) zz ro ad wn rm2) ∧ abK T (rdK rr sf t a w) = rgA (lnA (mvK (abK T sf) t (pl t + 1)) t (enR sf w)) (2 * t + rr a) (enR sf w).1 ∧ rdK rr sf t a w (73 + w) = (enR sf w).1 := by
  obtain ⟨rm2, q1, q2⟩ := KD_lnK hT h ht hp hw
  have ev : lnK sf t w (73 + w) = (enR sf w).1 := by
    have := KD_z8 h 0 (by decide)
    exact lnK_at (by omega) (by omega)
  unfold rdK
  refine ⟨⟨rm2, q1, KD_reg q2 (by omega) (by omega) (q2.2.2.2.2.2.2.2.2.2.2.2.2.2.2 _ hw)⟩, ?_, ?_⟩
  · rw [ev, ← ab_lnK hT hz h ht hp hw, Nat.add_assoc]
    exact ab_rg hT hz q2 (by omega)
  · rw [pk_un (by omega)]; exact ev
/-- the reference's step of model 3 is the machine's -/
theorem simK {kd vx rr : Nat → Nat} {vv : Nat → Int32} {t k : Nat} (hPr : PrR T zs kd vx rr vv) (h : KD T zs sf pl zz ro ad wn rm) (ht : t < T) : (stK zs kd vx rr vv sf t k).map (abK T) = aK zs kd vx rr vv (abK T sf) t k := by
  obtain ⟨r1, r2, r3, r4⟩ := hPr
  obtain ⟨c1, c2, c3, c4, c5, c6⟩ := KD_rd r1 r2 h
  have hz8 := KD_z8 h
  have ht4 : t < 4 := by omega
  have hz := r2 t ht
  have hlast : rm + wn ≤ 11 ∧ rm ≤ 7 := ⟨h.2.2.2.2.2.1, h.2.2.2.2.2.2.1⟩
  unfold stK aK
  rw [abK_1 ht4, (c1 t ht4).1, c2]
  by_cases m1 : pl t < zs t
  · have nm1 : ¬ ¬ pl t < zs t := fun q => q m1
    rw [if_neg nm1, if_neg nm1]
    obtain ⟨d1, d2, d3, d4, d5⟩ := r4 (7 * t + pl t) (by omega)
    by_cases k5 : kd (7 * t + pl t) = 5
    · rw [if_pos k5, if_pos k5]
      by_cases q : k = 0
      · rw [if_pos q, if_pos q]
        refine congrArg some ?_
        unfold skR
        rw [abK_2 (by omega), ← Nat.add_assoc]
        by_cases g : sf (4 + 2 * t + rr (7 * t + pl t)) = vv (7 * t + pl t)
        · rw [if_pos g, if_pos g]; exact ab_mv r1 r2 h ht4 (by omega)
        · rw [if_neg g, if_neg g, upd_2]; exact ab_mv r1 r2 h ht4 (by split <;> omega)
      · rw [if_neg q, if_neg q]; rfl
    · rw [if_neg k5, if_neg k5]
      by_cases k4 : kd (7 * t + pl t) = 4
      · rw [if_pos k4, if_pos k4]
        by_cases q : k = 0
        · rw [if_pos q, if_pos q]
          refine congrArg some ?_
          have h3 := hz8 3 (by decide)
          have b3 := (c4 3 (by decide) (zz 3 - 1) (by omega)).2.2.1
          rw [lnX_R (by decide), atK_R (by decide) (by rw [c3 3 (by decide)]; omega)]
          unfold fnK
          rw [c3 3 (by decide)]
          obtain ⟨rm2, q1, q2⟩ := KD_lnK r1 h ht m1 b3
          rw [← ab_lnK r1 r2 h ht m1 b3]
          exact ab_put (an := 1) r1 r2 q2 ht (by decide) (by omega) (Nat.le_refl _) (by omega) (by decide)
        · rw [if_neg q, if_neg q]; rfl
      · rw [if_neg k4, if_neg k4]
        have hv3 := d5 (by omega)
        have hv4 : vx (7 * t + pl t) < 4 := by omega
        have hzx := hz8 _ hv4
        have ek : (abK T sf).2.2.2 t (vx (7 * t + pl t)) = poK vx sf t (7 * t + pl t) := ktK_at ht hv4
        rw [ek, lnX_R hv4]
        by_cases k0 : kd (7 * t + pl t) = 0
        · rw [if_pos k0, if_pos k0]
          by_cases q : poK vx sf t (7 * t + pl t) ≤ k ∧ k < zzF sf (vx (7 * t + pl t))
          · rw [if_pos q, if_pos q, atK_R hv4 q.2]
            have b3 := (c4 _ hv4 k (by rw [← c3 _ hv4]; exact q.2)).2.2.1
            exact congrArg some (KD_rdK r1 r2 h ht m1 b3 d3).2.1
          · rw [if_neg q, if_neg q]; rfl
        · rw [if_neg k0, if_neg k0]
          by_cases k3 : kd (7 * t + pl t) = 3
          · rw [if_pos k3, if_pos k3]
            by_cases q : poK vx sf t (7 * t + pl t) ≤ k ∧ k < zzF sf (vx (7 * t + pl t))
            · have ad1 : (k + 1 < zzF sf (vx (7 * t + pl t)) ∧ adF sf (vx (7 * t + pl t)) (k + 1) = 1) ↔ (k + 1 < zzF sf (vx (7 * t + pl t)) ∧ (atK (abK T sf) (vx (7 * t + pl t)) (k + 1)).2.1 = 1) := by
                refine and_congr_right (fun z => ?_)
                rw [atK_R hv4 z]; exact Iff.rfl
              by_cases q2 : k + 1 < zzF sf (vx (7 * t + pl t)) ∧ adF sf (vx (7 * t + pl t)) (k + 1) = 1
              · rw [if_neg (fun z => z.2 q2), if_neg (fun z => z.2 (ad1.mp q2))]; rfl
              · rw [if_pos ⟨q, q2⟩, if_pos ⟨q, fun z => q2 (ad1.mpr z)⟩, atK_R hv4 q.2]
                have b3 := (c4 _ hv4 k (by rw [← c3 _ hv4]; exact q.2)).2.2.1
                obtain ⟨⟨rm2, y1, y2⟩, y3, y4⟩ := KD_rdK (a := 7 * t + pl t) r1 r2 h ht m1 b3 d3
                refine congrArg some ?_
                unfold adK
                rw [y4, ← y3, c3 _ hv4]
                have qq := q.2
                rw [c3 _ hv4] at qq
                exact ab_put (an := 1) r1 r2 y2 ht hv4 (by omega) (by omega) (by omega) (by decide)
            · rw [if_neg (fun z => q z.1), if_neg (fun z => q z.1)]; rfl
          · rw [if_neg k3, if_neg k3]
            by_cases q : poK vx sf t (7 * t + pl t) < k ∧ k ≤ zzF sf (vx (7 * t + pl t))
            · have ad1 : (k < zzF sf (vx (7 * t + pl t)) ∧ adF sf (vx (7 * t + pl t)) k = 1) ↔ (k < zzF sf (vx (7 * t + pl t)) ∧ (atK (abK T sf) (vx (7 * t + pl t)) k).2.1 = 1) := by
                refine and_congr_right (fun z => ?_)
                rw [atK_R hv4 z]; exact Iff.rfl
              by_cases q2 : k < zzF sf (vx (7 * t + pl t)) ∧ adF sf (vx (7 * t + pl t)) k = 1
              · rw [if_neg (fun z => z.2 q2), if_neg (fun z => z.2 (ad1.mp q2))]; rfl
              · rw [if_pos ⟨q, q2⟩, if_pos ⟨q, fun z => q2 (ad1.mpr z)⟩]
                obtain ⟨rm2, y1, y2⟩ := KD_move (s2 := upd sf t (nI (pl t + 1))) r1 h ht (Nat.lt_succ_self _) m1 pk_us (fun i hi => pk_un hi)
                refine congrArg some ?_
                unfold wrK
                have st : sf t + 1 = nI (pl t + 1) := by rw [h.1 t ht4]; exact nI_1 _
                rw [st, ← ab_mv r1 r2 h ht4 (by omega), c3 _ hv4, abK_2 (by omega), ← Nat.add_assoc]
                have qq := q.2
                rw [c3 _ hv4] at qq
                exact ab_put (an := 0) r1 r2 y2 ht hv4 (by omega) (by omega) (by omega) (by decide)
            · rw [if_neg (fun z => q z.1), if_neg (fun z => q z.1)]; rfl
  · rw [if_pos m1, if_pos m1]; rfl
end AKq
