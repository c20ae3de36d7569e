/-- what the choosing gathers: rows; members; readers; first readers -/
abbrev Z9 : Type := Y9 × Nat × (Nat → Nat) × (Nat → Nat)
def zy (z : Z9) : Y9 := z.1
def zm (z : Z9) : Nat := z.2.1
def zr (z : Z9) : Nat → Nat := z.2.2.1
def zf (z : Z9) : Nat → Nat := z.2.2.2
def scZ (tk : Nat → Nat) (sc : Nat → Nat → Nat) (z : Z9) : Nat → Nat → Nat := fun k => if k = 2 then tk else if k = 6 then zr z else if k = 7 then zf z else scY sc (zy z) k
def scF (sc : Nat → Nat → Nat) (rd fr : Nat → Nat) : Nat → Nat → Nat := fun k => if k = 6 then rd else if k = 7 then fr else sc k
def ZOk (z : Z9) : Prop := YOk (zy z) ∧ zm z < 128 ∧ (∀ i, zr z i < 128) ∧ (∀ i, zf z i < 128)
def GOk (T Ac : Nat) (pg : Nat → Nat → Nat) (dn : Nat) (so : Int64) (pl fm wm tk : Nat → Nat) : Prop :=
  dn < 128 ∧ (∀ t, t < T → pl t ≤ 10) ∧ (∀ a, a < 7 → dn.testBit a = false → srcU so a = so) ∧
  (∀ t q, t < T → pl t ≤ q → q < pg 0 t → dn.testBit (pg 1 (t * 7 + q)) = false) ∧ (∀ i, fm i ≤ Ac + 1) ∧ (∀ t, t < T → wm t ≤ Ac + 1) ∧
  (∀ t, t < T → wm t ≠ 0 → wm t = 1 ∨ (1 ≤ pg 4 (wm t - 1 - 1) ∧ pg 4 (wm t - 1 - 1) ≤ 3)) ∧ (∀ x, tk x < 256) ∧
  (∀ t q, t < T → pl t ≤ q → q < pg 0 t → (q = pl t → wm t = 0) → fm (pg 1 (t * 7 + q)) = 0) ∧
  (∀ t, t < T → wm t ≠ 0 → pl t < pg 0 t ∧ (pg 4 (pg 1 (t * 7 + pl t)) = 0 ∨ pg 4 (pg 1 (t * 7 + pl t)) = 3))
theorem g_next {T Ac : Nat} {pg : Nat → Nat → Nat} {dn : Nat} {so : Int64} {pl fm wm tk : Nat → Nat} {a t : Nat} (hPg : PgOk T Ac pg) (hG : GOk T Ac pg dn so pl fm wm tk) (ht : t < T) (hq : pl t < pg 0 t) (ha : a = pg 1 (t * 7 + pl t)) :
    a < 7 ∧ a < Ac ∧ pg 2 a = t ∧ pg 3 a = pl t ∧ dn.testBit a = false := by
  obtain ⟨s1, s2, s3, s4, -⟩ := hG
  obtain ⟨p1, p2, p3, p4, -⟩ := hPg
  obtain ⟨b1, b2, b3⟩ := p4 t _ ht hq
  rw [ha]
  exact ⟨by omega, b1, b2, b3, s4 t _ ht (Nat.le_refl _) hq⟩
theorem g_take {T Ac : Nat} {pg : Nat → Nat → Nat} {dn : Nat} {so : Int64} {pl fm wm tk fm2 wm2 tk2 : Nat → Nat} {a t s9 ps : Nat} (hPg : PgOk T Ac pg) (hG : GOk T Ac pg dn so pl fm wm tk) (ht : t < T) (hq : pl t < pg 0 t) (ha : a = pg 1 (t * 7 + pl t)) (hs : s9 < 8) (hps : 1 ≤ ps ∧ ps ≤ 4)
    (hf : ∀ b, b ≠ a → fm2 b = fm b) (hf2 : fm2 a ≤ Ac + 1) (hw : ∀ t', t' ≠ t → wm2 t' = wm t') (hw2 : wm2 t = 0) (htk : ∀ x, tk2 x < 256) :
    GOk T Ac pg (dn ||| 2 ^ a) (srcP so s9 a) (updN pl (pg 2 a) (pl (pg 2 a) + ps)) fm2 wm2 tk2 := by
  obtain ⟨a7, aA, a2, a3, ab⟩ := g_next hPg hG ht hq ha
  obtain ⟨s1, s2, s3, s4, s5, s6, s7, s8, s10, s11⟩ := hG
  obtain ⟨p1, p2, p3, p4, p5, p6, p7, p8, p9, p10, p11⟩ := hPg
  have h7 := p3 t ht
  refine ⟨set_lt dn s1 a a7, ?_, ?_, ?_, ?_, ?_, ?_, htk, ?_, ?_⟩
  · intro t' ht'
    rw [a2]; unfold updN
    split
    · omega
    · exact s2 t' ht'
  · intro b hb hbt
    rw [bit_set, Bool.or_eq_false_iff] at hbt
    have hab : a ≠ b := by simpa using hbt.2
    exact srcU_O hs a7 hb hab (s3 b hb hbt.1)
  · intro t' q ht' hpl hq'
    rw [a2] at hpl
    obtain ⟨c1, c2, c3⟩ := p4 t' q ht' hq'
    rw [bit_set, Bool.or_eq_false_iff]
    by_cases e : t' = t
    · subst e
      unfold updN at hpl; rw [if_pos rfl] at hpl
      refine ⟨s4 t' q ht' (by omega) hq', ?_⟩
      have : a ≠ pg 1 (t' * 7 + q) := fun h => by rw [← h, a3] at c3; omega
      simpa using this
    · unfold updN at hpl; rw [if_neg e] at hpl
      refine ⟨s4 t' q ht' hpl hq', ?_⟩
      have : a ≠ pg 1 (t' * 7 + q) := fun h => by rw [← h, a2] at c2; exact e c2.symm
      simpa using this
  · intro i
    by_cases e : i = a
    · rw [e]; exact hf2
    · rw [hf i e]; exact s5 i
  · intro t' ht'
    by_cases e : t' = t
    · rw [e, hw2]; omega
    · rw [hw t' e]; exact s6 t' ht'
  · intro t' ht' h0
    by_cases e : t' = t
    · rw [e] at h0; exact absurd hw2 h0
    · rw [hw t' e] at h0 ⊢; exact s7 t' ht' h0
  · intro t' q ht' hpl hq' hwq
    rw [a2] at hpl hwq
    obtain ⟨c1, c2, c3⟩ := p4 t' q ht' hq'
    by_cases e : t' = t
    · subst e
      unfold updN at hpl hwq; rw [if_pos rfl] at hpl hwq
      have hne : pg 1 (t' * 7 + q) ≠ a := fun h => by rw [h, a3] at c3; omega
      rw [hf _ hne]
      exact s10 t' q ht' (by omega) hq' (fun h => absurd h (by omega))
    · unfold updN at hpl hwq; rw [if_neg e] at hpl hwq
      have hne : pg 1 (t' * 7 + q) ≠ a := fun h => by rw [h, a2] at c2; exact e c2.symm
      rw [hf _ hne]
      exact s10 t' q ht' hpl hq' (fun h => by rw [← hw t' e]; exact hwq h)
  · intro t' ht' h0
    by_cases e : t' = t
    · rw [e] at h0; exact absurd hw2 h0
    · rw [hw t' e] at h0; rw [a2, updN_n e]; exact s11 t' ht' h0
abbrev NZ : Type := Nat → Int64 → (Nat → Nat) → (Nat → Int32) → (Nat → Int32) → (Nat → Nat) → (Nat → Nat) → (Nat → Nat) → Z9 → Z9
section GZ
variable (pg : Nat → Nat → Nat) (nm : Nat → Int32) (E md T Ac : Nat) (sc : Nat → Nat → Nat) (nx : NZ) (dn : Nat) (so : Int64) (pl : Nat → Nat) (rg cv : Nat → Int32) (fm wm tk : Nat → Nat)
def takeZ (a q : Nat) (z : Z9) : Z9 :=
  nx (dn ||| 2 ^ a) (srcP so q a) (updN pl (pg 2 a) (pl (pg 2 a) + psP (pg 4 a) (rg (pg 6 a)) (nm a) (pg 5 a))) (rgP (pg 4 a) rg cv (pg 6 a) q) (vlP (pg 4 a) rg cv (nm a) a (pg 6 a) q) fm wm tk z
/-- all is chosen: the rows -/
def finZ (z : Z9) : Z9 :=
  (stR pg E md Ac (andn dn (pg 9 5)) (scF sc (rdN pg fm (andn dn (pg 9 5)) Ac) (frN pg fm (andn dn (pg 9 5)) Ac)) rg cv (layN pg E md Ac (andn dn (pg 9 5)) (scF sc (rdN pg fm (andn dn (pg 9 5)) Ac) (frN pg fm (andn dn (pg 9 5)) Ac)) rg cv 12) (if md = 3 then 4 else 3) (yg (zy z), ys (zy z), yl (zy z), bfN pg fm (andn dn (pg 9 5)) Ac, yo (zy z), yh (zy z)),
   andn dn (pg 9 5), rdN pg fm (andn dn (pg 9 5)) Ac, frN pg fm (andn dn (pg 9 5)) Ac)
def tkS (a q : Nat) : Nat → Nat := if pg 4 a = 3 then updN tk (pg 5 a) (tk (pg 5 a) ||| 2 ^ q) else tk
def csZ (a t : Nat) : Nat → Z9 → Z9
  | 0, z => z
  | q + 1, z => if mbf pg fm tk (sc 4) dn a q = true ∧ cHb pg pl dn wm q t = true then
      (if wrb dn q = true then takeZ pg nm nx dn so pl rg cv (updN fm a (q + 1)) wm (tkS pg tk a q) a q (csZ a t q z) else nx dn so pl rg cv (updN fm a (q + 1)) (updN wm t (q + 1)) (tkS pg tk a q) (csZ a t q z))
      else csZ a t q z
end GZ
def chZ (pg : Nat → Nat → Nat) (nm : Nat → Int32) (E md T Ac : Nat) (sc : Nat → Nat → Nat) (d : Nat) (nx : NZ) : NZ := fun dn so pl rg cv fm wm tk z =>
  if 14 < d then z
  else if fF (fre pg pl dn wm) T 0 = 0 then (if fF (fun t => decide (pl t < pg 0 t)) T 0 = 0 then finZ pg E md Ac sc dn rg cv fm z else z)
  else if ¬ (pg 4 (pg 1 ((fF (fre pg pl dn wm) T 0 - 1) * 7 + pl (fF (fre pg pl dn wm) T 0 - 1))) = 0 ∨ pg 4 (pg 1 ((fF (fre pg pl dn wm) T 0 - 1) * 7 + pl (fF (fre pg pl dn wm) T 0 - 1))) = 3) then takeZ pg nm nx dn so pl rg cv fm wm tk (pg 1 ((fF (fre pg pl dn wm) T 0 - 1) * 7 + pl (fF (fre pg pl dn wm) T 0 - 1))) 0 z
  else if wm (fF (fre pg pl dn wm) T 0 - 1) = 0 then csZ pg nm sc nx dn so pl rg cv fm wm tk (pg 1 ((fF (fre pg pl dn wm) T 0 - 1) * 7 + pl (fF (fre pg pl dn wm) T 0 - 1))) (fF (fre pg pl dn wm) T 0 - 1) (Ac + 1) z
  else takeZ pg nm nx dn so pl rg cv fm (updN wm (fF (fre pg pl dn wm) T 0 - 1) 0) tk (pg 1 ((fF (fre pg pl dn wm) T 0 - 1) * 7 + pl (fF (fre pg pl dn wm) T 0 - 1))) (wm (fF (fre pg pl dn wm) T 0 - 1) - 1) z
def chN (pg : Nat → Nat → Nat) (nm : Nat → Int32) (E md T Ac : Nat) (sc : Nat → Nat → Nat) : Nat → NZ
  | 0 => chZ pg nm E md T Ac sc 15 (fun _ _ _ _ _ _ _ _ z => z)
  | k + 1 => chZ pg nm E md T Ac sc (14 - k) (chN pg nm E md T Ac sc k)
def zgle (z w : Z9) : Prop := gle (yg (zy z)) (yg (zy w))
def zmono (nx : NZ) : Prop := ∀ dn so pl rg cv fm wm tk z, zgle z (nx dn so pl rg cv fm wm tk z)
section GZ2
variable {pg : Nat → Nat → Nat} {nm : Nat → Int32} {E md T Ac : Nat} {sc : Nat → Nat → Nat} {nx : NZ} {dn : Nat} {so : Int64} {pl : Nat → Nat} {rg cv : Nat → Int32} {fm wm tk : Nat → Nat} {z : Z9}
theorem zg_rf : zgle z z := gle_rf
theorem zg_fin : zgle z (finZ pg E md Ac sc dn rg cv fm z) := by
  unfold zgle finZ
  exact gle_stR (ymono_N 12) (y := (yg (zy z), ys (zy z), yl (zy z), bfN pg fm (andn dn (pg 9 5)) Ac, yo (zy z), yh (zy z)))
theorem zg_take (hmo : zmono nx) {a q : Nat} : zgle z (takeZ pg nm nx dn so pl rg cv fm wm tk a q z) := hmo _ _ _ _ _ _ _ _ _
theorem zg_cs (hmo : zmono nx) {a t i : Nat} : ∀ {n : Nat}, i ≤ n → zgle (csZ pg nm sc nx dn so pl rg cv fm wm tk a t i z) (csZ pg nm sc nx dn so pl rg cv fm wm tk a t n z)
  | 0, h => by rw [Nat.le_zero.mp h]; exact zg_rf
  | n + 1, h => by
    rcases Nat.lt_or_eq_of_le h with q | q
    · refine gle_tr (zg_cs hmo (Nat.le_of_lt_succ q)) ?_
      rw [csZ]; split
      · split
        · exact zg_take hmo
        · exact hmo _ _ _ _ _ _ _ _ _
      · exact zg_rf
    · rw [q]; exact zg_rf
end GZ2
theorem zmono_ch {pg : Nat → Nat → Nat} {nm : Nat → Int32} {E md T Ac : Nat} {sc : Nat → Nat → Nat} {d : Nat} {nx : NZ} (hmo : zmono nx) : zmono (chZ pg nm E md T Ac sc d nx) := fun dn so pl rg cv fm wm tk z => by
  unfold chZ; split
  · exact zg_rf
  · split
    · split
      · exact zg_fin
      · exact zg_rf
    · split
      · exact zg_take hmo
      · split
        · exact zg_cs hmo (i := 0) (Nat.zero_le _)
        · exact zg_take hmo
theorem zmono_N {pg : Nat → Nat → Nat} {nm : Nat → Int32} {E md T Ac : Nat} {sc : Nat → Nat → Nat} : ∀ k, zmono (chN pg nm E md T Ac sc k)
  | 0 => zmono_ch (fun _ _ _ _ _ _ _ _ _ => zg_rf)
  | k + 1 => zmono_ch (zmono_N k)
theorem upd_mN {f : Nat → Nat} {k v : Nat} : upd (fun i0 => mN (f i0)) k (mN v) = fun i0 => mN (updN f k v i0) := by
  funext i; simp only [upd, updN]; split <;> rfl
theorem upd_mS {f : Nat → Nat} {k v : Nat} : upd (fun i0 => mN (f i0)) k (nI v) = fun i0 => mN (updN f k (v + 1) i0) := by
  rw [show nI v = mN (v + 1) from (mN_s (Nat.succ_ne_zero v)).symm]; exact upd_mN
theorem upd_m0 {f : Nat → Nat} {k : Nat} : upd (fun i0 => mN (f i0)) k (-1) = fun i0 => mN (updN f k 0 i0) := upd_mN (v := 0)
theorem set_eq8 : ∀ d, d < 256 → ∀ a, a < 8 → nI d ||| ((1 : Int32) <<< (nI a &&& 31)) = nI (d ||| 2 ^ a) := by decide +kernel
theorem or0_8 : ∀ d, d < 256 → nI d ||| 0 = nI d := by decide +kernel
def ChM (l : Launch) (dC : Nat → ClassId) (dI : Nat → Nat → Nat) (pa : Nat) (pA : Nat → Nat) (pK : Nat → ClassId) (T Ac : Nat) (pg : Nat → Nat → Nat) (nm : Nat → Int32) (ga g1 g2 g3 : Nat) (l1 l2 l3 : ClassId) (xa fa : Nat) (xA : Nat → Nat) (xK : Nat → ClassId) (E md : Nat) (rd : Int32) (sc : Nat → Nat → Nat) (d fr lo : Nat) (nx : NZ) : Prop :=
  ∀ (dn : Nat) (so : Int64) (pl : Nat → Nat) (rg cv : Nat → Int32) (fm wm tk : Nat → Nat) (zz ze : Z9) (ad : Nat → Nat) (ck : Nat → ClassId) (rf : Nat → Int64) (vf : Nat → Int32) (lf : Nat → Int32) (qf : Nat → Int32) (of : Nat → Nat) (vl : Nat → Int32), (GOk T Ac pg dn so pl fm wm tk) → (∀ q, wr pg dn q → vl q = cv q) → (ZOk zz) → (okH (yg (zy zz)) rf vf of) → ((gF (yg (zy ze))).length ≤ 8192) → nx dn so pl rg cv fm wm tk zz = ze → ∀ sz : Nat, Met l y_GraphSearch_choose w_GraphSearch_choose ({ frames := fr, cells := gc (yg (zy ze)) - gc (yg (zy zz)), slots := gs (yg (zy ze)) - gs (yg (zy zz)), locals := lo }) (va_Pc [.ref xa, .int (nI d)] (fun U => U.heap.size = sz ∧ va_P (dC, dI) classes [oc xa 6 [.ref pa, .ref ga, .ref (xA 0), .ref (xA 1), .ref (xA 2), .ref (xA 3), .ref (xA 4), .ref (xA 5), .ref (xA 6), .ref (xA 7), .ref (xA 8), .ref (xA 9), .ref (xA 10), .ref (xA 11), .ref fa, .int (nI md), .int (nI (zm zz))], ia (xA 0) (xK 0) 7 (fun i0 => mN (fm i0)), ia (xA 1) (xK 1) 4 (fun i0 => mN (wm i0)), ia (xA 2) (xK 2) 3 (fun i => nI (tk i)), ia (xA 3) (xK 3) 7 (fun i => nI ((sc 3) i)), ia (xA 4) (xK 4) 7 (fun i => nI ((sc 4) i)), ia (xA 5) (xK 5) 7 (fun i => nI ((sc 5) i)), ia (xA 6) (xK 6) 8 (fun i => nI ((zr zz) i)), ia (xA 7) (xK 7) 4 (fun i => nI ((zf zz) i)), ia (xA 8) (xK 8) 4 (fun i => nI ((yl (zy zz)) i)), ia (xA 9) (xK 9) 7 (fun i => nI ((yb (zy zz)) i)), ia (xA 10) (xK 10) 7 (fun i => nI ((yo (zy zz)) i)), ia (xA 11) (xK 11) 7 (fun i => nI ((yh (zy zz)) i)), oc ga 1 [.ref pa, .ref g1, .ref g2, .ref g3, .int (nI dn), .long so], ia g1 l1 4 (fun i => nI (pl i)), ia g2 l2 8 rg, ia g3 l3 8 vl, oc pa 0 [.ref (pA 0), .ref (pA 1), .ref (pA 2), .ref (pA 3), .ref (pA 4), .ref (pA 5), .ref (pA 6), .ref (pA 7), .ref (pA 8), .ref (pA 9), .ref (pA 10), .int (nI T), .int (nI Ac)], ia (pA 0) (pK 0) 4 (fun i => nI ((pg 0) i)), ia (pA 1) (pK 1) 28 (fun i => nI ((pg 1) i)), ia (pA 2) (pK 2) 7 (fun i => nI ((pg 2) i)), ia (pA 3) (pK 3) 7 (fun i => nI ((pg 3) i)), ia (pA 4) (pK 4) 7 (fun i => nI ((pg 4) i)), ia (pA 5) (pK 5) 7 (fun i => nI ((pg 5) i)), ia (pA 6) (pK 6) 7 (fun i => nI ((pg 6) i)), ia (pA 7) (pK 7) 7 nm, ia (pA 8) (pK 8) 4 (fun i => nI ((pg 8) i)), ia (pA 9) (pK 9) 6 (fun i => nI ((pg 9) i)), ia (pA 10) (pK 10) 3 (fun i => nI ((pg 10) i)), oc fa 3 [.int (nI E), .ref (ad 1), .ref (ad 2), .ref (ad 3), .ref (ad 4), .ref (ad 5), .int (nI ((gF (yg (zy zz))).length)), .int (nI (ys (zy zz))), .int rd], la (ad 1) (ck 1) (gC (yg (zy zz))) rf, ia (ad 2) (ck 2) (gC (yg (zy zz))) vf, ia (ad 3) (ck 3) (gC (yg (zy zz))) lf, ia (ad 4) (ck 4) (gC (yg (zy zz)) * E) qf, ia (ad 5) (ck 5) (gC (yg (zy zz))) (fun i => nI (of i))] U.heap ∧ va_K (dC, dI) classes [((xK 0), .int), ((xK 1), .int), ((xK 2), .int), ((xK 3), .int), ((xK 4), .int), ((xK 5), .int), ((xK 6), .int), ((xK 7), .int), ((xK 8), .int), ((xK 9), .int), ((xK 10), .int), ((xK 11), .int), (l1, .int), (l2, .int), (l3, .int), ((pK 0), .int), ((pK 1), .int), ((pK 2), .int), ((pK 3), .int), ((pK 4), .int), ((pK 5), .int), ((pK 6), .int), ((pK 7), .int), ((pK 8), .int), ((pK 9), .int), ((pK 10), .int), ((ck 1), .long), ((ck 2), .int), ((ck 3), .int), ((ck 4), .int), ((ck 5), .int)] U ∧ va_D (fun _ => True) [oc xa 6 [.ref pa, .ref ga, .ref (xA 0), .ref (xA 1), .ref (xA 2), .ref (xA 3), .ref (xA 4), .ref (xA 5), .ref (xA 6), .ref (xA 7), .ref (xA 8), .ref (xA 9), .ref (xA 10), .ref (xA 11), .ref fa, .int (nI md), .int (nI (zm zz))], ia (xA 0) (xK 0) 7 (fun i0 => mN (fm i0)), ia (xA 1) (xK 1) 4 (fun i0 => mN (wm i0)), ia (xA 2) (xK 2) 3 (fun i => nI (tk i)), ia (xA 3) (xK 3) 7 (fun i => nI ((sc 3) i)), ia (xA 4) (xK 4) 7 (fun i => nI ((sc 4) i)), ia (xA 5) (xK 5) 7 (fun i => nI ((sc 5) i)), ia (xA 6) (xK 6) 8 (fun i => nI ((zr zz) i)), ia (xA 7) (xK 7) 4 (fun i => nI ((zf zz) i)), ia (xA 8) (xK 8) 4 (fun i => nI ((yl (zy zz)) i)), ia (xA 9) (xK 9) 7 (fun i => nI ((yb (zy zz)) i)), ia (xA 10) (xK 10) 7 (fun i => nI ((yo (zy zz)) i)), ia (xA 11) (xK 11) 7 (fun i => nI ((yh (zy zz)) i)), oc ga 1 [.ref pa, .ref g1, .ref g2, .ref g3, .int (nI dn), .long so], ia g1 l1 4 (fun i => nI (pl i)), ia g2 l2 8 rg, ia g3 l3 8 vl, oc pa 0 [.ref (pA 0), .ref (pA 1), .ref (pA 2), .ref (pA 3), .ref (pA 4), .ref (pA 5), .ref (pA 6), .ref (pA 7), .ref (pA 8), .ref (pA 9), .ref (pA 10), .int (nI T), .int (nI Ac)], ia (pA 0) (pK 0) 4 (fun i => nI ((pg 0) i)), ia (pA 1) (pK 1) 28 (fun i => nI ((pg 1) i)), ia (pA 2) (pK 2) 7 (fun i => nI ((pg 2) i)), ia (pA 3) (pK 3) 7 (fun i => nI ((pg 3) i)), ia (pA 4) (pK 4) 7 (fun i => nI ((pg 4) i)), ia (pA 5) (pK 5) 7 (fun i => nI ((pg 5) i)), ia (pA 6) (pK 6) 7 (fun i => nI ((pg 6) i)), ia (pA 7) (pK 7) 7 nm, ia (pA 8) (pK 8) 4 (fun i => nI ((pg 8) i)), ia (pA 9) (pK 9) 6 (fun i => nI ((pg 9) i)), ia (pA 10) (pK 10) 3 (fun i => nI ((pg 10) i)), oc fa 3 [.int (nI E), .ref (ad 1), .ref (ad 2), .ref (ad 3), .ref (ad 4), .ref (ad 5), .int (nI ((gF (yg (zy zz))).length)), .int (nI (ys (zy zz))), .int rd], la (ad 1) (ck 1) (gC (yg (zy zz))) rf, ia (ad 2) (ck 2) (gC (yg (zy zz))) vf, ia (ad 3) (ck 3) (gC (yg (zy zz))) lf, ia (ad 4) (ck 4) (gC (yg (zy zz)) * E) qf, ia (ad 5) (ck 5) (gC (yg (zy zz))) (fun i => nI (of i))] ∧ nw U)) (va_Qv (fun _ : Unit => True) (fun _ t9 => ∃ (ad2 : Nat → Nat) (ck2 : Nat → ClassId) (rf2 : Nat → Int64) (vf2 : Nat → Int32) (lf2 : Nat → Int32) (qf2 : Nat → Int32) (of2 : Nat → Nat) (vl2 : Nat → Int32), okH (yg (zy ze)) rf2 vf2 of2 ∧ ZOk ze ∧ (∀ q, wr pg dn q → vl2 q = cv q) ∧ va_P (dC, dI) classes [oc xa 6 [.ref pa, .ref ga, .ref (xA 0), .ref (xA 1), .ref (xA 2), .ref (xA 3), .ref (xA 4), .ref (xA 5), .ref (xA 6), .ref (xA 7), .ref (xA 8), .ref (xA 9), .ref (xA 10), .ref (xA 11), .ref fa, .int (nI md), .int (nI (zm ze))], ia (xA 0) (xK 0) 7 (fun i0 => mN (fm i0)), ia (xA 1) (xK 1) 4 (fun i0 => mN (wm i0)), ia (xA 2) (xK 2) 3 (fun i => nI (tk i)), ia (xA 3) (xK 3) 7 (fun i => nI ((sc 3) i)), ia (xA 4) (xK 4) 7 (fun i => nI ((sc 4) i)), ia (xA 5) (xK 5) 7 (fun i => nI ((sc 5) i)), ia (xA 6) (xK 6) 8 (fun i => nI ((zr ze) i)), ia (xA 7) (xK 7) 4 (fun i => nI ((zf ze) i)), ia (xA 8) (xK 8) 4 (fun i => nI ((yl (zy ze)) i)), ia (xA 9) (xK 9) 7 (fun i => nI ((yb (zy ze)) i)), ia (xA 10) (xK 10) 7 (fun i => nI ((yo (zy ze)) i)), ia (xA 11) (xK 11) 7 (fun i => nI ((yh (zy ze)) i)), oc ga 1 [.ref pa, .ref g1, .ref g2, .ref g3, .int (nI dn), .long so], ia g1 l1 4 (fun i => nI (pl i)), ia g2 l2 8 rg, ia g3 l3 8 vl2, oc pa 0 [.ref (pA 0), .ref (pA 1), .ref (pA 2), .ref (pA 3), .ref (pA 4), .ref (pA 5), .ref (pA 6), .ref (pA 7), .ref (pA 8), .ref (pA 9), .ref (pA 10), .int (nI T), .int (nI Ac)], ia (pA 0) (pK 0) 4 (fun i => nI ((pg 0) i)), ia (pA 1) (pK 1) 28 (fun i => nI ((pg 1) i)), ia (pA 2) (pK 2) 7 (fun i => nI ((pg 2) i)), ia (pA 3) (pK 3) 7 (fun i => nI ((pg 3) i)), ia (pA 4) (pK 4) 7 (fun i => nI ((pg 4) i)), ia (pA 5) (pK 5) 7 (fun i => nI ((pg 5) i)), ia (pA 6) (pK 6) 7 (fun i => nI ((pg 6) i)), ia (pA 7) (pK 7) 7 nm, ia (pA 8) (pK 8) 4 (fun i => nI ((pg 8) i)), ia (pA 9) (pK 9) 6 (fun i => nI ((pg 9) i)), ia (pA 10) (pK 10) 3 (fun i => nI ((pg 10) i)), oc fa 3 [.int (nI E), .ref (ad2 1), .ref (ad2 2), .ref (ad2 3), .ref (ad2 4), .ref (ad2 5), .int (nI ((gF (yg (zy ze))).length)), .int (nI (ys (zy ze))), .int rd], la (ad2 1) (ck2 1) (gC (yg (zy ze))) rf2, ia (ad2 2) (ck2 2) (gC (yg (zy ze))) vf2, ia (ad2 3) (ck2 3) (gC (yg (zy ze))) lf2, ia (ad2 4) (ck2 4) (gC (yg (zy ze)) * E) qf2, ia (ad2 5) (ck2 5) (gC (yg (zy ze))) (fun i => nI (of2 i))] t9.heap ∧ va_K (dC, dI) classes [((ck2 1), .long), ((ck2 2), .int), ((ck2 3), .int), ((ck2 4), .int), ((ck2 5), .int)] t9 ∧ va_D (va_A [oc xa 6 [.ref pa, .ref ga, .ref (xA 0), .ref (xA 1), .ref (xA 2), .ref (xA 3), .ref (xA 4), .ref (xA 5), .ref (xA 6), .ref (xA 7), .ref (xA 8), .ref (xA 9), .ref (xA 10), .ref (xA 11), .ref fa, .int (nI md), .int (nI (zm zz))], ia (xA 0) (xK 0) 7 (fun i0 => mN (fm i0)), ia (xA 1) (xK 1) 4 (fun i0 => mN (wm i0)), ia (xA 2) (xK 2) 3 (fun i => nI (tk i)), ia (xA 3) (xK 3) 7 (fun i => nI ((sc 3) i)), ia (xA 4) (xK 4) 7 (fun i => nI ((sc 4) i)), ia (xA 5) (xK 5) 7 (fun i => nI ((sc 5) i)), ia (xA 6) (xK 6) 8 (fun i => nI ((zr zz) i)), ia (xA 7) (xK 7) 4 (fun i => nI ((zf zz) i)), ia (xA 8) (xK 8) 4 (fun i => nI ((yl (zy zz)) i)), ia (xA 9) (xK 9) 7 (fun i => nI ((yb (zy zz)) i)), ia (xA 10) (xK 10) 7 (fun i => nI ((yo (zy zz)) i)), ia (xA 11) (xK 11) 7 (fun i => nI ((yh (zy zz)) i)), oc ga 1 [.ref pa, .ref g1, .ref g2, .ref g3, .int (nI dn), .long so], ia g1 l1 4 (fun i => nI (pl i)), ia g2 l2 8 rg, ia g3 l3 8 vl, oc pa 0 [.ref (pA 0), .ref (pA 1), .ref (pA 2), .ref (pA 3), .ref (pA 4), .ref (pA 5), .ref (pA 6), .ref (pA 7), .ref (pA 8), .ref (pA 9), .ref (pA 10), .int (nI T), .int (nI Ac)], ia (pA 0) (pK 0) 4 (fun i => nI ((pg 0) i)), ia (pA 1) (pK 1) 28 (fun i => nI ((pg 1) i)), ia (pA 2) (pK 2) 7 (fun i => nI ((pg 2) i)), ia (pA 3) (pK 3) 7 (fun i => nI ((pg 3) i)), ia (pA 4) (pK 4) 7 (fun i => nI ((pg 4) i)), ia (pA 5) (pK 5) 7 (fun i => nI ((pg 5) i)), ia (pA 6) (pK 6) 7 (fun i => nI ((pg 6) i)), ia (pA 7) (pK 7) 7 nm, ia (pA 8) (pK 8) 4 (fun i => nI ((pg 8) i)), ia (pA 9) (pK 9) 6 (fun i => nI ((pg 9) i)), ia (pA 10) (pK 10) 3 (fun i => nI ((pg 10) i)), oc fa 3 [.int (nI E), .ref (ad 1), .ref (ad 2), .ref (ad 3), .ref (ad 4), .ref (ad 5), .int (nI ((gF (yg (zy zz))).length)), .int (nI (ys (zy zz))), .int rd], la (ad 1) (ck 1) (gC (yg (zy zz))) rf, ia (ad 2) (ck 2) (gC (yg (zy zz))) vf, ia (ad 3) (ck 3) (gC (yg (zy zz))) lf, ia (ad 4) (ck 4) (gC (yg (zy zz)) * E) qf, ia (ad 5) (ck 5) (gC (yg (zy zz))) (fun i => nI (of i))] sz) [oc xa 6 [.ref pa, .ref ga, .ref (xA 0), .ref (xA 1), .ref (xA 2), .ref (xA 3), .ref (xA 4), .ref (xA 5), .ref (xA 6), .ref (xA 7), .ref (xA 8), .ref (xA 9), .ref (xA 10), .ref (xA 11), .ref fa, .int (nI md), .int (nI (zm ze))], ia (xA 0) (xK 0) 7 (fun i0 => mN (fm i0)), ia (xA 1) (xK 1) 4 (fun i0 => mN (wm i0)), ia (xA 2) (xK 2) 3 (fun i => nI (tk i)), ia (xA 3) (xK 3) 7 (fun i => nI ((sc 3) i)), ia (xA 4) (xK 4) 7 (fun i => nI ((sc 4) i)), ia (xA 5) (xK 5) 7 (fun i => nI ((sc 5) i)), ia (xA 6) (xK 6) 8 (fun i => nI ((zr ze) i)), ia (xA 7) (xK 7) 4 (fun i => nI ((zf ze) i)), ia (xA 8) (xK 8) 4 (fun i => nI ((yl (zy ze)) i)), ia (xA 9) (xK 9) 7 (fun i => nI ((yb (zy ze)) i)), ia (xA 10) (xK 10) 7 (fun i => nI ((yo (zy ze)) i)), ia (xA 11) (xK 11) 7 (fun i => nI ((yh (zy ze)) i)), oc ga 1 [.ref pa, .ref g1, .ref g2, .ref g3, .int (nI dn), .long so], ia g1 l1 4 (fun i => nI (pl i)), ia g2 l2 8 rg, ia g3 l3 8 vl2, oc pa 0 [.ref (pA 0), .ref (pA 1), .ref (pA 2), .ref (pA 3), .ref (pA 4), .ref (pA 5), .ref (pA 6), .ref (pA 7), .ref (pA 8), .ref (pA 9), .ref (pA 10), .int (nI T), .int (nI Ac)], ia (pA 0) (pK 0) 4 (fun i => nI ((pg 0) i)), ia (pA 1) (pK 1) 28 (fun i => nI ((pg 1) i)), ia (pA 2) (pK 2) 7 (fun i => nI ((pg 2) i)), ia (pA 3) (pK 3) 7 (fun i => nI ((pg 3) i)), ia (pA 4) (pK 4) 7 (fun i => nI ((pg 4) i)), ia (pA 5) (pK 5) 7 (fun i => nI ((pg 5) i)), ia (pA 6) (pK 6) 7 (fun i => nI ((pg 6) i)), ia (pA 7) (pK 7) 7 nm, ia (pA 8) (pK 8) 4 (fun i => nI ((pg 8) i)), ia (pA 9) (pK 9) 6 (fun i => nI ((pg 9) i)), ia (pA 10) (pK 10) 3 (fun i => nI ((pg 10) i)), oc fa 3 [.int (nI E), .ref (ad2 1), .ref (ad2 2), .ref (ad2 3), .ref (ad2 4), .ref (ad2 5), .int (nI ((gF (yg (zy ze))).length)), .int (nI (ys (zy ze))), .int rd], la (ad2 1) (ck2 1) (gC (yg (zy ze))) rf2, ia (ad2 2) (ck2 2) (gC (yg (zy ze))) vf2, ia (ad2 3) (ck2 3) (gC (yg (zy ze))) lf2, ia (ad2 4) (ck2 4) (gC (yg (zy ze)) * E) qf2, ia (ad2 5) (ck2 5) (gC (yg (zy ze))) (fun i => nI (of2 i))]) (va_A [oc xa 6 [.ref pa, .ref ga, .ref (xA 0), .ref (xA 1), .ref (xA 2), .ref (xA 3), .ref (xA 4), .ref (xA 5), .ref (xA 6), .ref (xA 7), .ref (xA 8), .ref (xA 9), .ref (xA 10), .ref (xA 11), .ref fa, .int (nI md), .int (nI (zm zz))], ia (xA 0) (xK 0) 7 (fun i0 => mN (fm i0)), ia (xA 1) (xK 1) 4 (fun i0 => mN (wm i0)), ia (xA 2) (xK 2) 3 (fun i => nI (tk i)), ia (xA 3) (xK 3) 7 (fun i => nI ((sc 3) i)), ia (xA 4) (xK 4) 7 (fun i => nI ((sc 4) i)), ia (xA 5) (xK 5) 7 (fun i => nI ((sc 5) i)), ia (xA 6) (xK 6) 8 (fun i => nI ((zr zz) i)), ia (xA 7) (xK 7) 4 (fun i => nI ((zf zz) i)), ia (xA 8) (xK 8) 4 (fun i => nI ((yl (zy zz)) i)), ia (xA 9) (xK 9) 7 (fun i => nI ((yb (zy zz)) i)), ia (xA 10) (xK 10) 7 (fun i => nI ((yo (zy zz)) i)), ia (xA 11) (xK 11) 7 (fun i => nI ((yh (zy zz)) i)), oc ga 1 [.ref pa, .ref g1, .ref g2, .ref g3, .int (nI dn), .long so], ia g1 l1 4 (fun i => nI (pl i)), ia g2 l2 8 rg, ia g3 l3 8 vl, oc pa 0 [.ref (pA 0), .ref (pA 1), .ref (pA 2), .ref (pA 3), .ref (pA 4), .ref (pA 5), .ref (pA 6), .ref (pA 7), .ref (pA 8), .ref (pA 9), .ref (pA 10), .int (nI T), .int (nI Ac)], ia (pA 0) (pK 0) 4 (fun i => nI ((pg 0) i)), ia (pA 1) (pK 1) 28 (fun i => nI ((pg 1) i)), ia (pA 2) (pK 2) 7 (fun i => nI ((pg 2) i)), ia (pA 3) (pK 3) 7 (fun i => nI ((pg 3) i)), ia (pA 4) (pK 4) 7 (fun i => nI ((pg 4) i)), ia (pA 5) (pK 5) 7 (fun i => nI ((pg 5) i)), ia (pA 6) (pK 6) 7 (fun i => nI ((pg 6) i)), ia (pA 7) (pK 7) 7 nm, ia (pA 8) (pK 8) 4 (fun i => nI ((pg 8) i)), ia (pA 9) (pK 9) 6 (fun i => nI ((pg 9) i)), ia (pA 10) (pK 10) 3 (fun i => nI ((pg 10) i)), oc fa 3 [.int (nI E), .ref (ad 1), .ref (ad 2), .ref (ad 3), .ref (ad 4), .ref (ad 5), .int (nI ((gF (yg (zy zz))).length)), .int (nI (ys (zy zz))), .int rd], la (ad 1) (ck 1) (gC (yg (zy zz))) rf, ia (ad 2) (ck 2) (gC (yg (zy zz))) vf, ia (ad 3) (ck 3) (gC (yg (zy zz))) lf, ia (ad 4) (ck 4) (gC (yg (zy zz)) * E) qf, ia (ad 5) (ck 5) (gC (yg (zy zz))) (fun i => nI (of i))] sz)) (gc (yg (zy ze)) - gc (yg (zy zz))) (gs (yg (zy ze)) - gs (yg (zy zz))) (va_A [oc xa 6 [.ref pa, .ref ga, .ref (xA 0), .ref (xA 1), .ref (xA 2), .ref (xA 3), .ref (xA 4), .ref (xA 5), .ref (xA 6), .ref (xA 7), .ref (xA 8), .ref (xA 9), .ref (xA 10), .ref (xA 11), .ref fa, .int (nI md), .int (nI (zm zz))], ia (xA 0) (xK 0) 7 (fun i0 => mN (fm i0)), ia (xA 1) (xK 1) 4 (fun i0 => mN (wm i0)), ia (xA 2) (xK 2) 3 (fun i => nI (tk i)), ia (xA 3) (xK 3) 7 (fun i => nI ((sc 3) i)), ia (xA 4) (xK 4) 7 (fun i => nI ((sc 4) i)), ia (xA 5) (xK 5) 7 (fun i => nI ((sc 5) i)), ia (xA 6) (xK 6) 8 (fun i => nI ((zr zz) i)), ia (xA 7) (xK 7) 4 (fun i => nI ((zf zz) i)), ia (xA 8) (xK 8) 4 (fun i => nI ((yl (zy zz)) i)), ia (xA 9) (xK 9) 7 (fun i => nI ((yb (zy zz)) i)), ia (xA 10) (xK 10) 7 (fun i => nI ((yo (zy zz)) i)), ia (xA 11) (xK 11) 7 (fun i => nI ((yh (zy zz)) i)), oc ga 1 [.ref pa, .ref g1, .ref g2, .ref g3, .int (nI dn), .long so], ia g1 l1 4 (fun i => nI (pl i)), ia g2 l2 8 rg, ia g3 l3 8 vl, oc pa 0 [.ref (pA 0), .ref (pA 1), .ref (pA 2), .ref (pA 3), .ref (pA 4), .ref (pA 5), .ref (pA 6), .ref (pA 7), .ref (pA 8), .ref (pA 9), .ref (pA 10), .int (nI T), .int (nI Ac)], ia (pA 0) (pK 0) 4 (fun i => nI ((pg 0) i)), ia (pA 1) (pK 1) 28 (fun i => nI ((pg 1) i)), ia (pA 2) (pK 2) 7 (fun i => nI ((pg 2) i)), ia (pA 3) (pK 3) 7 (fun i => nI ((pg 3) i)), ia (pA 4) (pK 4) 7 (fun i => nI ((pg 4) i)), ia (pA 5) (pK 5) 7 (fun i => nI ((pg 5) i)), ia (pA 6) (pK 6) 7 (fun i => nI ((pg 6) i)), ia (pA 7) (pK 7) 7 nm, ia (pA 8) (pK 8) 4 (fun i => nI ((pg 8) i)), ia (pA 9) (pK 9) 6 (fun i => nI ((pg 9) i)), ia (pA 10) (pK 10) 3 (fun i => nI ((pg 10) i)), oc fa 3 [.int (nI E), .ref (ad 1), .ref (ad 2), .ref (ad 3), .ref (ad 4), .ref (ad 5), .int (nI ((gF (yg (zy zz))).length)), .int (nI (ys (zy zz))), .int rd], la (ad 1) (ck 1) (gC (yg (zy zz))) rf, ia (ad 2) (ck 2) (gC (yg (zy zz))) vf, ia (ad 3) (ck 3) (gC (yg (zy zz))) lf, ia (ad 4) (ck 4) (gC (yg (zy zz)) * E) qf, ia (ad 5) (ck 5) (gC (yg (zy zz))) (fun i => nI (of i))] sz)
