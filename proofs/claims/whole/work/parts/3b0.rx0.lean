section RFO
variable {gm K N0 N1 T Ac ld : Nat} {pg : Nat → Nat → Nat} {nm : Nat → Int32} {zs kd vx rr li : Nat → Nat} {vv : Nat → Int32} {RW : Nat → List Nat} {c : CF9} {F : Nat → Nat}
/-- the reference's choice for F -/
def flO9 (pg : Nat → Nat → Nat) (li F : Nat → Nat) (ld k : Nat) : Nat := if k < ld then (if F (pg 1 (li k)) = 0 then 0 else rN9 pg (F (pg 1 (li k)) - 1) + 1) else 0
def rlO9 (pg : Nat → Nat → Nat) (RW : Nat → List Nat) (y : Nat) : List Nat := if y < 4 then (RW y).map (rN9 pg) else []
theorem gd_no (h : GD9 T Ac gm pg nm c F RW) {G : Nat → Nat} : fNo T pg G c := fun t ht w => h.2.2.1 t ht w.1
/-- every graph that stands is a leaf of the reference -/
theorem rf_of (hX : PX T Ac pg nm zs kd vx rr vv) (hL : liO T ld zs kd li) (hK : K ≠ 0) (hN : 30 ≤ N0) (hN1 : 32 ≤ N1) (h : GD9 T Ac gm pg nm c F RW) :
    (flO9 pg li F ld, rlO9 pg RW) ∈ rfL gm K N0 N1 T ld zs kd vx rr li vv ∧ std9 gm K N0 T ld zs kd vx rr li vv (flO9 pg li F ld) (rlO9 pg RW) = true ∧ kf9 Ac pg (gzQ K N0 T ld zs kd vx rr li vv (flO9 pg li F ld)).2.2.2.1 (fQ li ld (flO9 pg li F ld)) = cd9 pg c F ∧ kw9 pg (rlO9 pg RW) = RW := by
  have hz := hX.2.1.2.1
  have hPg := hX.1
  have hNoC := fun G => gd_no (G := G) h
  obtain ⟨hI, ⟨l, r⟩, hend, hG, hst, hnf, h4⟩ := h
  have hE := eH_9 hPg hI
  have hA : ∀ a, (eH9 pg c).testBit a = true → a < Ac := fun a w => (hG.1 a w).1
  -- a taker with a source
  have hsrc : ∀ a, F a ≠ 0 → (eH9 pg c).testBit a = true ∧ tkr9 pg a ∧ (eH9 pg c).testBit (F a - 1) = true ∧ F a - 1 ≠ a ∧ 1 ≤ pg 4 (F a - 1) ∧ pg 4 (F a - 1) ≤ 3 ∧ pg 5 (F a - 1) = pg 5 a := fun a w => by
    obtain ⟨w1, w2⟩ := hnf a w
    have ha : (eH9 pg c).testBit a = true := (hE a).mpr ⟨w1, by rcases w2 with q | q <;> omega⟩
    exact ⟨ha, w2, (hG.2.2.2 a ha w2).resolve_left w⟩
  have hli : ∀ k, k < ld → pr9 T zs (li k) ∧ (kd (li k) = 0 ∨ kd (li k) = 3) ∧ tkr9 pg (pg 1 (li k)) := fun k hk => by
    obtain ⟨l1, l2⟩ := hL.1 k hk
    have hp : pr9 T zs (li k) := l1
    refine ⟨hp, l2, ?_⟩
    show pg 4 (pg 1 (li k)) = 0 ∨ pg 4 (pg 1 (li k)) = 3
    rw [(pr_c9 hX hp).2.2.1]; exact l2
  have hfl : ∀ k, k < ld → flO9 pg li F ld k = if F (pg 1 (li k)) = 0 then 0 else rN9 pg (F (pg 1 (li k)) - 1) + 1 := fun k hk => if_pos hk
  have hgc : flO9 pg li F ld ∈ gcL T zs kd vx li ld 0 (fun _ => 0) := by
    refine (gc_mem hz ld 0 _ _).mpr ⟨fun q hq => if_neg (by omega), fun q _ hq => ?_⟩
    have hq : q < ld := by omega
    obtain ⟨p1, p2, p3⟩ := hli q hq
    by_cases z : F (pg 1 (li q)) = 0
    · have e : flO9 pg li F ld q = 0 := by rw [hfl q hq, if_pos z]
      exact ⟨Or.inl e, Or.inr (Or.inl e)⟩
    · have e : flO9 pg li F ld q = rN9 pg (F (pg 1 (li q)) - 1) + 1 := by rw [hfl q hq, if_neg z]
      obtain ⟨s1, s2, s3, s4, s5, s6, s7⟩ := hsrc _ z
      obtain ⟨r1, r2, -⟩ := pr_r9 hX (hA _ s3)
      have er := pr_c9 hX r1
      rw [r2] at er
      have eq := pr_c9 hX p1
      refine ⟨Or.inr ?_, ?_⟩
      · rw [e, Nat.add_sub_cancel]
        exact ⟨r1, fun w => s4 (by have w9 := congrArg (pg 1) w; rw [r2] at w9; exact w9), by omega, by omega⟩
      · by_cases k3 : kd (li q) = 3
        · refine Or.inr (Or.inr (fF_no9.mpr (fun p hp => decide_eq_false (fun ⟨w1, w2⟩ => ?_))))
          have hpl : p < ld := by omega
          obtain ⟨p4, p5, p6⟩ := hli p hpl
          rw [e, hfl p hpl] at w2
          by_cases z2 : F (pg 1 (li p)) = 0
          · rw [if_pos z2] at w2; omega
          · rw [if_neg z2] at w2
            obtain ⟨t1, t2, t3, t4, t5, t6, t7⟩ := hsrc _ z2
            have e2 : F (pg 1 (li p)) - 1 = F (pg 1 (li q)) - 1 := by
              rw [← (pr_r9 hX (hA _ t3)).2.1, Nat.succ.inj w2, (pr_r9 hX (hA _ s3)).2.1]
            have ep := pr_c9 hX p4
            have hu := add_uni hPg hG t1 s1 (by omega) (by omega) (by rw [← t7, ← s7, e2]) (by omega)
            have := hL.2.1 p q hpl hq (pr_inj hX p4 p1 hu)
            omega
        · exact Or.inl k3
  have hfm : ∀ a, a < Ac → tkr9 pg a → FC9 pg (fQ li ld (flO9 pg li F ld)) a = F a := fun a ha ht => by
    obtain ⟨r1, r2, -⟩ := pr_r9 hX ha
    have er := pr_c9 hX r1
    rw [r2] at er
    have hk : kd (rN9 pg a) = 0 ∨ kd (rN9 pg a) = 3 := by rw [← er.2.2.1]; exact ht
    obtain ⟨k, k1, k2⟩ := hL.2.2 _ r1.1 r1.2 hk
    have hFC := FC_9 (fm := fQ li ld (flO9 pg li F ld)) hX r1
    rw [r2, ← k2, fQ_at hL k1, hfl k k1, k2, r2] at hFC
    rw [hFC]
    by_cases z : F a = 0
    · rw [if_pos z, if_pos rfl, z]
    · rw [if_neg z, if_neg (Nat.succ_ne_zero _), Nat.add_sub_cancel, (pr_r9 hX (hA _ (hsrc a z).2.2.1)).2.1]
      omega
  have hf := gc_fmO hX hL hgc
  obtain ⟨l2, c2, q1, q2, q3, q4⟩ := gz_sim (K := K) (N0 := N0) hX hf hK hN
  have hag : ∀ a, c.1.testBit a = true → (pg 4 a = 0 ∨ pg 4 a = 3) → F a = FC9 pg (fQ li ld (flO9 pg li F ld)) a := fun a w1 w2 => (hfm a (hI.2.1 a w1).1 w2).symm
  have hr2 := (fr_cg hX l c09 c (show PI9 T Ac pg nm c09 from PgI_0) r hag).1
  have ec : c = c2 := fr_eq hX (show PI9 T Ac pg nm c09 from PgI_0) q1 q4 hr2 (hNoC _)
  rw [← ec] at q3
  clear q1 q2 q4 hr2 ec
  have hH := rg_H hX hI q3
  have hag2 : ∀ a, (eH9 pg c).testBit a = true → tkr9 pg a → F a = FC9 pg (fQ li ld (flO9 pg li F ld)) a := fun a w1 w2 => (hfm a (hA a w1) w2).symm
  have hkw : kw9 pg (rlO9 pg RW) = RW := by
    funext y
    unfold kw9
    by_cases hy : y < 4
    · rw [if_pos hy]
      unfold rlO9
      rw [if_pos hy, List.map_map]
      refine (List.map_congr_left (fun a ha => ?_)).trans (List.map_id _)
      exact (pr_r9 hX (row_k hPg hG hy ha).2.1).2.1
    · rw [if_neg hy]; exact (h4 y (by omega)).symm
  have hG2 := gr_cg9 hPg hag2 hG
  have hRm : ∀ y, y < 4 → (rlO9 pg RW y).map (pg 1) = RW y := fun y hy => by
    have := congrFun hkw y
    unfold kw9 at this
    rw [if_pos hy] at this; exact this
  have hpr : ∀ y, y < 4 → ∀ b, b ∈ rlO9 pg RW y → pr9 T zs b := fun y hy b hb => by
    unfold rlO9 at hb
    rw [if_pos hy] at hb
    obtain ⟨a, ha, rfl⟩ := List.mem_map.mp hb
    exact (pr_r9 hX (row_k hPg hG hy ha).2.1).1
  have hgo : goP T ld zs kd vx li (fQ li ld (flO9 pg li F ld)) (gzQ K N0 T ld zs kd vx rr li vv (flO9 pg li F ld)) := by
    refine ⟨fF_no9.mpr (fun t ht => decide_eq_false (fun w => ?_)), fF_no9.mpr (fun k hk => decide_eq_false (fun ⟨w1, w2⟩ => ?_)), ?_⟩
    · have e1 := q3.1 t ht
      have e2 := hX.2.2.1 t ht
      have e3 := hend t ht
      by_cases z : zs t < c.2.2.1 t
      · rw [if_pos z] at e1; omega
      · rw [if_neg z] at e1; omega
    · rw [fQ_at hL hk, hfl k hk] at w2
      by_cases z : F (pg 1 (li k)) = 0
      · rw [if_pos z] at w2; exact w2 rfl
      · have := (hp_a9 hX hH (hli k hk).1).mp (hsrc _ z).1
        omega
    · have h1 : ∀ x, x < 3 → ctB (fiP kd vx li (fQ li ld (flO9 pg li F ld)) (gzQ K N0 T ld zs kd vx rr li vv (flO9 pg li F ld)).2.2.2.1 x) ld ≤ 1 := fun x hx => (ct_1 ld (fun i j hi hj w1 w2 => by
        obtain ⟨i1, i2, i3, i4⟩ := of_decide_eq_true w1
        obtain ⟨j1, j2, j3, j4⟩ := of_decide_eq_true w2
        obtain ⟨a1, a2, a3⟩ := hli i hi
        obtain ⟨b1, b2, b3⟩ := hli j hj
        rw [fQ_at hL hi, hfl i hi] at i4
        rw [fQ_at hL hj, hfl j hj] at j4
        have fi : F (pg 1 (li i)) = 0 := by
          by_cases z : F (pg 1 (li i)) = 0
          · exact z
          · rw [if_neg z] at i4; omega
        have fj : F (pg 1 (li j)) = 0 := by
          by_cases z : F (pg 1 (li j)) = 0
          · exact z
          · rw [if_neg z] at j4; omega
        have ei := pr_c9 hX a1
        have ej := pr_c9 hX b1
        have hu := add_uni hPg hG ((hp_a9 hX hH a1).mpr i3) ((hp_a9 hX hH b1).mpr j3) (by omega) (by omega) (by omega) (by omega)
        exact hL.2.1 i j hi hj (pr_inj hX a1 b1 hu))).1
      have d1 := h1 0 (by decide)
      have d2 := h1 1 (by decide)
      have d3 := h1 2 (by decide)
      show (((false || decide _) || decide _) || decide _) = false
      rw [decide_eq_false (Nat.not_lt.mpr d1), decide_eq_false (Nat.not_lt.mpr d2), decide_eq_false (Nat.not_lt.mpr d3)]; rfl
  have hrw : rlO9 pg RW ∈ rwLv gm T zs kd vx (gzQ K N0 T ld zs kd vx rr li vv (flO9 pg li F ld)).2.2.2.1 (fun l a x => decide (mfL kd vx li (fQ li ld (flO9 pg li F ld)) (gzQ K N0 T ld zs kd vx rr li vv (flO9 pg li F ld)).2.2.2.1 ld l a x)) (N1 + 1) 0 (fun _ => []) := by
    refine (rw_mem hz (fun x => rc_7 hX x) 4 0 (N1 + 1) _ _ (by decide) (fun _ _ _ => rfl) (by omega)).mpr ⟨fun y hy => if_neg (by omega), fun y _ hy => ?_⟩
    by_cases h3 : y = 3 → gm = 3
    · refine (exR_9 hX hL hf hy (w_W9 hX hH hy h3) (rlO9 pg RW y) [] (fun b hb => absurd hb List.not_mem_nil)).mpr ⟨hpr y hy, ?_⟩
      rw [hRm y hy]; exact hG2.2.1 y hy h3
    · have y3 : y = 3 := Classical.byContradiction fun z => h3 (fun w => absurd w z)
      have m3 : gm ≠ 3 := fun z => h3 (fun _ => z)
      have e0 : rlO9 pg RW y = [] := by
        unfold rlO9
        rw [if_pos hy, y3, hG.2.2.1 m3]; rfl
      rw [e0]
      show stR9 gm T zs kd vx _ y [] = true
      unfold stR9
      rw [List.isEmpty_iff]
      refine List.eq_nil_iff_forall_not_mem.mpr (fun a ha => ?_)
      obtain ⟨-, k2, -⟩ := (rcL_mem hz).mp ha
      rcases k2.2 with w | w
      · omega
      · exact m3 w.2.1
  refine ⟨rf_mem.mpr ⟨hgc, hgo, hrw⟩, ?_, ?_, hkw⟩
  · rw [std_9]
    have hD : rwD9 T zs (gzQ K N0 T ld zs kd vx rr li vv (flO9 pg li F ld)).2.2.2.1 (rlO9 pg RW) := fun x hx i hi => by
      have hm : (rlO9 pg RW x).getD i 0 ∈ rlO9 pg RW x := memD.mpr ⟨i, hi, rfl⟩
      have hp9 := hpr x hx _ hm
      have : pg 1 ((rlO9 pg RW x).getD i 0) ∈ RW x := by rw [← hRm x hx]; exact List.mem_map.mpr ⟨_, hm, rfl⟩
      exact ⟨hp9.1, hp9.2, (hp_a9 hX hH hp9).mp (row_k hPg hG hx this).1⟩
    have hn : ∀ y, y < 4 → ndL (rlO9 pg RW y) := fun y hy => nd_nd9 (nd_of9 (f := pg 1) _ (by rw [hRm y hy]; exact (gr_row hG hy).1))
    exact (st_map hX hL hf hH hD hn (fun y hy => (hRm y hy).symm) hG2).mpr ((st_cg9 hag2).mp hst)
  · funext a
    unfold kf9 cd9
    have e : ((a < Ac ∧ (gzQ K N0 T ld zs kd vx rr li vv (flO9 pg li F ld)).2.2.2.1 (rN9 pg a) = 1) ∧ tkr9 pg a) ↔ (c.1.testBit a = true ∧ tkr9 pg a) := by
      rw [← hH a, hE]
      exact ⟨fun w => ⟨w.1.1, w.2⟩, fun w => ⟨⟨w.1, by rcases w.2 with q | q <;> omega⟩, w.2⟩⟩
    by_cases w : c.1.testBit a = true ∧ tkr9 pg a
    · rw [if_pos (e.mpr w), if_pos w, hfm a (e.mpr w).1.1 w.2]
    · rw [if_neg (fun q => w (e.mp q)), if_neg w]
/-- a code tells its graph -/
theorem gd_uni (hX : PX T Ac pg nm zs kd vx rr vv) {c2 : CF9} {F2 : Nat → Nat} {R2 : Nat → List Nat} (h : GD9 T Ac gm pg nm c F RW) (h2 : GD9 T Ac gm pg nm c2 F2 R2) (e : cd9 pg c F = cd9 pg c2 F2) : c = c2 ∧ F = F2 := by
  have hF : F = F2 := by
    funext a
    have ea := congrFun e a
    unfold cd9 at ea
    by_cases w : c.1.testBit a = true ∧ tkr9 pg a
    · rw [if_pos w] at ea
      by_cases v : c2.1.testBit a = true ∧ tkr9 pg a
      · rw [if_pos v] at ea; omega
      · rw [if_neg v] at ea; omega
    · rw [if_neg w] at ea
      have v : ¬ (c2.1.testBit a = true ∧ tkr9 pg a) := fun v => by rw [if_pos v] at ea; omega
      have f1 : F a = 0 := Classical.byContradiction fun q => w (h.2.2.2.2.2.1 a q)
      have f2 : F2 a = 0 := Classical.byContradiction fun q => v (h2.2.2.2.2.2.1 a q)
      rw [f1, f2]
  subst hF
  obtain ⟨l, r⟩ := h.2.1
  obtain ⟨m, r2⟩ := h2.2.1
  exact ⟨fr_eq hX (show PI9 T Ac pg nm c09 from PgI_0) r2 (gd_no h2) r (gd_no h), rfl⟩
end RFO
