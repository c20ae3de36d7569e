section UPQ
variable {l : Launch} {dC : Nat → ClassId} {dI : Nat → Nat → Nat} {ra : Nat} {rA : Nat → Nat} {rK9 : Nat → ClassId} {S : CX9} {R : RX9}
theorem U_runs {mx : Int32} (h : JV9 S R) : UP9 l dC dI ra rA rK9 y_OM_runs w_OM_runs y_Ref_runs w_Ref_runs [.int mx] S R := by
  by_cases hk : mok9 mx
  · obtain ⟨m, hm, rfl⟩ := mok_9 hk
    obtain ⟨OS, ld, li, hI⟩ := id h
    have hR := hI.2.1
    refine ⟨mcR9 S m, msR9 S m, _, _, MC_g (by decide) (by decide) (fun sz => cRu9 l dC dI S m hm (ok_B9 hI.1) sz), MR_g (by decide) (by decide) (fun sz => rRu9 l dC dI ra rA rK9 R OS m hm hR.1 hR.2.1 (hR.2.2.2.1 m (by omega)) sz), mx_R hI.1 hm, ?_⟩
    rintro r S2 r' R2 ⟨q1, rfl⟩ ⟨OS2, q2, q3, rfl⟩
    obtain ⟨a1, a2, a3, a4⟩ := IV_cR hI hm q1
    obtain ⟨b1, b2⟩ := IV_rR a1 hm q2
    obtain ⟨c1, c2, c3, c4, c5⟩ := IV_eqR b1 hm a2 b2
    exact ⟨by rw [ClO_n (Ru_Cl c1), c5.1], ⟨OS2, ld, li, b1⟩, a3, a4, (stR_f q1).2⟩
  · exact ⟨0, 0, _, _, MC_g (by decide) (by decide) (fun sz => cRu9b l dC dI S mx hk sz), MR_g (by decide) (by decide) (fun sz => rRu9b l dC dI ra rA rK9 R mx hk sz), JV_0 h, UJ_0 h⟩
theorem U_outcome {mx i9 w9 : Int32} (h : JV9 S R) : UP9 l dC dI ra rA rK9 y_OM_outcome w_OM_outcome y_Ref_outcome w_Ref_outcome [.int mx, .int i9, .int w9] S R := by
  by_cases hk : mok9 mx
  · obtain ⟨m, hm, rfl⟩ := mok_9 hk
    obtain ⟨OS, ld, li, hI⟩ := id h
    have hR := hI.2.1
    refine ⟨mcR9 S m, msR9 S m, _, _, MC_g (by decide) (by decide) (fun sz => cOut9 l dC dI S ld _ _ _ _ li _ m i9 w9 hm hI.1 sz), MR_g (by decide) (by decide) (fun sz => rOut9 l dC dI ra rA rK9 R OS m i9 w9 hm hR.1 hR.2.1 (hR.2.2.2.1 m (by omega)) sz), mx_R hI.1 hm, ?_⟩
    rintro r S2 r' R2 ⟨q1, rfl⟩ ⟨OS2, q2, q3, rfl⟩
    obtain ⟨a1, a2, a3, a4⟩ := IV_cR hI hm q1
    obtain ⟨b1, b2⟩ := IV_rR a1 hm q2
    obtain ⟨c1, c2, c3, c4, c5⟩ := IV_eqR b1 hm a2 b2
    exact ⟨val_eq9 c2 (Ru_Cl c1) c5, ⟨OS2, ld, li, b1⟩, a3, a4, (stR_f q1).2⟩
  · exact ⟨0, 0, _, _, MC_g (by decide) (by decide) (fun sz => cOut9b l dC dI S mx i9 w9 hk sz), MR_g (by decide) (by decide) (fun sz => rOut9b l dC dI ra rA rK9 R mx i9 w9 hk sz), JV_0 h, UJ_0 h⟩
theorem U_witness {mx i9 w9 : Int32} (h : JV9 S R) : UP9 l dC dI ra rA rK9 y_OM_witness w_OM_witness y_Ref_witness w_Ref_witness [.int mx, .int i9, .int w9] S R := by
  by_cases hk : mok9 mx
  · obtain ⟨m, hm, rfl⟩ := mok_9 hk
    obtain ⟨OS, ld, li, hI⟩ := id h
    have hR := hI.2.1
    refine ⟨mcR9 S m, msR9 S m, _, _, MC_g (by decide) (by decide) (fun sz => cWit9 l dC dI S ld _ _ _ _ li _ m i9 w9 hm hI.1 sz), MR_g (by decide) (by decide) (fun sz => rWit9 l dC dI ra rA rK9 R OS m i9 w9 hm hR.1 hR.2.1 (hR.2.2.2.1 m (by omega)) sz), mx_R hI.1 hm, ?_⟩
    rintro r S2 r' R2 ⟨q1, rfl⟩ ⟨OS2, q2, q3, rfl⟩
    obtain ⟨a1, a2, a3, a4⟩ := IV_cR hI hm q1
    obtain ⟨b1, b2⟩ := IV_rR a1 hm q2
    obtain ⟨c1, c2, c3, c4, c5⟩ := IV_eqR b1 hm a2 b2
    exact ⟨stp_eq9 hm c2 c4 c1 c5, ⟨OS2, ld, li, b1⟩, a3, a4, (stR_f q1).2⟩
  · exact ⟨0, 0, _, _, MC_g (by decide) (by decide) (fun sz => cWit9b l dC dI S mx i9 w9 hk sz), MR_g (by decide) (by decide) (fun sz => rWit9b l dC dI ra rA rK9 R mx i9 w9 hk sz), JV_0 h, UJ_0 h⟩
theorem U_orders {mx : Int32} (h : JV9 S R) : UP9 l dC dI ra rA rK9 y_OM_orders w_OM_orders y_Ref_orders w_Ref_orders [.int mx] S R := by
  by_cases hk : mok9 mx
  · obtain ⟨m, hm, rfl⟩ := mok_9 hk
    obtain ⟨OS, ld, li, hI⟩ := id h
    have hR := hI.2.1
    refine ⟨mcG9 S m, msG9 S m, _, _, MC_g (by decide) (by decide) (fun sz => cOr9 l dC dI S m hm (ok_B9 hI.1) sz), MR_g (by decide) (by decide) (fun sz => rOr9 l dC dI ra rA rK9 R OS m hm hR.1 hR.2.1 hR.2.2.1 (hR.2.2.2.1 (4 + m) (by omega)) sz), mx_G hI.1 hm, ?_⟩
    rintro r S2 r' R2 ⟨q1, rfl⟩ ⟨OS2, q2, q3, rfl⟩
    obtain ⟨a1, a2, a3, a4⟩ := IV_cG hI hm q1
    obtain ⟨b1, b2⟩ := IV_rG a1 hm q2
    obtain ⟨c1, c2, c3, c4, c5⟩ := IV_eqG b1 hm a2 b2
    exact ⟨by rw [ClO_n c1, c5.1], ⟨OS2, ld, li, b1⟩, a3, a4, (stG_f q1).2⟩
  · exact ⟨0, 0, _, _, MC_g (by decide) (by decide) (fun sz => cOr9b l dC dI S mx hk sz), MR_g (by decide) (by decide) (fun sz => rOr9b l dC dI ra rA rK9 R mx hk sz), JV_0 h, UJ_0 h⟩
theorem U_ordered {mx i9 w9 : Int32} (h : JV9 S R) : UP9 l dC dI ra rA rK9 y_OM_ordered w_OM_ordered y_Ref_ordered w_Ref_ordered [.int mx, .int i9, .int w9] S R := by
  by_cases hk : mok9 mx
  · obtain ⟨m, hm, rfl⟩ := mok_9 hk
    obtain ⟨OS, ld, li, hI⟩ := id h
    have hR := hI.2.1
    refine ⟨mcG9 S m, msG9 S m, _, _, MC_g (by decide) (by decide) (fun sz => cOrd9 l dC dI S ld _ _ _ _ li _ m i9 w9 hm hI.1 sz), MR_g (by decide) (by decide) (fun sz => rOrd9 l dC dI ra rA rK9 R OS m i9 w9 hm hR.1 hR.2.1 hR.2.2.1 (hR.2.2.2.1 (4 + m) (by omega)) sz), mx_G hI.1 hm, ?_⟩
    rintro r S2 r' R2 ⟨q1, rfl⟩ ⟨OS2, q2, q3, rfl⟩
    obtain ⟨a1, a2, a3, a4⟩ := IV_cG hI hm q1
    obtain ⟨b1, b2⟩ := IV_rG a1 hm q2
    obtain ⟨c1, c2, c3, c4, c5⟩ := IV_eqG b1 hm a2 b2
    exact ⟨val_eq9 c2 c1 c5, ⟨OS2, ld, li, b1⟩, a3, a4, (stG_f q1).2⟩
  · exact ⟨0, 0, _, _, MC_g (by decide) (by decide) (fun sz => cOrd9b l dC dI S mx i9 w9 hk sz), MR_g (by decide) (by decide) (fun sz => rOrd9b l dC dI ra rA rK9 R mx i9 w9 hk sz), JV_0 h, UJ_0 h⟩
theorem U_graphs {mx : Int32} (h : JV9 S R) : UP9 l dC dI ra rA rK9 y_OM_graphs w_OM_graphs y_Ref_graphs w_Ref_graphs [.int mx] S R := by
  by_cases hk : mok9 mx
  · obtain ⟨m, hm, rfl⟩ := mok_9 hk
    obtain ⟨OS, ld, li, hI⟩ := id h
    have hR := hI.2.1
    refine ⟨mcG9 S m, msG9 S m, _, _, MC_g (by decide) (by decide) (fun sz => cGr9 l dC dI S m hm (ok_B9 hI.1) sz), MR_g (by decide) (by decide) (fun sz => rGr9 l dC dI ra rA rK9 R OS m hm hR.1 hR.2.1 hR.2.2.1 (hR.2.2.2.1 (4 + m) (by omega)) sz), mx_G hI.1 hm, ?_⟩
    rintro r S2 r' R2 ⟨q1, rfl⟩ ⟨OS2, q2, q3, rfl⟩
    obtain ⟨a1, a2, a3, a4⟩ := IV_cG hI hm q1
    obtain ⟨b1, b2⟩ := IV_rG a1 hm q2
    obtain ⟨c1, c2, c3, c4, c5⟩ := IV_eqG b1 hm a2 b2
    exact ⟨c4, ⟨OS2, ld, li, b1⟩, a3, a4, (stG_f q1).2⟩
  · exact ⟨0, 0, _, _, MC_g (by decide) (by decide) (fun sz => cGr9b l dC dI S mx hk sz), MR_g (by decide) (by decide) (fun sz => rGr9b l dC dI ra rA rK9 R mx hk sz), JV_0 h, UJ_0 h⟩
theorem U_beyond {mx ox : Int32} (h : JV9 S R) : UP9 l dC dI ra rA rK9 y_OM_beyond w_OM_beyond y_Ref_beyond w_Ref_beyond [.int mx, .int ox] S R := by
  by_cases hb : mok9 mx ∧ mok9 ox
  · obtain ⟨m, hm, rfl⟩ := mok_9 hb.1
    obtain ⟨o, ho, rfl⟩ := mok_9 hb.2
    obtain ⟨OS, ld, li, hI⟩ := id h
    have hR := hI.2.1
    have hMR := MR_g (l := l) (dC := dC) (dI := dI) (ra := ra) (rA := rA) (rK9 := rK9) (by decide) (by decide) (fun sz => rBey9 l dC dI ra rA rK9 R OS m o hm ho hR.1 hR.2.1 (hR.2.2.2.1 m (by omega)) (fun R2 OS2 q => (IV_rR hI hm q).1.2.1.2.2.2.1 o (by omega)) sz)
    by_cases e : m = o
    · subst e
      refine ⟨0, 0, _, _, MC_g (by decide) (by decide) (fun sz => cBey9s l dC dI S m hm sz), hMR, JV_0 h, ?_⟩
      rintro r S2 r' R4 ⟨rfl, rfl⟩ ⟨R2, OS2, R3, OS3, f, q1, q2, q3, rfl, rfl⟩
      obtain ⟨b1, b2⟩ := IV_rR hI hm q1
      obtain ⟨b3, b4⟩ := IV_rR b1 hm q2
      exact ⟨by rw [by_self9 _ (Nat.le_refl _)]; rfl, ⟨OS3, ld, li, IV_nw b3⟩, by omega, by omega, rfl⟩
    · refine ⟨mcR9 S m + mcB9 S m o, msR9 S m + msB9 S m o, _, _, MC_g (by decide) (by decide) (fun sz => cBey9d l dC dI S ld _ _ _ _ li _ m o hm ho e hI.1 sz), hMR, mx_B hI.1 hm ho e, ?_⟩
      rintro r S3 r' R4 ⟨S2, p1, p2, rfl⟩ ⟨R2, OS2, R3, OS3, f, q1, q2, q3, rfl, rfl⟩
      obtain ⟨a1, a2, a3, a4⟩ := IV_cR hI hm p1
      obtain ⟨d1, d2, d3, d4⟩ := IV_cR a1 ho p2
      have a5 := sRn_k p2 hm e a2
      obtain ⟨g1, g2⟩ := gB_9 (fun q => e q.symm) p1
      obtain ⟨b1, b2⟩ := IV_rR d1 hm q1
      obtain ⟨b3, b4⟩ := IV_rR b1 ho q2
      have b5 := sFn_k q2 b2
      obtain ⟨c1, c2, c3, c4, c5⟩ := IV_eqR b3 hm a5 b5
      obtain ⟨e1, e2, e3, e4, e5⟩ := IV_eqR b3 ho d2 b4
      rw [← g1, ← g2]
      exact ⟨congrArg nI (mis_eq9 c2 e2 c3 e3 c1 e1), ⟨OS3, ld, li, IV_nw b3⟩, by omega, by omega, (stR_f p2).2.trans (stR_f p1).2⟩
  · exact ⟨0, 0, _, _, MC_g (by decide) (by decide) (fun sz => cBey9b l dC dI S mx ox hb sz), MR_g (by decide) (by decide) (fun sz => rBey9b l dC dI ra rA rK9 R mx ox hb sz), JV_0 h, UJ_0 h⟩
theorem U_races (h : JV9 S R) : UP9 l dC dI ra rA rK9 y_OM_races w_OM_races y_Ref_races w_Ref_races [] S R := by
  obtain ⟨OS, ld, li, hI⟩ := id h
  have hR := hI.2.1
  refine ⟨mcR9 S 0, msR9 S 0, _, _, MC_g (by decide) (by decide) (fun sz => cRac9 l dC dI S ld _ _ _ _ li _ hI.1 sz), MR_g (by decide) (by decide) (fun sz => rRac9 l dC dI ra rA rK9 R OS hR.1 hR.2.1 hR.2.2.2.2.1 (fun R2 OS2 q k _ => (IV_rQ hI q).1.2.1.2.2.2.2.2.1 k) sz), mx_R hI.1 (by decide), ?_⟩
  rintro r S2 r' R2 ⟨q1, rfl⟩ ⟨OS2, q2, q3, rfl⟩
  obtain ⟨a1, a2, a3, a4⟩ := IV_cR hI (by decide) q1
  obtain ⟨b1, b2⟩ := IV_rQ a1 q2
  exact ⟨by rw [(IV_rcs b1 a2 b2).2], ⟨OS2, ld, li, b1⟩, a3, a4, (stR_f q1).2⟩
theorem U_race {ta ia tb ib : Int32} (h : JV9 S R) : UP9 l dC dI ra rA rK9 y_OM_race w_OM_race y_Ref_race w_Ref_race [.int ta, .int ia, .int tb, .int ib] S R := by
  obtain ⟨OS, ld, li, hI⟩ := id h
  have hR := hI.2.1
  by_cases hy : isA9 S ta ia ∧ isA9 S tb ib ∧ ta ≠ tb
  · obtain ⟨⟨n1, n2, n3, n4⟩, ⟨n5, n6, n7, n8⟩, n9⟩ := hy
    obtain ⟨t, t1, rfl⟩ := nI_of n1
    obtain ⟨i, i1, rfl⟩ := nI_of n3
    obtain ⟨o, o1, rfl⟩ := nI_of n5
    obtain ⟨j, j1, rfl⟩ := nI_of n7
    rw [nI_clamp t1] at n2 n4
    rw [nI_clamp i1] at n4
    rw [nI_clamp o1] at n6 n8
    rw [nI_clamp j1] at n8
    have hne : t ≠ o := fun q => n9 (by rw [q])
    have hX := IV_X hI
    have eT := hI.2.2.1
    have t2 : t < r_T R := by rw [← eT]; exact n2
    have o2 : o < r_T R := by rw [← eT]; exact n6
    refine ⟨mcR9 S 0, msR9 S 0, _, _, MC_g (by decide) (by decide) (fun sz => cRce9y l dC dI S ld _ _ _ _ li _ t i o j hI.1 n2 n4 n6 n8 hne sz), MR_g (by decide) (by decide) (fun sz => rRce9y l dC dI ra rA rK9 R OS t i o j hR.1 hR.2.1 hR.2.2.2.2.1 (fun R2 OS2 q k _ => (IV_rQ hI q).1.2.1.2.2.2.2.2.1 k) t2 (by rw [hX.2.2.1 t t2]; exact n4) o2 (by rw [hX.2.2.1 o o2]; exact n8) hne sz), mx_R hI.1 (by decide), ?_⟩
    rintro r S2 r' R2 ⟨q1, rfl⟩ ⟨OS2, q2, q3, rfl⟩
    obtain ⟨a1, a2, a3, a4⟩ := IV_cR hI (by decide) q1
    obtain ⟨b1, b2⟩ := IV_rQ a1 q2
    have ep : x_pg S2 = x_pg S := (sRn_ok hI.1 (by decide) q1).2.2.2.2.2.2.1
    have eT2 : x_T S2 = x_T S := (sRn_ok hI.1 (by decide) q1).2.2.2.2.1
    have eR : r_T R2 = x_T S := by rw [← b1.2.2.1]; exact eT2
    refine ⟨?_, ⟨OS2, ld, li, b1⟩, a3, a4, (stR_f q1).2⟩
    have := IV_rc1 b1 a2 b2 (t := t) (i := i) (o := o) (j := j) (by rw [eR]; exact n2) (by rw [ep]; exact n4) (by rw [eR]; exact n6) (by rw [ep]; exact n8)
    rw [ep] at this; exact this
  · exact ⟨0, 0, _, _, MC_g (by decide) (by decide) (fun sz => cRce9n l dC dI S ld _ _ _ _ li _ ta ia tb ib hI.1 hy sz), MR_g (by decide) (by decide) (fun sz => rRce9n l dC dI ra rA rK9 R ta ia tb ib hR.1 (fun q => hy ⟨(IV_is hI).mpr q.1, (IV_is hI).mpr q.2.1, q.2.2⟩) sz), JV_0 h, UJ_0 h⟩
end UPQ
