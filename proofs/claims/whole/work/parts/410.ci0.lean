/-- the outcomes of a model by its runs -/
noncomputable def rL9 (m T : Nat) (zs kd vx rr : Nat → Nat) (vv : Nat → Int32) : List O9 := if m = 3 then pdf (nxF (aK zs kd vx rr vv) T) ocK 15 a0K [] [] else pdf (nxF (aF m zs kd vx rr vv) T) ocA 15 a0B [] []
def kV9 (r : O9) : Int64 × Int32 × List Int32 := ((enV r.1).1, (enV r.1).2, r.2)
/-- the graphs of a model, as the reference counts them -/
noncomputable def gl9 (m T ld : Nat) (zs kd vx rr li : Nat → Nat) (vv : Nat → Int32) : GG := gchR T zs kd vx li (onR m 8 30 32 T ld zs kd vx rr li vv (std9 m 8 30 T ld zs kd vx rr li vv)) ld 0 (fun _ => 0) (0, [])
/-- a ready set by runs; a ready set by graphs -/
def RuS9 (L : List O9) (o : OS9) : Prop := ∃ g : G9, okF (o_E o) g (o_rf o) (o_vf o) (o_lf o) (o_qf o) (o_of o) ∧ o_n0 o = nI (gF g).length ∧ gC g = o_C o ∧ gF g = L.map kV9
def GrS9 (G : GG) (o : OS9) : Prop := ∃ g : G9, okH g (o_rf o) (o_vf o) (o_of o) ∧ o_n0 o = nI (gF g).length ∧ gC g = o_C o ∧ (gF g).Perm (G.2.map kV9) ∧ o_sd o = nI G.1
/-- what holds of the class between two calls -/
def OkC9 (ld : Nat) (zs kd vx rr li : Nat → Nat) (vv : Nat → Int32) (S : CX9) : Prop :=
  PX (x_T S) (x_Ac S) (x_pg S) (x_nm S) zs kd vx rr vv ∧ liO (x_T S) ld zs kd li ∧ x_vl S 0 = 0 ∧ (∀ i, x_rc S i < 128) ∧ x_tl S 0 = 0 ∧ x_KL S ≤ 362880 ∧ x_SL S ≤ 725760 ∧ (x_SL S = 0 ∨ ∃ j, x_SL S = 2 ^ j) ∧ ZOk (x_Z S) ∧
  (∀ m, m < 4 → (o_C (x_SA S m) ≤ 8000 ∧ o_E (x_SA S m) = (if m = 1 ∨ m = 2 then 14 else 7) ∧ (o_rd (x_SA S m) = 0 ∨ o_rd (x_SA S m) = 1) ∧ (o_rd (x_SA S m) = 1 → RuS9 (rL9 m (x_T S) zs kd vx rr vv) (x_SA S m))) ∧
    (o_C (x_SB S m) ≤ 8000 ∧ o_E (x_SB S m) = 0 ∧ (o_rd (x_SB S m) = 0 ∨ o_rd (x_SB S m) = 1) ∧ (o_rd (x_SB S m) = 1 → GrS9 (gl9 m (x_T S) ld zs kd vx rr li vv) (x_SB S m)))) ∧
  (o_rd (x_SA S 0) = 1 → ∃ KL SL C rc, x_rc S = gR (walkG 7 (x_T S) (x_Ac S) (x_pg S) (x_nm S) 0 KL SL C rc))
/-- what the class has paid for -/
def pc9 (S : CX9) : Nat := 5 * (o_C (x_SA S 0) + o_C (x_SA S 1) + o_C (x_SA S 2) + o_C (x_SA S 3) + o_C (x_SB S 0) + o_C (x_SB S 1) + o_C (x_SB S 2) + o_C (x_SB S 3)) + x_KL S + x_SL S
def ps9 (S : CX9) : Nat := 2 * (11 * o_C (x_SA S 0) + 18 * o_C (x_SA S 1) + 18 * o_C (x_SA S 2) + 11 * o_C (x_SA S 3) + 4 * (o_C (x_SB S 0) + o_C (x_SB S 1) + o_C (x_SB S 2) + o_C (x_SB S 3))) + 2 * x_KL S + 2 * x_SL S
section OKC
variable {ld : Nat} {zs kd vx rr li : Nat → Nat} {vv : Nat → Int32} {S S2 : CX9} {m : Nat}
theorem rb_R (h : OkC9 ld zs kd vx rr li vv S) (hm : m < 4) : RB9 (o_E (x_SA S m)) (x_KL S) (x_SL S) (o_C (x_SA S m)) (gR9 S m) := by
  obtain ⟨h1, h2, h3, h4, h5, h6, h7, h8, h9, h10, h11⟩ := h
  have hc := (h10 m hm).1.1
  unfold gR9
  by_cases e : m = 3
  · rw [if_pos e, e]; rw [e] at hc; exact rb_K h1 h6 h7 h8 hc
  · rw [if_neg e]; exact rb_B h1 (by omega) h6 h7 h8 hc
theorem gR_L (h : OkC9 ld zs kd vx rr li vv S) (hm : m < 4) : gF (gR9 S m) = (rL9 m (x_T S) zs kd vx rr vv).map kV9 := by
  have h1 := h.1
  unfold gR9 rL9
  by_cases e : m = 3
  · rw [if_pos e, if_pos e]; exact cls_runs_K h1
  · rw [if_neg e, if_neg e]; exact cls_runs_B h1 (by omega)
theorem ok_B9 (h : OkC9 ld zs kd vx rr li vv S) : OkB9 S := by
  have hh := h
  obtain ⟨h1, h2, h3, h4, h5, h6, h7, h8, h9, h10, h11⟩ := h
  refine ⟨h1.1, h3, h4, h5, by omega, by omega, h9, fun m hm => ?_, fun m hm => ?_⟩
  · obtain ⟨⟨a1, a2, a3, a4⟩, b1, b2, b3, b4⟩ := h10 m hm
    exact ⟨by omega, by omega, a2, b2, a3, b3⟩
  · have r := rb_R hh hm
    exact ⟨r.2.2.2.2.2.2.1, r.2.2.2.2.2.2.2, (rb_G h1 h2 hm (h10 m hm).2.1).2.2.2⟩
theorem RuS_R {L : List O9} {o : OS9} (hE : o_E o ≤ 16) (h : RuS9 L o) : RdO9 o ∧ LnO9 o := by
  obtain ⟨g, ⟨a1, a2, a3, a4⟩, e1, e2, -⟩ := h
  rw [e2] at a1 a2
  refine ⟨⟨a1, _, e1, a2, a3⟩, fun i hi => ?_⟩
  rw [n0_9 e1 a2 a1] at hi
  obtain ⟨-, -, b3, b4, -⟩ := a4 i hi
  rw [b3, nI_clamp (by omega)]; exact ⟨rfl, b4⟩
theorem GrS_R {G : GG} {o : OS9} (h : GrS9 G o) : RdO9 o := by
  obtain ⟨g, ⟨a1, a2, a3, a4⟩, e1, e2, -⟩ := h
  rw [e2] at a1 a2
  exact ⟨a1, _, e1, a2, a3⟩
theorem gR_keep {E T Ac md KL SL C : Nat} {pg : Nat → Nat → Nat} {nm : Nat → Int32} {rc : Nat → Nat} (hX : PX T Ac pg nm zs kd vx rr vv) (hmd : md < 3) (h0 : md ≠ 0) : gR (walkG E T Ac pg nm md KL SL C rc) = rc := by
  rw [walk_mdf hX hmd]
  refine mdf_J (J := fun g => gR g = rc) (fun s g h => ?_) (fun s p g h => ?_) 15 s07 [] _ (if_neg h0)
  · show gR (noteG md T Ac pg s.2.2.1 (addKey _ g)) = rc
    unfold noteG
    rw [if_neg h0]
    unfold addKey
    split
    · exact h
    · exact h
  · exact (addOut_V (E := E)).2.2.trans h
/-- what foundByRuns keeps, and what it costs -/
theorem sRn_ok (h : OkC9 ld zs kd vx rr li vv S) (hm : m < 4) (hs : sRn9 S m S2) : OkC9 ld zs kd vx rr li vv S2 ∧ o_rd (x_SA S2 m) = 1 ∧ 4 * mcR9 S m + pc9 S ≤ pc9 S2 ∧ msR9 S m + ps9 S ≤ ps9 S2 ∧ x_T S2 = x_T S ∧ x_Ac S2 = x_Ac S ∧ x_pg S2 = x_pg S ∧ x_nm S2 = x_nm S := by
  have hh := h
  have hR := rb_R hh hm
  have hL := gR_L hh hm
  obtain ⟨h1, h2, h3, h4, h5, h6, h7, h8, h9, h10, h11⟩ := h
  obtain ⟨r1, r2, r3, r4, r5, r6, r7, r8⟩ := hR
  have c : m = 0 ∨ m = 1 ∨ m = 2 ∨ m = 3 := by omega
  have hE := (h10 m hm).1.2.1
  rcases hs with ⟨w, rfl⟩ | ⟨w, wm, j1, j2, d1, d2, kf, sf, ad, ck, rf, vf, lf, qf, of, vl, pv, q1, q2, q3, q4, rfl⟩ | ⟨w, wm, j1, j2, d1, d2, kf, sf, ad, ck, rf, vf, lf, qf, of, vl, pv, tl, q1, q2, q3, q4, rfl⟩
  · refine ⟨hh, w, ?_, ?_, rfl, rfl, rfl, rfl⟩
    · unfold mcR9; rw [if_pos w]; omega
    · unfold msR9; rw [if_pos w]; omega
  · have nw : ¬ o_rd (x_SA S m) = 1 := by rw [w]; decide
    have hmc : mcR9 S m = gc (gR9 S m) := if_neg nw
    have hms : msR9 S m = gs (gR9 S m) := if_neg nw
    generalize hS2 : nB9 S m (gR9 S m) j1 j2 d1 d2 kf sf ad ck rf vf lf qf of vl pv = S2
    have eA : ∀ i, x_SA S2 i = upS9 (x_SA S) m (o_E (x_SA S m), gC (gR9 S m), ad, ck, rf, vf, lf, qf, of, nI ((gF (gR9 S m)).length), 0, 1) i := fun i => by rw [← hS2]; rfl
    have eB : x_SB S2 = x_SB S := by rw [← hS2]; rfl
    have eK : x_KL S2 = gK (gR9 S m) := by rw [← hS2]; rfl
    have eL : x_SL S2 = gS (gR9 S m) := by rw [← hS2]; rfl
    have e1 : x_T S2 = x_T S := by rw [← hS2]; rfl
    have e2 : x_Ac S2 = x_Ac S := by rw [← hS2]; rfl
    have e3 : x_pg S2 = x_pg S := by rw [← hS2]; rfl
    have e4 : x_nm S2 = x_nm S := by rw [← hS2]; rfl
    have e5 : x_vl S2 = vl := by rw [← hS2]; rfl
    have e6 : x_rc S2 = gR (gR9 S m) := by rw [← hS2]; rfl
    have e7 : x_tl S2 = x_tl S := by rw [← hS2]; rfl
    have e8 : x_Z S2 = x_Z S := by rw [← hS2]; rfl
    clear hS2
    have eM : x_SA S2 m = (o_E (x_SA S m), gC (gR9 S m), ad, ck, rf, vf, lf, qf, of, nI ((gF (gR9 S m)).length), 0, 1) := (eA m).trans upS_s
    have eN : ∀ i, i ≠ m → x_SA S2 i = x_SA S i := fun i hi => (eA i).trans (upS_n hi)
    refine ⟨⟨by rw [e1, e2, e3, e4]; exact h1, by rw [e1]; exact h2, by rw [e5]; exact q4, by rw [e6]; exact q3, by rw [e7]; exact h5, by rw [eK]; exact r1, by rw [eL]; exact r2, by rw [eL]; exact Or.inr r4, by rw [e8]; exact h9, fun i hi => ⟨?_, by rw [eB, e1]; exact (h10 i hi).2⟩, fun hr => ?_⟩, by rw [eM]; rfl, ?_, ?_, e1, e2, e3, e4⟩
    · by_cases ei : i = m
      · rw [ei, eM, e1]
        exact ⟨r3, hE, Or.inr rfl, fun _ => ⟨gR9 S m, q2, rfl, rfl, hL⟩⟩
      · rw [eN i ei, e1]; exact (h10 i hi).1
    · rw [e6, e1, e2, e3, e4]
      by_cases m0 : m = 0
      · refine ⟨x_KL S, x_SL S, o_C (x_SA S 0), x_rc S, ?_⟩
        rw [m0]
        unfold gR9
        rw [if_neg (by decide)]
        rw [m0] at hE
        rw [hE]; rfl
      · rw [eN 0 (fun z => m0 z.symm)] at hr
        have : gR (gR9 S m) = x_rc S := by
          unfold gR9
          rw [if_neg (by omega)]
          exact gR_keep h1 wm m0
        rw [this]; exact h11 hr
    · rw [hmc]
      unfold pc9
      rw [eB, eK, eL]
      rcases c with rfl | rfl | rfl | rfl
      · rw [eM, eN 1 (by decide), eN 2 (by decide), eN 3 (by decide)]
        have : o_C (o_E (x_SA S 0), gC (gR9 S 0), ad, ck, rf, vf, lf, qf, of, nI ((gF (gR9 S 0)).length), 0, 1) = gC (gR9 S 0) := rfl
        rw [this]; omega
      · rw [eM, eN 0 (by decide), eN 2 (by decide), eN 3 (by decide)]
        have : o_C (o_E (x_SA S 1), gC (gR9 S 1), ad, ck, rf, vf, lf, qf, of, nI ((gF (gR9 S 1)).length), 0, 1) = gC (gR9 S 1) := rfl
        rw [this]; omega
      · rw [eM, eN 0 (by decide), eN 1 (by decide), eN 3 (by decide)]
        have : o_C (o_E (x_SA S 2), gC (gR9 S 2), ad, ck, rf, vf, lf, qf, of, nI ((gF (gR9 S 2)).length), 0, 1) = gC (gR9 S 2) := rfl
        rw [this]; omega
      · omega
    · rw [hms]
      unfold ps9
      rw [eB, eK, eL]
      rw [hE] at r6
      rcases c with rfl | rfl | rfl | rfl
      · rw [eM, eN 1 (by decide), eN 2 (by decide), eN 3 (by decide)]
        have : o_C (o_E (x_SA S 0), gC (gR9 S 0), ad, ck, rf, vf, lf, qf, of, nI ((gF (gR9 S 0)).length), 0, 1) = gC (gR9 S 0) := rfl
        rw [this]; rw [if_neg (by decide)] at r6; omega
      · rw [eM, eN 0 (by decide), eN 2 (by decide), eN 3 (by decide)]
        have : o_C (o_E (x_SA S 1), gC (gR9 S 1), ad, ck, rf, vf, lf, qf, of, nI ((gF (gR9 S 1)).length), 0, 1) = gC (gR9 S 1) := rfl
        rw [this]; rw [if_pos (by decide)] at r6; omega
      · rw [eM, eN 0 (by decide), eN 1 (by decide), eN 3 (by decide)]
        have : o_C (o_E (x_SA S 2), gC (gR9 S 2), ad, ck, rf, vf, lf, qf, of, nI ((gF (gR9 S 2)).length), 0, 1) = gC (gR9 S 2) := rfl
        rw [this]; rw [if_pos (by decide)] at r6; omega
      · omega
  · subst wm
    have nw : ¬ o_rd (x_SA S 3) = 1 := by rw [w]; decide
    have hmc : mcR9 S 3 = gc (gR9 S 3) := if_neg nw
    have hms : msR9 S 3 = gs (gR9 S 3) := if_neg nw
    generalize hS2 : nK9 S (gR9 S 3) j1 j2 d1 d2 kf sf ad ck rf vf lf qf of vl pv tl = S2
    have eA : ∀ i, x_SA S2 i = upS9 (x_SA S) 3 (o_E (x_SA S 3), gC (gR9 S 3), ad, ck, rf, vf, lf, qf, of, nI ((gF (gR9 S 3)).length), 0, 1) i := fun i => by rw [← hS2]; rfl
    have eB : x_SB S2 = x_SB S := by rw [← hS2]; rfl
    have eK : x_KL S2 = gK (gR9 S 3) := by rw [← hS2]; rfl
    have eL : x_SL S2 = gS (gR9 S 3) := by rw [← hS2]; rfl
    have e1 : x_T S2 = x_T S := by rw [← hS2]; rfl
    have e2 : x_Ac S2 = x_Ac S := by rw [← hS2]; rfl
    have e3 : x_pg S2 = x_pg S := by rw [← hS2]; rfl
    have e4 : x_nm S2 = x_nm S := by rw [← hS2]; rfl
    have e5 : x_vl S2 = vl := by rw [← hS2]; rfl
    have e6 : x_rc S2 = x_rc S := by rw [← hS2]; rfl
    have e7 : x_tl S2 = tl := by rw [← hS2]; rfl
    have e8 : x_Z S2 = x_Z S := by rw [← hS2]; rfl
    clear hS2
    have eM : x_SA S2 3 = (o_E (x_SA S 3), gC (gR9 S 3), ad, ck, rf, vf, lf, qf, of, nI ((gF (gR9 S 3)).length), 0, 1) := (eA 3).trans upS_s
    have eN : ∀ i, i ≠ 3 → x_SA S2 i = x_SA S i := fun i hi => (eA i).trans (upS_n hi)
    refine ⟨⟨by rw [e1, e2, e3, e4]; exact h1, by rw [e1]; exact h2, by rw [e5]; exact q3, by rw [e6]; exact h4, by rw [e7]; exact q4, by rw [eK]; exact r1, by rw [eL]; exact r2, by rw [eL]; exact Or.inr r4, by rw [e8]; exact h9, fun i hi => ⟨?_, by rw [eB, e1]; exact (h10 i hi).2⟩, fun hr => ?_⟩, by rw [eM]; rfl, ?_, ?_, e1, e2, e3, e4⟩
    · by_cases ei : i = 3
      · rw [ei, eM, e1]
        exact ⟨r3, hE, Or.inr rfl, fun _ => ⟨gR9 S 3, q2, rfl, rfl, hL⟩⟩
      · rw [eN i ei, e1]; exact (h10 i hi).1
    · rw [e6, e1, e2, e3, e4]
      rw [eN 0 (by decide)] at hr
      exact h11 hr
    · rw [hmc]
      unfold pc9
      rw [eB, eK, eL, eM, eN 0 (by decide), eN 1 (by decide), eN 2 (by decide)]
      have : o_C (o_E (x_SA S 3), gC (gR9 S 3), ad, ck, rf, vf, lf, qf, of, nI ((gF (gR9 S 3)).length), 0, 1) = gC (gR9 S 3) := rfl
      rw [this]; omega
    · rw [hms]
      unfold ps9
      rw [eB, eK, eL, eM, eN 0 (by decide), eN 1 (by decide), eN 2 (by decide)]
      rw [hE, if_neg (by decide)] at r6
      have : o_C (o_E (x_SA S 3), gC (gR9 S 3), ad, ck, rf, vf, lf, qf, of, nI ((gF (gR9 S 3)).length), 0, 1) = gC (gR9 S 3) := rfl
      rw [this]; omega
/-- what foundByGraphs keeps, and what it costs -/
theorem sGn_ok (h : OkC9 ld zs kd vx rr li vv S) (hm : m < 4) (hs : sGn9 S m S2) : OkC9 ld zs kd vx rr li vv S2 ∧ o_rd (x_SB S2 m) = 1 ∧ 4 * mcG9 S m + pc9 S ≤ pc9 S2 ∧ msG9 S m + ps9 S ≤ ps9 S2 ∧ x_T S2 = x_T S ∧ x_Ac S2 = x_Ac S ∧ x_pg S2 = x_pg S ∧ x_nm S2 = x_nm S := by
  have hh := h
  obtain ⟨h1, h2, h3, h4, h5, h6, h7, h8, h9, h10, h11⟩ := h
  have c : m = 0 ∨ m = 1 ∨ m = 2 ∨ m = 3 := by omega
  have hE := (h10 m hm).2.2.1
  have hR : RG0 (o_E (x_SB S m)) (o_C (x_SB S m)) (yg (zy (gG9 S m))) := rb_G h1 h2 hm (h10 m hm).2.1
  obtain ⟨b1, b2, -, -, -⟩ := gr_both (K := 8) (N0 := 30) (N1 := 32) (E := o_E (x_SB S m)) (sc := x_sc S) (C := o_C (x_SB S m)) (z := x_Z S) h1 h2 (by decide) (Nat.le_refl _) (Nat.le_refl _) hm
  obtain ⟨r1, r2, r3, r4⟩ := hR
  rcases hs with ⟨w, rfl⟩ | ⟨w, ad, ck, rf, vf, lf, qf, of, vl, q1, q2, q3, rfl⟩
  · refine ⟨hh, w, ?_, ?_, rfl, rfl, rfl, rfl⟩
    · unfold mcG9; rw [if_pos w]; omega
    · unfold msG9; rw [if_pos w]; omega
  · have nw : ¬ o_rd (x_SB S m) = 1 := by rw [w]; decide
    have hmc : mcG9 S m = gc (yg (zy (gG9 S m))) := if_neg nw
    have hms : msG9 S m = gs (yg (zy (gG9 S m))) := if_neg nw
    generalize hS2 : nG9 S m (gG9 S m) ad ck rf vf lf qf of vl = S2
    have eB : ∀ i, x_SB S2 i = upS9 (x_SB S) m (o_E (x_SB S m), gC (yg (zy (gG9 S m))), ad, ck, rf, vf, lf, qf, of, nI ((gF (yg (zy (gG9 S m)))).length), nI (ys (zy (gG9 S m))), 1) i := fun i => by rw [← hS2]; rfl
    have eA : x_SA S2 = x_SA S := by rw [← hS2]; rfl
    have eK : x_KL S2 = x_KL S := by rw [← hS2]; rfl
    have eL : x_SL S2 = x_SL S := by rw [← hS2]; rfl
    have e1 : x_T S2 = x_T S := by rw [← hS2]; rfl
    have e2 : x_Ac S2 = x_Ac S := by rw [← hS2]; rfl
    have e3 : x_pg S2 = x_pg S := by rw [← hS2]; rfl
    have e4 : x_nm S2 = x_nm S := by rw [← hS2]; rfl
    have e5 : x_vl S2 = vl := by rw [← hS2]; rfl
    have e6 : x_rc S2 = x_rc S := by rw [← hS2]; rfl
    have e7 : x_tl S2 = x_tl S := by rw [← hS2]; rfl
    have e8 : x_Z S2 = gG9 S m := by rw [← hS2]; rfl
    clear hS2
    have eM : x_SB S2 m = (o_E (x_SB S m), gC (yg (zy (gG9 S m))), ad, ck, rf, vf, lf, qf, of, nI ((gF (yg (zy (gG9 S m)))).length), nI (ys (zy (gG9 S m))), 1) := (eB m).trans upS_s
    have eN : ∀ i, i ≠ m → x_SB S2 i = x_SB S i := fun i hi => (eB i).trans (upS_n hi)
    refine ⟨⟨by rw [e1, e2, e3, e4]; exact h1, by rw [e1]; exact h2, by rw [e5]; exact q3, by rw [e6]; exact h4, by rw [e7]; exact h5, by rw [eK]; exact h6, by rw [eL]; exact h7, by rw [eL]; exact h8, by rw [e8]; exact q2, fun i hi => ⟨by rw [eA, e1]; exact (h10 i hi).1, ?_⟩, fun hr => ?_⟩, by rw [eM]; rfl, ?_, ?_, e1, e2, e3, e4⟩
    · by_cases ei : i = m
      · rw [ei, eM, e1]
        refine ⟨r1, hE, Or.inr rfl, fun _ => ⟨yg (zy (gG9 S m)), q1, rfl, rfl, b2, ?_⟩⟩
        show nI (ys (zy (gG9 S m))) = nI (gl9 m (x_T S) ld zs kd vx rr li vv).1
        exact congrArg nI b1.symm
      · rw [eN i ei, e1]; exact (h10 i hi).2
    · rw [e6, e1, e2, e3, e4]
      rw [eA] at hr; exact h11 hr
    · rw [hmc]
      unfold pc9
      rw [eA, eK, eL]
      rcases c with rfl | rfl | rfl | rfl
      · rw [eM, eN 1 (by decide), eN 2 (by decide), eN 3 (by decide)]
        have : o_C (o_E (x_SB S 0), gC (yg (zy (gG9 S 0))), ad, ck, rf, vf, lf, qf, of, nI ((gF (yg (zy (gG9 S 0)))).length), nI (ys (zy (gG9 S 0))), 1) = gC (yg (zy (gG9 S 0))) := rfl
        rw [this]; omega
      · rw [eM, eN 0 (by decide), eN 2 (by decide), eN 3 (by decide)]
        have : o_C (o_E (x_SB S 1), gC (yg (zy (gG9 S 1))), ad, ck, rf, vf, lf, qf, of, nI ((gF (yg (zy (gG9 S 1)))).length), nI (ys (zy (gG9 S 1))), 1) = gC (yg (zy (gG9 S 1))) := rfl
        rw [this]; omega
      · rw [eM, eN 0 (by decide), eN 1 (by decide), eN 3 (by decide)]
        have : o_C (o_E (x_SB S 2), gC (yg (zy (gG9 S 2))), ad, ck, rf, vf, lf, qf, of, nI ((gF (yg (zy (gG9 S 2)))).length), nI (ys (zy (gG9 S 2))), 1) = gC (yg (zy (gG9 S 2))) := rfl
        rw [this]; omega
      · rw [eM, eN 0 (by decide), eN 1 (by decide), eN 2 (by decide)]
        have : o_C (o_E (x_SB S 3), gC (yg (zy (gG9 S 3))), ad, ck, rf, vf, lf, qf, of, nI ((gF (yg (zy (gG9 S 3)))).length), nI (ys (zy (gG9 S 3))), 1) = gC (yg (zy (gG9 S 3))) := rfl
        rw [this]; omega
    · rw [hms]
      unfold ps9
      rw [eA, eK, eL]
      rw [hE] at r3
      rcases c with rfl | rfl | rfl | rfl
      · rw [eM, eN 1 (by decide), eN 2 (by decide), eN 3 (by decide)]
        have : o_C (o_E (x_SB S 0), gC (yg (zy (gG9 S 0))), ad, ck, rf, vf, lf, qf, of, nI ((gF (yg (zy (gG9 S 0)))).length), nI (ys (zy (gG9 S 0))), 1) = gC (yg (zy (gG9 S 0))) := rfl
        rw [this]; omega
      · rw [eM, eN 0 (by decide), eN 2 (by decide), eN 3 (by decide)]
        have : o_C (o_E (x_SB S 1), gC (yg (zy (gG9 S 1))), ad, ck, rf, vf, lf, qf, of, nI ((gF (yg (zy (gG9 S 1)))).length), nI (ys (zy (gG9 S 1))), 1) = gC (yg (zy (gG9 S 1))) := rfl
        rw [this]; omega
      · rw [eM, eN 0 (by decide), eN 1 (by decide), eN 3 (by decide)]
        have : o_C (o_E (x_SB S 2), gC (yg (zy (gG9 S 2))), ad, ck, rf, vf, lf, qf, of, nI ((gF (yg (zy (gG9 S 2)))).length), nI (ys (zy (gG9 S 2))), 1) = gC (yg (zy (gG9 S 2))) := rfl
        rw [this]; omega
      · rw [eM, eN 0 (by decide), eN 1 (by decide), eN 2 (by decide)]
        have : o_C (o_E (x_SB S 3), gC (yg (zy (gG9 S 3))), ad, ck, rf, vf, lf, qf, of, nI ((gF (yg (zy (gG9 S 3)))).length), nI (ys (zy (gG9 S 3))), 1) = gC (yg (zy (gG9 S 3))) := rfl
        rw [this]; omega
end OKC
