theorem rc_bit9 {E T Ac : Nat} {pg : Nat → Nat → Nat} {nm : Nat → Int32} {zs kd vx rr : Nat → Nat} {vv : Nat → Int32} (hX : PX T Ac pg nm zs kd vx rr vv) {KL SL C : Nat} {rc : Nat → Nat} : ∀ a b, (gR (walkG E T Ac pg nm 0 KL SL C rc) a).testBit b = true → b < Ac := by
  rw [walk_mdf hX (by decide)]
  refine mdf_J (J := fun g => ∀ a b, (gR g a).testBit b = true → b < Ac) (fun s g h => ?_) (fun s p g h => ?_) 15 s07 [] _ ?_
  · intro a b q
    have q2 : (gR (noteG 0 T Ac pg s.2.2.1 (addKey (keyB s.2.1 s.1 s.2.2.2.2.2.1 s.2.2.2.2.2.2) g)) a).testBit b = true := q
    have hk : gR (addKey (keyB s.2.1 s.1 s.2.2.2.2.2.1 s.2.2.2.2.2.2) g) = gR g := by
      unfold addKey; split <;> rfl
    unfold noteG at q2
    rw [if_pos rfl] at q2
    have q3 : (rcN pg (nxM pg s.2.2.1 T) (gR (addKey (keyB s.2.1 s.1 s.2.2.2.2.2.1 s.2.2.2.2.2.2) g)) Ac a).testBit b = true := q2
    rw [hk, rcN_b] at q3
    rcases q3 with q3 | q3
    · exact h a b q3
    · obtain ⟨t, ht, h1, h2⟩ := (nxM_b T).mp q3.2.2.1
      rw [h2]; exact (hX.1.2.2.2.1 t _ ht h1).1
  · intro a b q
    have e : gR (finC E s p g) = gR g := (addOut_V (E := E)).2.2
    rw [e] at q; exact h a b q
  · intro a b q
    have q2 : Nat.testBit 0 b = true := q
    rw [Nat.zero_testBit] at q2; exact absurd q2 Bool.false_ne_true
section IVS
variable {S S2 : CX9} {R R2 : RX9} {OS OS2 : Nat → List O9} {ld m : Nat} {li : Nat → Nat}
theorem IV_X (h : IV9 S R OS ld li) : PX9 (x_Ac S) (x_pg S) (x_nm S) R := by
  obtain ⟨h1, h2, h3, h4, h5, h6⟩ := h
  unfold PX9; rw [← h3]; exact h1.1
theorem IV_cR (h : IV9 S R OS ld li) (hm : m < 4) (hs : sRn9 S m S2) : IV9 S2 R OS ld li ∧ o_rd (x_SA S2 m) = 1 ∧ 4 * mcR9 S m + pc9 S ≤ pc9 S2 ∧ msR9 S m + ps9 S ≤ ps9 S2 := by
  obtain ⟨h1, h2, h3, h4, h5, h6⟩ := h
  obtain ⟨q1, q2, q3, q4, q5, q6, q7, q8⟩ := sRn_ok h1 hm hs
  exact ⟨⟨q1, h2, by rw [q5]; exact h3, by rw [q6]; exact h4, by rw [q5, q7]; exact h5, h6⟩, q2, q3, q4⟩
theorem IV_cG (h : IV9 S R OS ld li) (hm : m < 4) (hs : sGn9 S m S2) : IV9 S2 R OS ld li ∧ o_rd (x_SB S2 m) = 1 ∧ 4 * mcG9 S m + pc9 S ≤ pc9 S2 ∧ msG9 S m + ps9 S ≤ ps9 S2 := by
  obtain ⟨h1, h2, h3, h4, h5, h6⟩ := h
  obtain ⟨q1, q2, q3, q4, q5, q6, q7, q8⟩ := sGn_ok h1 hm hs
  exact ⟨⟨q1, h2, by rw [q5]; exact h3, by rw [q6]; exact h4, by rw [q5, q7]; exact h5, h6⟩, q2, q3, q4⟩
theorem IV_sm (h : IV9 S R OS ld li) (hR : IR9 OS2 R2) (hs : sm9 R R2) : IV9 S R2 OS2 ld li := by
  obtain ⟨h1, h2, h3, h4, h5, h6⟩ := h
  obtain ⟨a1, a2, a3, a4, a5, a6, a7⟩ := hs
  exact ⟨by rw [a3, a4, a5, a6, a7]; exact h1, hR, by rw [a1]; exact h3, by rw [a2]; exact h4, h5, by rw [a1, a2, a3]; exact h6⟩
theorem IV_rR (h : IV9 S R OS ld li) (hm : m < 4) (hs : sFn9 OS R m R2 OS2) : IV9 S R2 OS2 ld li ∧ r_ff R2 m = 1 := by
  obtain ⟨q1, q2, q3⟩ := sFn_iv (IV_X h) h.2.1 hm hs
  exact ⟨IV_sm h q1 q3, q2⟩
theorem IV_rG (h : IV9 S R OS ld li) (hm : m < 4) (hs : sGr9 OS R m R2 OS2) : IV9 S R2 OS2 ld li ∧ r_ff R2 (4 + m) = 1 := by
  obtain ⟨q1, q2, q3⟩ := sGr_iv h.2.1 hm hs
  exact ⟨IV_sm h q1 q3, q2⟩
theorem IV_rQ (h : IV9 S R OS ld li) (hs : sRr9 OS R R2 OS2) : IV9 S R2 OS2 ld li ∧ r_ir R2 = 1 := by
  obtain ⟨q1, q2, q3⟩ := sRr_iv h.2.1 hs
  exact ⟨IV_sm h q1 q3, q2⟩
theorem IV_nw {f : Nat → Int32} (h : IV9 S R OS ld li) : IV9 S (nwS9 R f) OS ld li := by
  obtain ⟨R2, hR2⟩ : ∃ R2, R2 = nwS9 R f := ⟨_, rfl⟩
  have hsm : sm9 R R2 := by rw [hR2]; exact ⟨rfl, rfl, rfl, rfl, rfl, rfl, rfl⟩
  have hff : r_ff R2 = r_ff R := by rw [hR2]; rfl
  have hir : r_ir R2 = r_ir R := by rw [hR2]; rfl
  have hrc : r_rc R2 = r_rc R := by rw [hR2]; rfl
  have hgq : r_gq R2 = r_gq R := by rw [hR2]; rfl
  obtain ⟨h1, h2, h3, h4, h5, h6, h7, h8, h9⟩ := h.2.1
  have hG : OkG9 R2 := by rw [hR2]; exact OkG_of rfl rfl rfl rfl rfl rfl rfl rfl rfl rfl h3
  have hO : okO9 OS R2 := by rw [hR2]; exact h2
  rw [← hR2]
  refine IV_sm h ⟨sm_Pr hsm h1, hO, hG, by rw [hff]; exact h4, by rw [hir]; exact h5, by rw [hrc]; exact h6, fun k hk hf => ?_, fun k hk hf => ?_, fun hf i j hi hj => ?_⟩ hsm
  · rw [sm_rR hsm]; rw [hff] at hf; exact h7 k hk hf
  · rw [hff] at hf
    obtain ⟨li2, ld2, q1, q2, q3⟩ := h8 k hk hf
    exact ⟨li2, ld2, by rw [hsm.1, hsm.2.2.1, hsm.2.2.2.1]; exact q1, by rw [sm_gl hsm]; exact q2, by rw [hgq, sm_gl hsm]; exact q3⟩
  · rw [hrc, sm_mR hsm]; rw [hir] at hf; exact h9 hf i j hi hj
/-- what both have found by runs -/
theorem IV_eqR (h : IV9 S R OS ld li) (hm : m < 4) (h1 : o_rd (x_SA S m) = 1) (h2 : r_ff R m = 1) : RuS9 (OS m) (x_SA S m) ∧ (∀ r, r ∈ OS m → okV r.1) ∧ (OS m).length ≤ 4000 ∧ o_E (x_SA S m) ≤ 16 ∧ okO m (OS m) (r_om R) (r_or R) (r_oc R) (r_ws R) (r_wi R) := by
  have hX := IV_X h
  have e : OS m = rR9 m R := h.2.1.2.2.2.2.2.2.1 m hm h2
  obtain ⟨⟨a1, a2, a3, a4⟩, -⟩ := h.1.2.2.2.2.2.2.2.2.2.1 m hm
  have hk := rL_ok9 hX hm
  refine ⟨?_, ?_, ?_, ?_, h.2.1.2.1 m (by omega)⟩
  · rw [e]; unfold rR9; rw [← h.2.2.1]; exact a4 h1
  · rw [e]; exact hk.1
  · rw [e]; exact hk.2
  · rw [a2]; split <;> omega
/-- what both have found by graphs -/
theorem IV_eqG (h : IV9 S R OS ld li) (hm : m < 4) (h1 : o_rd (x_SB S m) = 1) (h2 : r_ff R (4 + m) = 1) : ClO9 (OS (4 + m)) (x_SB S m) ∧ (∀ r, r ∈ OS (4 + m) → okV r.1) ∧ (OS (4 + m)).length ≤ 4000 ∧ o_sd (x_SB S m) = nI (r_gq R m) ∧ okO (4 + m) (OS (4 + m)) (r_om R) (r_or R) (r_oc R) (r_ws R) (r_wi R) := by
  have hX := IV_X h
  obtain ⟨li2, ld2, q1, q2, q3⟩ := h.2.1.2.2.2.2.2.2.2.1 m hm h2
  obtain ⟨-, b1, b2, b3, b4⟩ := h.1.2.2.2.2.2.2.2.2.2.1 m hm
  have hL := h.1.2.1
  rw [h.2.2.1] at hL
  obtain ⟨g1, g2, g3, g4, g5⟩ := gr_both (K := 8) (N0 := 30) (N1 := 32) (E := 0) (sc := x_sc S) (C := 0) (z := x_Z S) hX hL (by decide) (Nat.le_refl _) (Nat.le_refl _) hm
  obtain ⟨k1, k2, k3, k4, k5⟩ := gr_both (K := 8) (N0 := 30) (N1 := 32) (E := 0) (sc := x_sc S) (C := 0) (z := x_Z S) hX q1 (by decide) (Nat.le_refl _) (Nat.le_refl _) hm
  have hb := b4 h1
  rw [h.2.2.1] at hb
  have hg : GrS9 (gl8 m ld2 li2 R) (x_SB S m) := by
    obtain ⟨g, c1, c2, c3, c4, c5⟩ := hb
    refine ⟨g, c1, c2, c3, c4.trans (g2.symm.trans k2), ?_⟩
    rw [c5]
    exact congrArg nI (g1.trans k1.symm)
  refine ⟨by rw [q2]; exact Gr_Cl hg, by rw [q2]; exact fun r hr => (k4 r hr).1, by rw [q2]; exact k3, ?_, h.2.1.2.1 (4 + m) (by omega)⟩
  obtain ⟨g, c1, c2, c3, c4, c5⟩ := hg
  rw [q3]; exact c5
theorem ClO_n {L : List O9} {o : OS9} (h : ClO9 L o) : o_n0 o = nI L.length := h.choose_spec.2.1
/-- the races -/
theorem IV_rcs (h : IV9 S R OS ld li) (h1 : o_rd (x_SA S 0) = 1) (h2 : r_ir R = 1) : (∀ i j, (i / 7 < r_T R ∧ i % 7 < x_pg S 0 (i / 7)) → (j / 7 < r_T R ∧ j % 7 < x_pg S 0 (j / 7)) → ((x_rc S (x_pg S 1 i)).testBit (x_pg S 1 j) = true ↔ mR9 R i j)) ∧ rcS (x_rc S) (x_Ac S) / 2 = smN (raG9 (r_rc R)) 28 := by
  have hX := IV_X h
  obtain ⟨KL, SL, C, rc, e⟩ := h.1.2.2.2.2.2.2.2.2.2.2 h1
  rw [h.2.2.1] at e
  have hc : ∀ i j, mkC9 (r_T R) (x_pg S) (walkG 7 (r_T R) (x_Ac S) (x_pg S) (x_nm S) 0 KL SL C rc) i j ↔ mR9 R i j := fun i j => cls_races hX
  have hb : ∀ i j, (i / 7 < r_T R ∧ i % 7 < x_pg S 0 (i / 7)) → (j / 7 < r_T R ∧ j % 7 < x_pg S 0 (j / 7)) → ((x_rc S (x_pg S 1 i)).testBit (x_pg S 1 j) = true ↔ mR9 R i j) := fun i j hi hj => by
    rw [← hc i j, e]
    exact ⟨fun q => ⟨hi, hj, q⟩, fun q => q.2.2⟩
  refine ⟨hb, ?_⟩
  refine races_eq hX h.1.2.2.2.1 (fun a b _ q => ?_) hb (h.2.1.2.2.2.2.2.2.2.2 h2) (fun i j q => ?_)
  · rw [e] at q; exact rc_bit9 hX a b q
  · have := (hc i j).mpr q
    exact ⟨this.1, this.2.1⟩
theorem IV_rc1 (h : IV9 S R OS ld li) (h1 : o_rd (x_SA S 0) = 1) (h2 : r_ir R = 1) {t i o j : Nat} (ht : t < r_T R) (hi : i < x_pg S 0 t) (ho : o < r_T R) (hj : j < x_pg S 0 o) : nI (x_rc S (x_pg S 1 (t * 7 + i)) / 2 ^ (x_pg S 1 (o * 7 + j)) % 2) = r_rc R (28 * (7 * t + i) + 7 * o + j) := by
  have hX := IV_X h
  have hi7 := hX.1.2.2.1 t ht
  have hj7 := hX.1.2.2.1 o ho
  have hT := hX.1.1
  have hb := (IV_rcs h h1 h2).1 (t * 7 + i) (o * 7 + j) (by rw [(by omega : (t * 7 + i) / 7 = t), (by omega : (t * 7 + i) % 7 = i)]; exact ⟨ht, hi⟩) (by rw [(by omega : (o * 7 + j) / 7 = o), (by omega : (o * 7 + j) % 7 = j)]; exact ⟨ho, hj⟩)
  have h9 := h.2.1.2.2.2.2.2.2.2.2 h2 (t * 7 + i) (o * 7 + j) (by omega) (by omega)
  rw [← hb, (by omega : 28 * (t * 7 + i) + (o * 7 + j) = 28 * (7 * t + i) + 7 * o + j)] at h9
  have h01 := h.2.1.2.2.2.2.2.1 (28 * (7 * t + i) + 7 * o + j)
  rw [Nat.testBit_eq_decide_div_mod_eq, decide_eq_true_eq] at h9
  rcases h01 with w | w
  · have : ¬ x_rc S (x_pg S 1 (t * 7 + i)) / 2 ^ (x_pg S 1 (o * 7 + j)) % 2 = 1 := fun q => by rw [h9.mpr q] at w; exact absurd w (by decide)
    rw [w, (by omega : x_rc S (x_pg S 1 (t * 7 + i)) / 2 ^ (x_pg S 1 (o * 7 + j)) % 2 = 0)]; rfl
  · rw [w, h9.mp w]; rfl
end IVS
