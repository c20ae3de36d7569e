/-- a walk that marks nothing keeps the marks; one that marks keeps the outcomes -/
theorem fr_rc9 {sF : SF9} {cF : (Nat → Int32) → C5} {mkR : (Nat → Int32) → (Nat → Int32) → (Nat → Int32)} {nF : (Nat → Int32) → List Int32} {T n : Nat} {s : Nat → Int32} {p : List Int32} {g : R9} : (frR sF cF mkR nF T 0 n s p g).2.2 = g.2.2 := by
  rw [fr_mdf]
  refine mdf_J (J := fun h : R9 => h.2.2 = g.2.2) (fun s h q => ?_) (fun s p h q => ?_) n s p g rfl
  · unfold beR; dsimp only; rw [if_pos rfl]; exact q
  · unfold fnR; rw [if_pos rfl]; exact q
theorem fr_os9 {sF : SF9} {cF : (Nat → Int32) → C5} {mkR : (Nat → Int32) → (Nat → Int32) → (Nat → Int32)} {nF : (Nat → Int32) → List Int32} {T n : Nat} {s : Nat → Int32} {p : List Int32} {g : R9} : (frR sF cF mkR nF T 1 n s p g).2.1 = g.2.1 := by
  rw [fr_mdf]
  refine mdf_J (J := fun h : R9 => h.2.1 = g.2.1) (fun s h q => ?_) (fun s p h q => ?_) n s p g rfl
  · exact q
  · unfold fnR; rw [if_neg (by decide)]; exact q
theorem fr_rcs9 {sF : SF9} {cF : (Nat → Int32) → C5} {mkR : (Nat → Int32) → (Nat → Int32) → (Nat → Int32)} {nF : (Nat → Int32) → List Int32} {T n : Nat} {s : Nat → Int32} {p : List Int32} {a : List C5} {L : List O9} {c : Nat → Int32} : (frR sF cF mkR nF T 1 n s p ((a, L, c) : R9)).2.2 = (frR sF cF mkR nF T 1 n s p ((a, [], c) : R9)).2.2 := by
  rw [fr_mdf, fr_mdf]
  have h := mdf_pi (kn := knR cF) (pre := beR cF mkR 1) (nx := nxF sF T) (fin := fnR nF 1) (kn2 := knR cF) (pre2 := beR cF mkR 1) (fin2 := fnR nF 1) (pi := fun g : R9 => ((g.1, [], g.2.2) : R9)) (fun _ _ => rfl) (fun s g => rfl) (fun s p g => by unfold fnR; rw [if_neg (by decide), if_neg (by decide)]) n s p ((a, L, c) : R9)
  have h2 := congrArg (fun g : R9 => g.2.2) h
  exact h2
theorem mkI_01 {zs kd vx pl : Nat → Nat} {t : Nat} {f : Nat → Int32} (h : ∀ k, f k = 0 ∨ f k = 1) : ∀ i k, mkI zs kd vx pl t f i k = 0 ∨ mkI zs kd vx pl t f i k = 1
  | 0, k => h k
  | i + 1, k => by
    have ih := mkI_01 (zs := zs) (kd := kd) (vx := vx) (pl := pl) (t := t) h i
    unfold mkI
    split
    · unfold upd
      split
      · exact Or.inr rfl
      · split
        · exact Or.inr rfl
        · exact ih k
    · exact ih k
theorem mkO_01 {zs kd vx pl : Nat → Nat} {T : Nat} {f : Nat → Int32} (h : ∀ k, f k = 0 ∨ f k = 1) : ∀ i k, mkO zs kd vx pl T f i k = 0 ∨ mkO zs kd vx pl T f i k = 1
  | 0, k => h k
  | i + 1, k => mkI_01 (mkO_01 h i) _ k
theorem fr_01 {sF : SF9} {cF : (Nat → Int32) → C5} {zs kd vx : Nat → Nat} {nF : (Nat → Int32) → List Int32} {T n : Nat} {mr : Int32} {s : Nat → Int32} {p : List Int32} {g : R9} (h : ∀ k, g.2.2 k = 0 ∨ g.2.2 k = 1) : ∀ k, (frR sF cF (mkS zs kd vx T) nF T mr n s p g).2.2 k = 0 ∨ (frR sF cF (mkS zs kd vx T) nF T mr n s p g).2.2 k = 1 := by
  rw [fr_mdf]
  refine mdf_J (J := fun h : R9 => ∀ k, h.2.2 k = 0 ∨ h.2.2 k = 1) (fun s h q => ?_) (fun s p h q => ?_) n s p g h
  · unfold beR; dsimp only
    split
    · exact q
    · exact mkO_01 q _
  · unfold fnR; split <;> exact q
/-- the program of the reference -/
def PX9 (Ac : Nat) (pg : Nat → Nat → Nat) (nm : Nat → Int32) (R : RX9) : Prop := PX (r_T R) Ac pg nm (r_zs R) (r_kd R) (r_vx R) (r_rr R) (r_vv R)
noncomputable def rR9 (m : Nat) (R : RX9) : List O9 := rL9 m (r_T R) (r_zs R) (r_kd R) (r_vx R) (r_rr R) (r_vv R)
noncomputable def gl8 (m ld : Nat) (li : Nat → Nat) (R : RX9) : GG := gl9 m (r_T R) ld (r_zs R) (r_kd R) (r_vx R) (r_rr R) li (r_vv R)
def mR9 (R : RX9) (i j : Nat) : Prop := ∃ n, mks (nxF (aF 0 (r_zs R) (r_kd R) (r_vx R) (r_rr R) (r_vv R)) (r_T R)) (raA (r_T R) (r_zs R) (r_kd R) (r_vx R)) n a0B i j
/-- what holds of the reference between two calls -/
def IR9 (OS : Nat → List O9) (R : RX9) : Prop :=
  PrR (r_T R) (r_zs R) (r_kd R) (r_vx R) (r_rr R) (r_vv R) ∧ okO9 OS R ∧ OkG9 R ∧ (∀ k, k < 8 → r_ff R k = 0 ∨ r_ff R k = 1) ∧ (r_ir R = 0 ∨ r_ir R = 1) ∧ (∀ k, r_rc R k = 0 ∨ r_rc R k = 1) ∧
  (∀ m, m < 4 → r_ff R m = 1 → OS m = rR9 m R) ∧
  (∀ m, m < 4 → r_ff R (4 + m) = 1 → ∃ li ld, liO (r_T R) ld (r_zs R) (r_kd R) li ∧ OS (4 + m) = (gl8 m ld li R).2 ∧ r_gq R m = (gl8 m ld li R).1) ∧
  (r_ir R = 1 → ∀ i j, i < 28 → j < 28 → (r_rc R (28 * i + j) = 1 ↔ mR9 R i j))
/-- the same program -/
def sm9 (R R2 : RX9) : Prop := r_T R2 = r_T R ∧ r_Ac R2 = r_Ac R ∧ r_zs R2 = r_zs R ∧ r_kd R2 = r_kd R ∧ r_vx R2 = r_vx R ∧ r_rr R2 = r_rr R ∧ r_vv R2 = r_vv R
theorem sm_r {R : RX9} : sm9 R R := ⟨rfl, rfl, rfl, rfl, rfl, rfl, rfl⟩
theorem sm_t {R R2 R3 : RX9} (h : sm9 R R2) (k : sm9 R2 R3) : sm9 R R3 := by
  obtain ⟨a1, a2, a3, a4, a5, a6, a7⟩ := h
  obtain ⟨b1, b2, b3, b4, b5, b6, b7⟩ := k
  exact ⟨b1.trans a1, b2.trans a2, b3.trans a3, b4.trans a4, b5.trans a5, b6.trans a6, b7.trans a7⟩
theorem sm_PX {R R2 : RX9} (h : sm9 R R2) {Ac : Nat} {pg : Nat → Nat → Nat} {nm : Nat → Int32} : PX9 Ac pg nm R2 = PX9 Ac pg nm R := by
  obtain ⟨a1, a2, a3, a4, a5, a6, a7⟩ := h
  unfold PX9; rw [a1, a3, a4, a5, a6, a7]
theorem sm_rR {R R2 : RX9} (h : sm9 R R2) {m : Nat} : rR9 m R2 = rR9 m R := by
  obtain ⟨a1, a2, a3, a4, a5, a6, a7⟩ := h
  unfold rR9; rw [a1, a3, a4, a5, a6, a7]
theorem sm_gl {R R2 : RX9} (h : sm9 R R2) {m ld : Nat} {li : Nat → Nat} : gl8 m ld li R2 = gl8 m ld li R := by
  obtain ⟨a1, a2, a3, a4, a5, a6, a7⟩ := h
  unfold gl8; rw [a1, a3, a4, a5, a6, a7]
theorem sm_mR {R R2 : RX9} (h : sm9 R R2) {i j : Nat} : mR9 R2 i j = mR9 R i j := by
  obtain ⟨a1, a2, a3, a4, a5, a6, a7⟩ := h
  unfold mR9; rw [a1, a3, a4, a5, a6, a7]
theorem sm_Pr {R R2 : RX9} (h : sm9 R R2) (k : PrR (r_T R) (r_zs R) (r_kd R) (r_vx R) (r_rr R) (r_vv R)) : PrR (r_T R2) (r_zs R2) (r_kd R2) (r_vx R2) (r_rr R2) (r_vv R2) := by
  obtain ⟨a1, a2, a3, a4, a5, a6, a7⟩ := h
  rw [a1, a3, a4, a5, a6, a7]; exact k
theorem fn_eq9 {Ac : Nat} {pg : Nat → Nat → Nat} {nm : Nat → Int32} {R : RX9} {m : Nat} (hX : PX9 Ac pg nm R) (hm : m < 4) : (fn9 R m).2.1 = rR9 m R := by
  unfold fn9 rR9 rL9
  by_cases c : m = 3
  · rw [if_pos c, if_pos c]; exact ref_runs_K hX.2.1 (outs_K hX)
  · rw [if_neg c, if_neg c]; exact ref_runs_B hX.2.1 (by omega) (outs_B hX (by omega))
theorem fn_rc9 {R : RX9} {m : Nat} : (fn9 R m).2.2 = r_rc R := by
  unfold fn9
  split
  · exact fr_rc9
  · exact fr_rc9
theorem OkG_of {R R2 : RX9} (e1 : r_li R2 = r_li R) (e2 : r_fm R2 = r_fm R) (e3 : r_rx R2 = r_rx R) (e4 : r_nu R2 = r_nu R) (e5 : r_ow R2 = r_ow R) (e6 : r_rd R2 = r_rd R) (e7 : r_bf R2 = r_bf R) (e8 : r_sn R2 = r_sn R) (e9 : r_mk R2 = r_mk R) (e10 : r_hq R2 = r_hq R) (h : OkG9 R) : OkG9 R2 := by
  unfold OkG9; rw [e1, e2, e3, e4, e5, e6, e7, e8, e9, e10]; exact h
theorem updO_n {OS : Nat → List O9} {k i : Nat} {L : List O9} (h : i ≠ k) : updO OS k L i = OS i := if_neg h
/-- find keeps it -/
theorem sFn_iv {OS OS2 : Nat → List O9} {Ac : Nat} {pg : Nat → Nat → Nat} {nm : Nat → Int32} {R R2 : RX9} {m : Nat} (hX : PX9 Ac pg nm R) (h : IR9 OS R) (hm : m < 4) (hs : sFn9 OS R m R2 OS2) : IR9 OS2 R2 ∧ r_ff R2 m = 1 ∧ sm9 R R2 := by
  rcases hs with ⟨w, rfl, rfl⟩ | ⟨w, rfl, hO2, cb, cf, mf, nx, fs, kf, sp, nw, oc, om, or9, ws, wi, hR2⟩
  · exact ⟨h, w, sm_r⟩
  · obtain ⟨h1, h2, h3, h4, h5, h6, h7, h8, h9⟩ := h
    have hsm : sm9 R R2 := by rw [hR2]; exact ⟨rfl, rfl, rfl, rfl, rfl, rfl, rfl⟩
    have hff : r_ff R2 = upd (r_ff R) m 1 := by rw [hR2]; rfl
    have hir : r_ir R2 = r_ir R := by rw [hR2]; rfl
    have hrc : r_rc R2 = r_rc R := by rw [hR2]; exact fn_rc9
    have hgq : r_gq R2 = r_gq R := by rw [hR2]; rfl
    have hG : OkG9 R2 := by rw [hR2]; exact OkG_of rfl rfl rfl rfl rfl rfl rfl rfl rfl rfl h3
    have hfm : r_ff R2 m = 1 := by rw [hff, pk_us]
    refine ⟨⟨sm_Pr hsm h1, hO2, hG, fun k hk => ?_, by rw [hir]; exact h5, by rw [hrc]; exact h6, fun k hk hf => ?_, fun k hk hf => ?_, fun hf i j hi hj => ?_⟩, hfm, hsm⟩
    · by_cases e : k = m
      · rw [e]; exact Or.inr hfm
      · rw [hff, pk_un e]; exact h4 k hk
    · rw [sm_rR hsm]
      by_cases e : k = m
      · rw [e, updO_s]; exact fn_eq9 hX hm
      · rw [updO_n e]; rw [hff, pk_un e] at hf; exact h7 k hk hf
    · have e : 4 + k ≠ m := by omega
      rw [hff, pk_un e] at hf
      obtain ⟨li, ld, q1, q2, q3⟩ := h8 k hk hf
      exact ⟨li, ld, by rw [hsm.1, hsm.2.2.1, hsm.2.2.2.1]; exact q1, by rw [updO_n e, sm_gl hsm]; exact q2, by rw [hgq, sm_gl hsm]; exact q3⟩
    · rw [hrc, sm_mR hsm]; rw [hir] at hf; exact h9 hf i j hi hj
/-- findGraphs keeps it -/
theorem sGr_iv {OS OS2 : Nat → List O9} {R R2 : RX9} {m : Nat} (h : IR9 OS R) (hm : m < 4) (hs : sGr9 OS R m R2 OS2) : IR9 OS2 R2 ∧ r_ff R2 (4 + m) = 1 ∧ sm9 R R2 := by
  rcases hs with ⟨w, rfl, rfl⟩ | ⟨w, li, ld, hli, rfl, hO2, hG, fm, gz, rx, rs, my, nu, ow, rd, bf, sn, mk9, hq, nw, oc, om, or9, hR2⟩
  · exact ⟨h, w, sm_r⟩
  · obtain ⟨h1, h2, h3, h4, h5, h6, h7, h8, h9⟩ := h
    have hsm : sm9 R R2 := by rw [hR2]; exact ⟨rfl, rfl, rfl, rfl, rfl, rfl, rfl⟩
    have hff : r_ff R2 = upd (r_ff R) (4 + m) 1 := by rw [hR2]; rfl
    have hir : r_ir R2 = r_ir R := by rw [hR2]; rfl
    have hrc : r_rc R2 = r_rc R := by rw [hR2]; rfl
    have hgq : r_gq R2 = updN (r_gq R) m (gl8 m ld li R).1 := by rw [hR2]; rfl
    have hfm : r_ff R2 (4 + m) = 1 := by rw [hff, pk_us]
    refine ⟨⟨sm_Pr hsm h1, hO2, hG, fun k hk => ?_, by rw [hir]; exact h5, by rw [hrc]; exact h6, fun k hk hf => ?_, fun k hk hf => ?_, fun hf i j hi hj => ?_⟩, hfm, hsm⟩
    · by_cases e : k = 4 + m
      · rw [e]; exact Or.inr hfm
      · rw [hff, pk_un e]; exact h4 k hk
    · rw [sm_rR hsm]
      have e : k ≠ 4 + m := by omega
      rw [updO_n e]; rw [hff, pk_un e] at hf; exact h7 k hk hf
    · by_cases e : k = m
      · subst e
        exact ⟨li, ld, by rw [hsm.1, hsm.2.2.1, hsm.2.2.2.1]; exact hli, by rw [updO_s, sm_gl hsm]; rfl, by rw [hgq, sm_gl hsm]; exact if_pos rfl⟩
      · have e2 : 4 + k ≠ 4 + m := by omega
        rw [hff, pk_un e2] at hf
        obtain ⟨li2, ld2, q1, q2, q3⟩ := h8 k hk hf
        exact ⟨li2, ld2, by rw [hsm.1, hsm.2.2.1, hsm.2.2.2.1]; exact q1, by rw [updO_n e2, sm_gl hsm]; exact q2, by rw [hgq, sm_gl hsm]; exact (if_neg e).trans q3⟩
    · rw [hrc, sm_mR hsm]; rw [hir] at hf; exact h9 hf i j hi hj
/-- findRaces keeps it -/
theorem sRr_iv {OS OS2 : Nat → List O9} {R R2 : RX9} (h : IR9 OS R) (hs : sRr9 OS R R2 OS2) : IR9 OS2 R2 ∧ r_ir R2 = 1 ∧ sm9 R R2 := by
  rcases hs with ⟨w, rfl, rfl⟩ | ⟨w, rfl, hO2, cb, cf, mf, nx, fs, kf, sp, nw, oc, om, or9, ws, wi, hR2⟩
  · exact ⟨h, w, sm_r⟩
  · obtain ⟨h1, h2, h3, h4, h5, h6, h7, h8, h9⟩ := h
    have hsm : sm9 R R2 := by rw [hR2]; exact ⟨rfl, rfl, rfl, rfl, rfl, rfl, rfl⟩
    have hff : r_ff R2 = r_ff R := by rw [hR2]; rfl
    have hir : r_ir R2 = 1 := by rw [hR2]; rfl
    have hrc : r_rc R2 = (fr9 OS R).2.2 := by rw [hR2]; rfl
    have hgq : r_gq R2 = r_gq R := by rw [hR2]; rfl
    have hG : OkG9 R2 := by rw [hR2]; exact OkG_of rfl rfl rfl rfl rfl rfl rfl rfl rfl rfl h3
    have hos : updO OS 0 (fr9 OS R).2.1 = OS := by
      have : (fr9 OS R).2.1 = OS 0 := by unfold fr9; exact fr_os9
      rw [this, updO_self]
    rw [hos] at hO2 ⊢
    refine ⟨⟨sm_Pr hsm h1, hO2, hG, by rw [hff]; exact h4, Or.inr hir, ?_, fun k hk hf => ?_, fun k hk hf => ?_, fun hf i j hi hj => ?_⟩, hir, hsm⟩
    · rw [hrc]; unfold fr9; exact fr_01 (fun k => Or.inl rfl)
    · rw [sm_rR hsm]; rw [hff] at hf; exact h7 k hk hf
    · rw [hff] at hf
      obtain ⟨li2, ld2, q1, q2, q3⟩ := h8 k hk hf
      exact ⟨li2, ld2, by rw [hsm.1, hsm.2.2.1, hsm.2.2.2.1]; exact q1, by rw [sm_gl hsm]; exact q2, by rw [hgq, sm_gl hsm]; exact q3⟩
    · rw [hrc, sm_mR hsm]
      unfold fr9
      rw [fr_rcs9]
      exact ref_races h1 (fun _ _ => rfl) hi hj
