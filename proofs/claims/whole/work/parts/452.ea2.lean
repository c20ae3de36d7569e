/-- what holds of both between two calls -/
def IV9 (S : CX9) (R : RX9) (OS : Nat → List O9) (ld : Nat) (li : Nat → Nat) : Prop := OkC9 ld (r_zs R) (r_kd R) (r_vx R) (r_rr R) li (r_vv R) S ∧ IR9 OS R ∧ x_T S = r_T R ∧ x_Ac S = r_Ac R ∧ (∀ t, x_T S ≤ t → x_pg S 0 t = 0 ∧ x_pg S 8 t = 0) ∧ smN (r_zs R) (r_T R) = r_Ac R
def JV9 (S : CX9) (R : RX9) : Prop := ∃ OS ld li, IV9 S R OS ld li
theorem OkC_new {S S2 : CX9} {ld ld2 : Nat} {zs kd vx rr li zs2 kd2 vx2 rr2 li2 : Nat → Nat} {vv vv2 : Nat → Int32} (h : OkC9 ld zs kd vx rr li vv S) (hX : PX (x_T S2) (x_Ac S2) (x_pg S2) (x_nm S2) zs2 kd2 vx2 rr2 vv2) (hL : liO (x_T S2) ld2 zs2 kd2 li2)
    (e1 : x_vl S2 = x_vl S) (e2 : x_rc S2 = x_rc S) (e3 : x_tl S2 = x_tl S) (e4 : x_KL S2 = x_KL S) (e5 : x_SL S2 = x_SL S) (e6 : x_Z S2 = x_Z S) (e7 : x_SA S2 = fg9 (x_SA S)) (e8 : x_SB S2 = fg9 (x_SB S)) :
    OkC9 ld2 zs2 kd2 vx2 rr2 li2 vv2 S2 ∧ pc9 S2 = pc9 S ∧ ps9 S2 = ps9 S := by
  obtain ⟨h1, h2, h3, h4, h5, h6, h7, h8, h9, h10, h11⟩ := h
  refine ⟨⟨hX, hL, by rw [e1]; exact h3, by rw [e2]; exact h4, by rw [e3]; exact h5, by rw [e4]; exact h6, by rw [e5]; exact h7, by rw [e5]; exact h8, by rw [e6]; exact h9, fun m hm => ?_, fun hr => ?_⟩, ?_, ?_⟩
  · obtain ⟨⟨a1, a2, a3, a4⟩, b1, b2, b3, b4⟩ := h10 m hm
    rw [e7, e8]
    exact ⟨⟨a1, a2, Or.inl rfl, fun q => absurd (show (0 : Int32) = 1 from q) (by decide)⟩, b1, b2, Or.inl rfl, fun q => absurd (show (0 : Int32) = 1 from q) (by decide)⟩
  · rw [e7] at hr; exact absurd (show (0 : Int32) = 1 from hr) (by decide)
  · unfold pc9; rw [e4, e5, e7, e8]; rfl
  · unfold ps9; rw [e4, e5, e7, e8]; rfl
theorem IR_new {OS : Nat → List O9} {R R2 : RX9} (h : IR9 OS R) (hPr : PrR (r_T R2) (r_zs R2) (r_kd R2) (r_vx R2) (r_rr R2) (r_vv R2)) (e1 : r_om R2 = r_om R) (e2 : r_or R2 = r_or R) (e3 : r_oc R2 = r_oc R) (e4 : r_ws R2 = r_ws R) (e5 : r_wi R2 = r_wi R) (hG : OkG9 R2) (e6 : r_ff R2 = fun _ => 0) (e7 : r_ir R2 = 0) (e8 : r_rc R2 = r_rc R) : IR9 OS R2 := by
  obtain ⟨h1, h2, h3, h4, h5, h6, h7, h8, h9⟩ := h
  refine ⟨hPr, by unfold okO9; rw [e1, e2, e3, e4, e5]; exact h2, hG, fun k hk => by rw [e6]; exact Or.inl rfl, Or.inl e7, by rw [e8]; exact h6, fun m hm q => ?_, fun m hm q => ?_, fun q => ?_⟩
  · rw [e6] at q; exact absurd (show (0 : Int32) = 1 from q) (by decide)
  · rw [e6] at q; exact absurd (show (0 : Int32) = 1 from q) (by decide)
  · rw [e7] at q; exact absurd (show (0 : Int32) = 1 from q) (by decide)
/-- thread keeps it -/
theorem JV_T {S : CX9} {R : RX9} (h : JV9 S R) (hT : x_T S < 4) : JV9 (nT9 S) (nRt9 R) ∧ pc9 (nT9 S) = pc9 S ∧ ps9 (nT9 S) = ps9 S := by
  obtain ⟨OS, ld, li, hC, hR, eT, eA, hz, hs⟩ := h
  have hX := hC.1
  have hX2 := PX_T hX hT (hz _ (Nat.le_refl _)).1 (hz _ (Nat.le_refl _)).2
  obtain ⟨ld2, li2, hL2⟩ := li_ex9 (T := x_T S + 1) (zs := updN (r_zs R) (x_T S) 0) (kd := r_kd R) (by omega)
  obtain ⟨q1, q2, q3⟩ := OkC_new (S2 := nT9 S) hC hX2 hL2 rfl rfl rfl rfl rfl rfl rfl rfl
  refine ⟨⟨OS, ld2, li2, ?_, IR_new (R2 := nRt9 R) hR ?_ rfl rfl rfl rfl rfl (OkG_of rfl rfl rfl rfl rfl rfl rfl rfl rfl rfl hR.2.2.1) rfl rfl rfl, ?_, eA, fun t ht => ?_, ?_⟩, q2, q3⟩
  · have e : r_zs (nRt9 R) = updN (r_zs R) (x_T S) 0 := by rw [eT]; rfl
    rw [e]; exact q1
  · have := hX2.2.1
    rw [eT] at this; exact this
  · show x_T S + 1 = r_T R + 1
    rw [eT]
  · exact hz t (by have : x_T S + 1 ≤ t := ht; omega)
  · show smN (updN (r_zs R) (r_T R) 0) (r_T R) + updN (r_zs R) (r_T R) 0 (r_T R) = r_Ac R
    rw [updN_s, smN_cg (r_T R) (fun i hi => updN_n (by omega))]; exact hs
/-- clear keeps it -/
theorem JV_C {S : CX9} {R : RX9} (h : JV9 S R) : JV9 (nC9 S) (nRc9 R) ∧ pc9 (nC9 S) = pc9 S ∧ ps9 (nC9 S) = ps9 S := by
  obtain ⟨OS, ld, li, hC, hR, eT, eA, hz, hs⟩ := h
  have hX2 := PX_C hC.1
  obtain ⟨ld2, li2, hL2⟩ := li_ex9 (T := 0) (zs := r_zs R) (kd := r_kd R) (by omega)
  obtain ⟨q1, q2, q3⟩ := OkC_new (S2 := nC9 S) hC hX2 hL2 rfl rfl rfl rfl rfl rfl rfl rfl
  refine ⟨⟨OS, ld2, li2, q1, IR_new (R2 := nRc9 R) hR hX2.2.1 rfl rfl rfl rfl rfl (OkG_of rfl rfl rfl rfl rfl rfl rfl rfl rfl rfl hR.2.2.1) rfl rfl rfl, rfl, rfl, fun t ht => ?_, rfl⟩, q2, q3⟩
  have c0 : clP9 (x_pg S) 0 = fun _ => 0 := if_pos (by decide)
  have c8 : clP9 (x_pg S) 8 = fun _ => 0 := if_pos (by decide)
  show clP9 (x_pg S) 0 t = 0 ∧ clP9 (x_pg S) 8 t = 0
  rw [c0, c8]; exact ⟨rfl, rfl⟩
/-- action keeps it -/
theorem JV_A {S : CX9} {R : RX9} {t k x rn : Nat} {v : Int32} (h : JV9 S R) (hA : x_Ac S < 7) (ht : t < x_T S) (hk : k < 6) (hx : x < 4) (hkx : k < 4 → x < 3) (hr : rn < 2) (hv : wB v 9) : JV9 (nA9 S t k x rn v) (nRa9 R t k x rn v) ∧ pc9 (nA9 S t k x rn v) = pc9 S ∧ ps9 (nA9 S t k x rn v) = ps9 S := by
  obtain ⟨OS, ld, li, hC, hR, eT, eA, hz, hs⟩ := h
  have hX2 := PX_A hC.1 hA (by rw [eT, eA]; exact hs) ht hk hx hkx hr hv
  obtain ⟨ld2, li2, hL2⟩ := li_ex9 (T := x_T S) (zs := updN (r_zs R) t (r_zs R t + 1)) (kd := updN (r_kd R) (7 * t + r_zs R t) k) hC.1.1.1
  obtain ⟨q1, q2, q3⟩ := OkC_new (S2 := nA9 S t k x rn v) hC hX2 hL2 rfl rfl rfl rfl rfl rfl rfl rfl
  refine ⟨⟨OS, ld2, li2, q1, IR_new (R2 := nRa9 R t k x rn v) hR ?_ rfl rfl rfl rfl rfl (OkG_of rfl rfl rfl rfl rfl rfl rfl rfl rfl rfl hR.2.2.1) rfl rfl rfl, eT, ?_, fun t2 ht2 => ?_, ?_⟩, q2, q3⟩
  · have := hX2.2.1
    rw [eT] at this; exact this
  · show x_Ac S + 1 = r_Ac R + 1
    rw [eA]
  · have h2 : x_T S ≤ t2 := ht2
    show updN (x_pg S 0) t (x_pg S 0 t + 1) t2 = 0 ∧ updN (x_pg S 8) t (x_pg S 8 t ||| 2 ^ x_Ac S) t2 = 0
    rw [updN_n (by omega), updN_n (by omega)]; exact hz t2 h2
  · show smN (updN (r_zs R) t (r_zs R t + 1)) (r_T R) = r_Ac R + 1
    have := smN_1 (f := r_zs R) (i := t) (v := r_zs R t + 1) (r_T R) (by omega); omega
