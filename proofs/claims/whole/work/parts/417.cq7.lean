def msX9 (a b : OS9) : Nat := msN (o_rf a) (o_vf a) (o_rf b) (o_vf b) (o_of b) (o_n0 b).toNatClampNeg (o_n0 a).toNatClampNeg
/-- the second walk of beyond -/
noncomputable def gB9 (S : CX9) (m o : Nat) : G9 := if o = 3 then walkK (o_E (x_SA S 3)) (x_T S) (x_pg S) (x_nm S) (if o_rd (x_SA S m) = 1 then x_KL S else gK (gR9 S m)) (if o_rd (x_SA S m) = 1 then x_SL S else gS (gR9 S m)) (o_C (x_SA S 3)) else walkG (o_E (x_SA S o)) (x_T S) (x_Ac S) (x_pg S) (x_nm S) o (if o_rd (x_SA S m) = 1 then x_KL S else gK (gR9 S m)) (if o_rd (x_SA S m) = 1 then x_SL S else gS (gR9 S m)) (o_C (x_SA S o)) (if o_rd (x_SA S m) = 1 ∨ m = 3 then x_rc S else gR (gR9 S m))
noncomputable def mcB9 (S : CX9) (m o : Nat) : Nat := if o_rd (x_SA S o) = 1 then 0 else gc (gB9 S m o)
noncomputable def msB9 (S : CX9) (m o : Nat) : Nat := if o_rd (x_SA S o) = 1 then 0 else gs (gB9 S m o)
theorem gB_9 {S S2 : CX9} {m o : Nat} (hne : o ≠ m) (h : sRn9 S m S2) : mcR9 S2 o = mcB9 S m o ∧ msR9 S2 o = msB9 S m o := by
  have hg : gR9 S2 o = gB9 S m o ∧ o_rd (x_SA S2 o) = o_rd (x_SA S o) := by
    rcases h with ⟨w, rfl⟩ | ⟨w, wm, j1, j2, d1, d2, kf, sf, ad, ck, rf, vf, lf, qf, of, vl, pv, q1, q2, q3, q4, rfl⟩ | ⟨w, wm, j1, j2, d1, d2, kf, sf, ad, ck, rf, vf, lf, qf, of, vl, pv, tl, q1, q2, q3, q4, rfl⟩
    · unfold gR9 gB9
      rw [if_pos w, if_pos w, if_pos (Or.inl w)]; exact ⟨rfl, rfl⟩
    · have nw : ¬ o_rd (x_SA S m) = 1 := by rw [w]; decide
      generalize hS2 : nB9 S m (gR9 S m) j1 j2 d1 d2 kf sf ad ck rf vf lf qf of vl pv = S2
      have eA : ∀ i, i ≠ m → x_SA S2 i = x_SA S i := fun i hi => by rw [← hS2]; exact upS_n hi
      have eK : x_KL S2 = gK (gR9 S m) := by rw [← hS2]; rfl
      have eL : x_SL S2 = gS (gR9 S m) := by rw [← hS2]; rfl
      have e1 : x_T S2 = x_T S := by rw [← hS2]; rfl
      have e2 : x_Ac S2 = x_Ac S := by rw [← hS2]; rfl
      have e3 : x_pg S2 = x_pg S := by rw [← hS2]; rfl
      have e4 : x_nm S2 = x_nm S := by rw [← hS2]; rfl
      have e6 : x_rc S2 = gR (gR9 S m) := by rw [← hS2]; rfl
      clear hS2
      have g9 : gR9 S2 o = if o = 3 then walkK (o_E (x_SA S2 3)) (x_T S2) (x_pg S2) (x_nm S2) (x_KL S2) (x_SL S2) (o_C (x_SA S2 3)) else walkG (o_E (x_SA S2 o)) (x_T S2) (x_Ac S2) (x_pg S2) (x_nm S2) o (x_KL S2) (x_SL S2) (o_C (x_SA S2 o)) (x_rc S2) := rfl
      rw [g9, eA o hne, eA 3 (by omega), eK, eL, e1, e2, e3, e4, e6]
      unfold gB9
      rw [if_neg nw, if_neg nw, if_neg (show ¬ (o_rd (x_SA S m) = 1 ∨ m = 3) from fun z => z.elim nw (by omega))]
      exact ⟨rfl, rfl⟩
    · have nw : ¬ o_rd (x_SA S m) = 1 := by rw [w]; decide
      generalize hS2 : nK9 S (gR9 S m) j1 j2 d1 d2 kf sf ad ck rf vf lf qf of vl pv tl = S2
      have eA : ∀ i, i ≠ 3 → x_SA S2 i = x_SA S i := fun i hi => by rw [← hS2]; exact upS_n hi
      have eK : x_KL S2 = gK (gR9 S m) := by rw [← hS2]; rfl
      have eL : x_SL S2 = gS (gR9 S m) := by rw [← hS2]; rfl
      have e1 : x_T S2 = x_T S := by rw [← hS2]; rfl
      have e2 : x_Ac S2 = x_Ac S := by rw [← hS2]; rfl
      have e3 : x_pg S2 = x_pg S := by rw [← hS2]; rfl
      have e4 : x_nm S2 = x_nm S := by rw [← hS2]; rfl
      have e6 : x_rc S2 = x_rc S := by rw [← hS2]; rfl
      clear hS2
      have o3 : ¬ o = 3 := by omega
      have g9 : gR9 S2 o = walkG (o_E (x_SA S2 o)) (x_T S2) (x_Ac S2) (x_pg S2) (x_nm S2) o (x_KL S2) (x_SL S2) (o_C (x_SA S2 o)) (x_rc S2) := if_neg o3
      rw [g9, eA o o3, eK, eL, e1, e2, e3, e4, e6]
      unfold gB9
      rw [if_neg o3, if_neg nw, if_neg nw, if_pos (Or.inr wm)]
      exact ⟨rfl, rfl⟩
  unfold mcR9 msR9 mcB9 msB9
  rw [hg.1, hg.2]; exact ⟨rfl, rfl⟩
set_option maxHeartbeats 4000000 in
set_option maxRecDepth 100000 in
theorem cMis9 (l : Launch) (dC : Nat → ClassId) (dI : Nat → Nat → Nat) (S : CX9) (m o : Nat) (hm : m < 4) (ho : o < 4) (hne : m ≠ o) (hR : RdO9 (x_SA S m)) (hR2 : RdO9 (x_SA S o)) (sz : Nat) : Met l y_OutcomeSet_countMissingIn w_OutcomeSet_countMissingIn ({ frames := 1, cells := 0, slots := 0, locals := 60 }) (va_Pc [.ref (x_fA S m), .ref (x_fA S o)] (SW9 dC dI S sz)) (va_Qi (fun (r : Int32) (_ : Unit) => r = nI (msX9 (x_SA S m) (x_SA S o))) (fun _ t9 => PW9 l dC dI S sz S t9) (va_A (cw9 S) sz)) 0 0 (va_A (cw9 S) sz) := by
  obtain ⟨hC, n, h1, h2, h3⟩ := hR
  obtain ⟨hC2, n2, g1, g2, g3⟩ := hR2
  have hn9 := n0_9 h1 h2 hC
  have hn8 := n0_9 g1 g2 hC2
  have hCw : ([44 + 6 * m, 45 + 6 * m, 46 + 6 * m, 44 + 6 * o, 45 + 6 * o, 46 + 6 * o, 49 + 6 * o] : List Nat).map (fun i => (cw9 S)[i]?) = ([oc (x_fA S m) 3 [.int (nI (o_E (x_SA S m))), .ref (o_ad (x_SA S m) 1), .ref (o_ad (x_SA S m) 2), .ref (o_ad (x_SA S m) 3), .ref (o_ad (x_SA S m) 4), .ref (o_ad (x_SA S m) 5), .int (nI n), .int (o_sd (x_SA S m)), .int (o_rd (x_SA S m))], la (o_ad (x_SA S m) 1) (o_ck (x_SA S m) 1) (o_C (x_SA S m)) (o_rf (x_SA S m)), ia (o_ad (x_SA S m) 2) (o_ck (x_SA S m) 2) (o_C (x_SA S m)) (o_vf (x_SA S m)), oc (x_fA S o) 3 [.int (nI (o_E (x_SA S o))), .ref (o_ad (x_SA S o) 1), .ref (o_ad (x_SA S o) 2), .ref (o_ad (x_SA S o) 3), .ref (o_ad (x_SA S o) 4), .ref (o_ad (x_SA S o) 5), .int (nI n2), .int (o_sd (x_SA S o)), .int (o_rd (x_SA S o))], la (o_ad (x_SA S o) 1) (o_ck (x_SA S o) 1) (o_C (x_SA S o)) (o_rf (x_SA S o)), ia (o_ad (x_SA S o) 2) (o_ck (x_SA S o) 2) (o_C (x_SA S o)) (o_vf (x_SA S o)), ia (o_ad (x_SA S o) 5) (o_ck (x_SA S o) 5) (o_C (x_SA S o)) (fun i => nI (o_of (x_SA S o) i))] : va_W).map some := by
    have h9 : ([44 + 6 * m, 45 + 6 * m, 46 + 6 * m, 44 + 6 * o, 45 + 6 * o, 46 + 6 * o, 49 + 6 * o] : List Nat).map (fun i => (cw9 S)[i]?) = ([oc (x_fA S m) 3 [.int (nI (o_E (x_SA S m))), .ref (o_ad (x_SA S m) 1), .ref (o_ad (x_SA S m) 2), .ref (o_ad (x_SA S m) 3), .ref (o_ad (x_SA S m) 4), .ref (o_ad (x_SA S m) 5), .int (o_n0 (x_SA S m)), .int (o_sd (x_SA S m)), .int (o_rd (x_SA S m))], la (o_ad (x_SA S m) 1) (o_ck (x_SA S m) 1) (o_C (x_SA S m)) (o_rf (x_SA S m)), ia (o_ad (x_SA S m) 2) (o_ck (x_SA S m) 2) (o_C (x_SA S m)) (o_vf (x_SA S m)), oc (x_fA S o) 3 [.int (nI (o_E (x_SA S o))), .ref (o_ad (x_SA S o) 1), .ref (o_ad (x_SA S o) 2), .ref (o_ad (x_SA S o) 3), .ref (o_ad (x_SA S o) 4), .ref (o_ad (x_SA S o) 5), .int (o_n0 (x_SA S o)), .int (o_sd (x_SA S o)), .int (o_rd (x_SA S o))], la (o_ad (x_SA S o) 1) (o_ck (x_SA S o) 1) (o_C (x_SA S o)) (o_rf (x_SA S o)), ia (o_ad (x_SA S o) 2) (o_ck (x_SA S o) 2) (o_C (x_SA S o)) (o_vf (x_SA S o)), ia (o_ad (x_SA S o) 5) (o_ck (x_SA S o) 5) (o_C (x_SA S o)) (fun i => nI (o_of (x_SA S o) i))] : va_W).map some := by
      have c : m = 0 ∨ m = 1 ∨ m = 2 ∨ m = 3 := by omega
      have d : o = 0 ∨ o = 1 ∨ o = 2 ∨ o = 3 := by omega
      rcases c with rfl | rfl | rfl | rfl <;> rcases d with rfl | rfl | rfl | rfl <;> first | rfl | exact absurd rfl hne
    rw [h1, g1] at h9; exact h9
  have hKw : ([37 + 5 * m, 38 + 5 * m, 37 + 5 * o, 38 + 5 * o, 41 + 5 * o] : List Nat).filterMap (fun i => (ct9 S)[i]?) = [((o_ck (x_SA S m) 1), .long), ((o_ck (x_SA S m) 2), .int), ((o_ck (x_SA S o) 1), .long), ((o_ck (x_SA S o) 2), .int), ((o_ck (x_SA S o) 5), .int)] := by
    have c : m = 0 ∨ m = 1 ∨ m = 2 ∨ m = 3 := by omega
    have d : o = 0 ∨ o = 1 ∨ o = 2 ∨ o = 3 := by omega
    rcases c with rfl | rfl | rfl | rfl <;> rcases d with rfl | rfl | rfl | rfl <;> first | rfl | exact absurd rfl hne
  have hNd : va_nd ([44 + 6 * m, 45 + 6 * m, 46 + 6 * m, 44 + 6 * o, 45 + 6 * o, 46 + 6 * o, 49 + 6 * o] : List Nat) = true := by
    have c : m = 0 ∨ m = 1 ∨ m = 2 ∨ m = 3 := by omega
    have d : o = 0 ∨ o = 1 ∨ o = 2 ∨ o = 3 := by omega
    rcases c with rfl | rfl | rfl | rfl <;> rcases d with rfl | rfl | rfl | rfl <;> first | decide +kernel | exact absurd rfl hne
  have h := gen_OutcomeSet_countMissingIn l dC dI (x_fA S m) (o_ad (x_SA S m) 1) (o_ad (x_SA S m) 2) (o_ad (x_SA S m) 3) (o_ad (x_SA S m) 4) (o_ad (x_SA S m) 5) (x_fA S o) (o_ad (x_SA S o) 1) (o_ad (x_SA S o) 2) (o_ad (x_SA S o) 3) (o_ad (x_SA S o) 4) (o_ad (x_SA S o) 5) (nI (o_E (x_SA S m))) (o_sd (x_SA S m)) (o_rd (x_SA S m)) (o_sd (x_SA S o)) (o_rd (x_SA S o)) (o_E (x_SA S o)) n (o_C (x_SA S m)) n2 (o_C (x_SA S o)) (o_ck (x_SA S m) 1) (o_ck (x_SA S m) 2) (o_ck (x_SA S o) 1) (o_ck (x_SA S o) 2) (o_ck (x_SA S o) 5) (o_rf (x_SA S m)) (o_rf (x_SA S o)) (o_vf (x_SA S m)) (o_vf (x_SA S o)) (o_of (x_SA S o)) hC h2 hC2 g2 g3 sz
  have h := Met_ro (S := S) h _ _ hNd hCw hKw
  unfold msX9
  rw [hn9, hn8]; exact h
theorem sRn_k {S S2 : CX9} {m o : Nat} (h : sRn9 S o S2) (hm : m < 4) (hne : m ≠ o) (hr : o_rd (x_SA S m) = 1) : o_rd (x_SA S2 m) = 1 := by
  rcases h with ⟨w, rfl⟩ | ⟨w, wm, j1, j2, d1, d2, kf, sf, ad, ck, rf, vf, lf, qf, of, vl, pv, q1, q2, q3, q4, rfl⟩ | ⟨w, wm, j1, j2, d1, d2, kf, sf, ad, ck, rf, vf, lf, qf, of, vl, pv, tl, q1, q2, q3, q4, rfl⟩
  · exact hr
  · have e : x_SA (nB9 S o (gR9 S o) j1 j2 d1 d2 kf sf ad ck rf vf lf qf of vl pv) m = x_SA S m := upS_n hne
    rw [e]; exact hr
  · have e : x_SA (nK9 S (gR9 S o) j1 j2 d1 d2 kf sf ad ck rf vf lf qf of vl pv tl) m = x_SA S m := upS_n (by omega)
    rw [e]; exact hr
