set_option maxHeartbeats 4000000 in
set_option maxRecDepth 100000 in
theorem cIdA9 (l : Launch) (dC : Nat → ClassId) (dI : Nat → Nat → Nat) (S : CX9) (t9x i9 : Int32) (hT : x_T S ≤ 4) (hl7 : ∀ t, t < x_T S → x_pg S 0 t ≤ 7) (sz : Nat) : Met l y_Program_idAt w_Program_idAt ({ frames := 0, cells := 0, slots := 0, locals := 0 }) (va_Pc [.ref (x_pa S), .int t9x, .int i9] (SW9 dC dI S sz)) (va_Qi (fun (r : Int32) (_ : Unit) => r = if ¬ t9x < 0 ∧ t9x.toNatClampNeg < x_T S ∧ ¬ i9 < 0 ∧ i9.toNatClampNeg < x_pg S 0 t9x.toNatClampNeg then nI (x_pg S 1 (t9x.toNatClampNeg * 7 + i9.toNatClampNeg)) else -1) (fun _ t9 => PW9 l dC dI S sz S t9) (va_A (cw9 S) sz)) 0 0 (va_A (cw9 S) sz) := by
  have hCw : ([29, 30, 31] : List Nat).map (fun i => (cw9 S)[i]?) = ([oc (x_pa S) 0 [.ref ((x_pA S) 0), .ref ((x_pA S) 1), .ref ((x_pA S) 2), .ref ((x_pA S) 3), .ref ((x_pA S) 4), .ref ((x_pA S) 5), .ref ((x_pA S) 6), .ref ((x_pA S) 7), .ref ((x_pA S) 8), .ref ((x_pA S) 9), .ref ((x_pA S) 10), .int (nI (x_T S)), .int (nI (x_Ac S))], ia ((x_pA S) 0) ((x_pK S) 0) 4 (fun i => nI ((x_pg S 0) i)), ia ((x_pA S) 1) ((x_pK S) 1) 28 (fun i => nI ((x_pg S 1) i))] : va_W).map some := rfl
  exact Met_ro (S := S) (gen_Program_idAt_any l dC dI (x_pa S) (x_pA S) (x_pK S) (x_T S) (x_Ac S) (x_pg S) (x_nm S) t9x i9 hT hl7 sz) [29, 30, 31] [24, 25] (by decide +kernel) hCw rfl
/-- an action's place on the class's side -/
def isA9 (S : CX9) (t9x i9 : Int32) : Prop := ¬ t9x < 0 ∧ t9x.toNatClampNeg < x_T S ∧ ¬ i9 < 0 ∧ i9.toNatClampNeg < x_pg S 0 t9x.toNatClampNeg
set_option maxHeartbeats 4000000 in
set_option maxRecDepth 100000 in
theorem cRce9n (l : Launch) (dC : Nat → ClassId) (dI : Nat → Nat → Nat) (S : CX9) (ld : Nat) (zs kd vx rr li : Nat → Nat) (vv : Nat → Int32) (ta ia tb ib : Int32) (hO : OkC9 ld zs kd vx rr li vv S) (hno : ¬ (isA9 S ta ia ∧ isA9 S tb ib ∧ ta ≠ tb)) (sz : Nat) : Met l y_OM_race w_OM_race ({ frames := 2, cells := 0, slots := 0, locals := 100 }) (va_Pc [.ref (x_oa S), .int ta, .int ia, .int tb, .int ib] (SW9 dC dI S sz)) (va_Qi (fun (r : Int32) (S2 : CX9) => S2 = S ∧ r = -1) (fun S2 t9 => PW9 l dC dI S sz S2 t9) (va_A (cw9 S) sz)) (0) (0) (va_A (cw9 S) sz) := by
  refine Met.ofW (cc := b_OM_race) (maxL := 7) (ret := (some .int)) (by decide) rfl ?_
  intro p e0 s m9 args below meth c s₁ B hml hv
  obtain ⟨rfl, hsz, hP, hK, hD0, hn⟩ := hv
  have hx := B.exec
  have hb := B.bytes
  have hr := B.returns
  have hw := fun w (h : w ∈ wt) => atoms_spec (ws := w_OM_race) B.pre w (List.mem_cons_of_mem _ h)
  have hown : s.vm.findClass R_OM = some m9.cls := findClass_of_methodNamed B.named
  have hlocks := B.notSynchronized
  subst hsz
  have hD := hD0.self (sz := s.heap.size)
  have hA : ∀ q : Nat, s.heap.size ≤ q → va_A (cw9 S) s.heap.size q := fun q h => Or.inr h
  clear hD0
  have hS : va_S (va_A (cw9 S) s.heap.size) s.heap s.heap [] := va_S.rf
  have hl := lv_entry ([.ref (x_oa S), .int ta, .int ia, .int tb, .int ib]) (n := 7) (Nat.le_of_ble_eq_true rfl)
  rw [lg_entry_eq]
  generalize (lg_sl ([.ref (x_oa S), .int ta, .int ia, .int tb, .int ib]) ++ List.replicate (7 - (lg_sl ([.ref (x_oa S), .int ta, .int ia, .int tb, .int ib])).length) Slot.unset).toArray = ls at hl ⊢
  replace hl : lv_has ls 7 [(0, .ref (x_oa S)), (1, .int ta), (2, .int ia), (3, .int tb), (4, .int ib)] := hl
  have hP1 := hO.1.1
  have hT4 := hP1.1
  have hl7 := hP1.2.2.1
  have hA7 := hP1.2.1
  have hpA := hP1.2.2.2.1
  clear hP1
  refine lv_aload_n hx hb d_OM_race_0 rfl (lv_at hl 0 rfl) ?_
  refine va_get (D := (dC, dI)) (ci := 7) (v := .ref (x_pa S)) (C := R_OM) (T := F_OM) (N := 6) hx hb hw i_OM hown hK hP 0 rfl rfl 0 (by decide) (hw _ m_408) (fun _ h9 => h9) rfl d_OM_race_1 ?_
  refine lv_iload_n hx hb d_OM_race_4 rfl (lv_at hl 1 rfl) ?_
  refine lv_iload_n hx hb d_OM_race_5 rfl (lv_at hl 2 rfl) ?_
  by_cases cA : ¬ ta < 0 ∧ ta.toNatClampNeg < x_T S ∧ ¬ ia < 0 ∧ ia.toNatClampNeg < x_pg S 0 ta.toNatClampNeg
  · skip
    have hFc := oF9 hD hS hA
    refine va_calli (va_runV (As := [.int ta, .int ia]) (rest := []) ⟨hx, hb, hml, hown, hw⟩ (cIdA9 l dC dI S ta ia hT4 hl7 s.heap.size) (cw_V 2 hw g_Program_idAt rfl rfl rfl (hw _ m_102) (hw _ m_886) (hw _ m_540) (hw _ m_541) (by decide +kernel) ⟨by show _ ≤ (2 : Nat); (try dsimp only); omega, by show _ ≤ (100 : Nat); (try dsimp only); omega⟩) ⟨fun a U g mk q => by obtain ⟨q0, q1, qP, qK, qD, qN⟩ := q; exact ⟨q0, q1, qP, va_K.moved (u := U) (U := U.calling g mk a) (Vm.Alike.refl U.vm) qK, qD, nw_call qN⟩, va_recv hK hP (ci := 0) (q0 := 29) rfl rfl, fun U hU hW => ⟨rfl, by rw [hU], by rw [hU]; exact hP, va_K.moved hW.alike hK, hD.weaken (fun _ _ _ _ => trivial), nw_warm hW hn⟩⟩ rfl rfl hl.1 rfl (lv_room (Nat.le_of_ble_eq_true rfl)) d_OM_race_6 ⟨by show _ ≤ (0 : Nat); (try dsimp only); omega, by show _ ≤ (0 : Nat); (try dsimp only); omega⟩) hS (fun q _ h => hFc q h) hFc ?_
    intro r_1 u t9 H1 locs1 ht9 hvm hw1 hB hz1 hk1 hS1
    obtain ⟨hPn, hKn, hDn⟩ := oN9 hK hFc hB ht9 hvm
    clear hB hz1 hk1 hFc hvm ht9 hP hS hK hD t9
    have hP := hPn
    have hK := hKn
    have hD := hDn
    clear hPn hKn hDn
    revert H1 locs1
    intro H locs hS hP
    refine tp_i (y := nI (x_pg S 1 (ta.toNatClampNeg * 7 + ia.toNatClampNeg))) (by rw [hw1, if_pos cA]) ?_
    refine tp_pc (pc' := 9) (by rfl) ?_
    refine lv_istore (lv' := [(5, .int (nI (x_pg S 1 (ta.toNatClampNeg * 7 + ia.toNatClampNeg)))), (0, .ref (x_oa S)), (1, .int ta), (2, .int ia), (3, .int tb), (4, .int ib)]) hx hb d_OM_race_9 hl (by decide) rfl ?_
    clear hl ls
    intro ls hl
    refine lv_aload_n hx hb d_OM_race_11 rfl (lv_at hl 1 rfl) ?_
    refine va_get (D := (dC, dI)) (ci := 7) (v := .ref (x_pa S)) (C := R_OM) (T := F_OM) (N := 6) hx hb hw i_OM hown hK hP 0 rfl rfl 0 (by decide) (hw _ m_408) (fun _ h9 => h9) rfl d_OM_race_12 ?_
    refine lv_iload_n hx hb d_OM_race_15 rfl (lv_at hl 4 rfl) ?_
    refine lv_iload hx hb d_OM_race_16 (lv_at hl 5 rfl) ?_
    have hgA := hpA _ _ cA.2.1 cA.2.2.2
    by_cases cB : ¬ tb < 0 ∧ tb.toNatClampNeg < x_T S ∧ ¬ ib < 0 ∧ ib.toNatClampNeg < x_pg S 0 tb.toNatClampNeg
    · skip
      have hFc := oF9 hD hS hA
      refine va_calli (va_runV (As := [.int tb, .int ib]) (rest := []) ⟨hx, hb, hml, hown, hw⟩ (cIdA9 l dC dI S tb ib hT4 hl7 H.size) (cw_V 2 hw g_Program_idAt rfl rfl rfl (hw _ m_102) (hw _ m_886) (hw _ m_540) (hw _ m_541) (by decide +kernel) ⟨by show _ ≤ (2 : Nat); (try dsimp only); omega, by show _ ≤ (100 : Nat); (try dsimp only); omega⟩) ⟨fun a U g mk q => by obtain ⟨q0, q1, qP, qK, qD, qN⟩ := q; exact ⟨q0, q1, qP, va_K.moved (u := U) (U := U.calling g mk a) (Vm.Alike.refl U.vm) qK, qD, nw_call qN⟩, va_recv hK hP (ci := 0) (q0 := 29) rfl rfl, fun U hU hW => ⟨rfl, by rw [hU], by rw [hU]; exact hP, va_K.moved hW.alike hK, hD.weaken (fun _ _ _ _ => trivial), nw_warm hW hn⟩⟩ rfl rfl hl.1 rfl (lv_room (Nat.le_of_ble_eq_true rfl)) d_OM_race_18 ⟨by show _ ≤ (0 : Nat); (try dsimp only); omega, by show _ ≤ (0 : Nat); (try dsimp only); omega⟩) hS (fun q _ h => hFc q h) hFc ?_
      intro r_2 u t9 H1 locs1 ht9 hvm hw1 hB hz1 hk1 hS1
      obtain ⟨hPn, hKn, hDn⟩ := oN9 hK hFc hB ht9 hvm
      clear hB hz1 hk1 hFc hvm ht9 hP hS hK hD t9 locs H
      have hP := hPn
      have hK := hKn
      have hD := hDn
      clear hPn hKn hDn
      revert H1 locs1
      intro H locs hS hP
      refine tp_i (y := nI (x_pg S 1 (tb.toNatClampNeg * 7 + ib.toNatClampNeg))) (by rw [hw1, if_pos cB]) ?_
      refine tp_pc (pc' := 21) (by rfl) ?_
      refine lv_istore (lv' := [(6, .int (nI (x_pg S 1 (tb.toNatClampNeg * 7 + ib.toNatClampNeg)))), (5, .int (nI (x_pg S 1 (ta.toNatClampNeg * 7 + ia.toNatClampNeg)))), (0, .ref (x_oa S)), (1, .int ta), (2, .int ia), (3, .int tb), (4, .int ib)]) hx hb d_OM_race_21 hl (by decide) rfl ?_
      clear hl ls
      intro ls hl
      refine lv_iload hx hb d_OM_race_23 (lv_at hl 1 rfl) ?_
      refine lv_iconst (v := (-1)) hx hb d_OM_race_25 (by decide) ?_
      refine lv_icmp_eq (tgt := 40) hx hb d_OM_race_26 (by decide) (fun c9 => absurd c9 (nI_m1 _ (by omega))) (fun c9 => ?_)
      refine tp_pc (pc' := 29) (by rfl) ?_
      refine lv_iload hx hb d_OM_race_29 (lv_at hl 0 rfl) ?_
      refine lv_iconst (v := (-1)) hx hb d_OM_race_31 (by decide) ?_
      have hgB := hpA _ _ cB.2.1 cB.2.2.2
      refine lv_icmp_eq (tgt := 40) hx hb d_OM_race_32 (by decide) (fun c9 => absurd c9 (nI_m1 _ (by omega))) (fun c9 => ?_)
      refine tp_pc (pc' := 35) (by rfl) ?_
      refine lv_iload_n hx hb d_OM_race_35 rfl (lv_at hl 3 rfl) ?_
      refine lv_iload_n hx hb d_OM_race_36 rfl (lv_at hl 5 rfl) ?_
      refine lv_icmp_ne (tgt := 42) hx hb d_OM_race_37 (by decide) (fun c9 => absurd ⟨cA, cB, c9⟩ hno) (fun c9 => ?_)
      refine tp_pc (pc' := 40) (by rfl) ?_
      refine lv_iconst (v := (-1)) hx hb d_OM_race_40 (by decide) ?_
      refine W.widen (k := 0) (n := 0) (by omega) (by omega) ?_
      exact W.iret (v := (-1)) hx hb hr (fun t9 ht9 hW => ⟨⟨(-1), S, rfl, ⟨rfl, rfl⟩, by rw [ht9]; exact hP, ⟨ct9 S, va_K.moved hW.alike hK, fun q h => Or.inr h⟩, hD⟩, hS.F ht9⟩) hS.2.2 d_OM_race_41
    · skip
      have hFc := oF9 hD hS hA
      refine va_calli (va_runV (As := [.int tb, .int ib]) (rest := []) ⟨hx, hb, hml, hown, hw⟩ (cIdA9 l dC dI S tb ib hT4 hl7 H.size) (cw_V 2 hw g_Program_idAt rfl rfl rfl (hw _ m_102) (hw _ m_886) (hw _ m_540) (hw _ m_541) (by decide +kernel) ⟨by show _ ≤ (2 : Nat); (try dsimp only); omega, by show _ ≤ (100 : Nat); (try dsimp only); omega⟩) ⟨fun a U g mk q => by obtain ⟨q0, q1, qP, qK, qD, qN⟩ := q; exact ⟨q0, q1, qP, va_K.moved (u := U) (U := U.calling g mk a) (Vm.Alike.refl U.vm) qK, qD, nw_call qN⟩, va_recv hK hP (ci := 0) (q0 := 29) rfl rfl, fun U hU hW => ⟨rfl, by rw [hU], by rw [hU]; exact hP, va_K.moved hW.alike hK, hD.weaken (fun _ _ _ _ => trivial), nw_warm hW hn⟩⟩ rfl rfl hl.1 rfl (lv_room (Nat.le_of_ble_eq_true rfl)) d_OM_race_18 ⟨by show _ ≤ (0 : Nat); (try dsimp only); omega, by show _ ≤ (0 : Nat); (try dsimp only); omega⟩) hS (fun q _ h => hFc q h) hFc ?_
      intro r_3 u t9 H1 locs1 ht9 hvm hw1 hB hz1 hk1 hS1
      obtain ⟨hPn, hKn, hDn⟩ := oN9 hK hFc hB ht9 hvm
      clear hB hz1 hk1 hFc hvm ht9 hP hS hK hD t9 locs H
      have hP := hPn
      have hK := hKn
      have hD := hDn
      clear hPn hKn hDn
      revert H1 locs1
      intro H locs hS hP
      refine tp_i (y := (-1)) (by rw [hw1, if_neg cB]) ?_
      refine tp_pc (pc' := 21) (by rfl) ?_
      refine lv_istore (lv' := [(6, .int (-1)), (5, .int (nI (x_pg S 1 (ta.toNatClampNeg * 7 + ia.toNatClampNeg)))), (0, .ref (x_oa S)), (1, .int ta), (2, .int ia), (3, .int tb), (4, .int ib)]) hx hb d_OM_race_21 hl (by decide) rfl ?_
      clear hl ls
      intro ls hl
      refine lv_iload hx hb d_OM_race_23 (lv_at hl 1 rfl) ?_
      refine lv_iconst (v := (-1)) hx hb d_OM_race_25 (by decide) ?_
      refine lv_icmp_eq (tgt := 40) hx hb d_OM_race_26 (by decide) (fun c9 => absurd c9 (nI_m1 _ (by omega))) (fun c9 => ?_)
      refine tp_pc (pc' := 29) (by rfl) ?_
      refine lv_iload hx hb d_OM_race_29 (lv_at hl 0 rfl) ?_
      refine lv_iconst (v := (-1)) hx hb d_OM_race_31 (by decide) ?_
      refine lv_icmp_eq (tgt := 40) hx hb d_OM_race_32 (by decide) (fun c_4 => ?_) (fun c_4 => absurd c_4 (by decide))
      refine tp_pc (pc' := 40) (by rfl) ?_
      refine lv_iconst (v := (-1)) hx hb d_OM_race_40 (by decide) ?_
      refine W.widen (k := 0) (n := 0) (by omega) (by omega) ?_
      exact W.iret (v := (-1)) hx hb hr (fun t9 ht9 hW => ⟨⟨(-1), S, rfl, ⟨rfl, rfl⟩, by rw [ht9]; exact hP, ⟨ct9 S, va_K.moved hW.alike hK, fun q h => Or.inr h⟩, hD⟩, hS.F ht9⟩) hS.2.2 d_OM_race_41
  · skip
    have hFc := oF9 hD hS hA
    refine va_calli (va_runV (As := [.int ta, .int ia]) (rest := []) ⟨hx, hb, hml, hown, hw⟩ (cIdA9 l dC dI S ta ia hT4 hl7 s.heap.size) (cw_V 2 hw g_Program_idAt rfl rfl rfl (hw _ m_102) (hw _ m_886) (hw _ m_540) (hw _ m_541) (by decide +kernel) ⟨by show _ ≤ (2 : Nat); (try dsimp only); omega, by show _ ≤ (100 : Nat); (try dsimp only); omega⟩) ⟨fun a U g mk q => by obtain ⟨q0, q1, qP, qK, qD, qN⟩ := q; exact ⟨q0, q1, qP, va_K.moved (u := U) (U := U.calling g mk a) (Vm.Alike.refl U.vm) qK, qD, nw_call qN⟩, va_recv hK hP (ci := 0) (q0 := 29) rfl rfl, fun U hU hW => ⟨rfl, by rw [hU], by rw [hU]; exact hP, va_K.moved hW.alike hK, hD.weaken (fun _ _ _ _ => trivial), nw_warm hW hn⟩⟩ rfl rfl hl.1 rfl (lv_room (Nat.le_of_ble_eq_true rfl)) d_OM_race_6 ⟨by show _ ≤ (0 : Nat); (try dsimp only); omega, by show _ ≤ (0 : Nat); (try dsimp only); omega⟩) hS (fun q _ h => hFc q h) hFc ?_
    intro r_5 u t9 H1 locs1 ht9 hvm hw1 hB hz1 hk1 hS1
    obtain ⟨hPn, hKn, hDn⟩ := oN9 hK hFc hB ht9 hvm
    clear hB hz1 hk1 hFc hvm ht9 hP hS hK hD t9
    have hP := hPn
    have hK := hKn
    have hD := hDn
    clear hPn hKn hDn
    revert H1 locs1
    intro H locs hS hP
    refine tp_i (y := (-1)) (by rw [hw1, if_neg cA]) ?_
    refine tp_pc (pc' := 9) (by rfl) ?_
    refine lv_istore (lv' := [(5, .int (-1)), (0, .ref (x_oa S)), (1, .int ta), (2, .int ia), (3, .int tb), (4, .int ib)]) hx hb d_OM_race_9 hl (by decide) rfl ?_
    clear hl ls
    intro ls hl
    refine lv_aload_n hx hb d_OM_race_11 rfl (lv_at hl 1 rfl) ?_
    refine va_get (D := (dC, dI)) (ci := 7) (v := .ref (x_pa S)) (C := R_OM) (T := F_OM) (N := 6) hx hb hw i_OM hown hK hP 0 rfl rfl 0 (by decide) (hw _ m_408) (fun _ h9 => h9) rfl d_OM_race_12 ?_
    refine lv_iload_n hx hb d_OM_race_15 rfl (lv_at hl 4 rfl) ?_
    refine lv_iload hx hb d_OM_race_16 (lv_at hl 5 rfl) ?_
    have hFc := oF9 hD hS hA
    refine va_calli (va_runV (As := [.int tb, .int ib]) (rest := []) ⟨hx, hb, hml, hown, hw⟩ (cIdA9 l dC dI S tb ib hT4 hl7 H.size) (cw_V 2 hw g_Program_idAt rfl rfl rfl (hw _ m_102) (hw _ m_886) (hw _ m_540) (hw _ m_541) (by decide +kernel) ⟨by show _ ≤ (2 : Nat); (try dsimp only); omega, by show _ ≤ (100 : Nat); (try dsimp only); omega⟩) ⟨fun a U g mk q => by obtain ⟨q0, q1, qP, qK, qD, qN⟩ := q; exact ⟨q0, q1, qP, va_K.moved (u := U) (U := U.calling g mk a) (Vm.Alike.refl U.vm) qK, qD, nw_call qN⟩, va_recv hK hP (ci := 0) (q0 := 29) rfl rfl, fun U hU hW => ⟨rfl, by rw [hU], by rw [hU]; exact hP, va_K.moved hW.alike hK, hD.weaken (fun _ _ _ _ => trivial), nw_warm hW hn⟩⟩ rfl rfl hl.1 rfl (lv_room (Nat.le_of_ble_eq_true rfl)) d_OM_race_18 ⟨by show _ ≤ (0 : Nat); (try dsimp only); omega, by show _ ≤ (0 : Nat); (try dsimp only); omega⟩) hS (fun q _ h => hFc q h) hFc ?_
    intro r_6 u t9 H1 locs1 ht9 hvm hw1 hB hz1 hk1 hS1
    obtain ⟨hPn, hKn, hDn⟩ := oN9 hK hFc hB ht9 hvm
    clear hB hz1 hk1 hFc hvm ht9 hP hS hK hD t9 locs H
    have hP := hPn
    have hK := hKn
    have hD := hDn
    clear hPn hKn hDn
    revert H1 locs1
    intro H locs hS hP
    refine tp_pc (pc' := 21) (by rfl) ?_
    refine lv_istore (lv' := [(6, .int r_6), (5, .int (-1)), (0, .ref (x_oa S)), (1, .int ta), (2, .int ia), (3, .int tb), (4, .int ib)]) hx hb d_OM_race_21 hl (by decide) rfl ?_
    clear hl ls
    intro ls hl
    refine lv_iload hx hb d_OM_race_23 (lv_at hl 1 rfl) ?_
    refine lv_iconst (v := (-1)) hx hb d_OM_race_25 (by decide) ?_
    refine lv_icmp_eq (tgt := 40) hx hb d_OM_race_26 (by decide) (fun c_7 => ?_) (fun c_7 => absurd c_7 (by decide))
    refine tp_pc (pc' := 40) (by rfl) ?_
    refine lv_iconst (v := (-1)) hx hb d_OM_race_40 (by decide) ?_
    refine W.widen (k := 0) (n := 0) (by omega) (by omega) ?_
    exact W.iret (v := (-1)) hx hb hr (fun t9 ht9 hW => ⟨⟨(-1), S, rfl, ⟨rfl, rfl⟩, by rw [ht9]; exact hP, ⟨ct9 S, va_K.moved hW.alike hK, fun q h => Or.inr h⟩, hD⟩, hS.F ht9⟩) hS.2.2 d_OM_race_41
