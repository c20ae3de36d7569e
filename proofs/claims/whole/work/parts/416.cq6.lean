set_option maxHeartbeats 4000000 in
set_option maxRecDepth 100000 in
theorem cRce9y (l : Launch) (dC : Nat → ClassId) (dI : Nat → Nat → Nat) (S : CX9) (ld : Nat) (zs kd vx rr li : Nat → Nat) (vv : Nat → Int32) (t i o j : Nat) (hO : OkC9 ld zs kd vx rr li vv S) (ht : t < x_T S) (hi : i < x_pg S 0 t) (ho : o < x_T S) (hj : j < x_pg S 0 o) (hne : t ≠ o) (sz : Nat) : Met l y_OM_race w_OM_race ({ frames := 84, cells := mcR9 S 0, slots := msR9 S 0, locals := 4200 }) (va_Pc [.ref (x_oa S), .int (nI t), .int (nI i), .int (nI o), .int (nI j)] (SW9 dC dI S sz)) (va_Qi (fun (r : Int32) (S2 : CX9) => sRn9 S 0 S2 ∧ r = nI (x_rc S2 (x_pg S 1 (t * 7 + i)) / 2 ^ (x_pg S 1 (o * 7 + j)) % 2)) (fun S2 t9 => PW9 l dC dI S sz S2 t9) (va_A (cw9 S) sz)) (mcR9 S 0) (msR9 S 0) (va_A (cw9 S) sz) := by
  refine Met.ofW (cc := b_OM_race) (maxL := 7) (ret := (some .int)) (by decide) rfl ?_
  intro p e0 s m9 args below meth c s₁ B hml hv
  obtain ⟨rfl, hsz, hP, hK, hD0, hn⟩ := hv
  have hx := B.exec
  have hb := B.bytes
  have hr := B.returns
  have hw := fun w (h : w ∈ wt) => atoms_spec (ws := w_OM_race) B.pre w (List.mem_cons_of_mem _ h)
  have hown : s.vm.findClass R_OM = some m9.cls := findClass_of_methodNamed B.named
  have hlocks := B.notSynchronized
  subst hsz
  have hD := hD0.self (sz := s.heap.size)
  have hA : ∀ q : Nat, s.heap.size ≤ q → va_A (cw9 S) s.heap.size q := fun q h => Or.inr h
  clear hD0
  have hS : va_S (va_A (cw9 S) s.heap.size) s.heap s.heap [] := va_S.rf
  have hl := lv_entry ([.ref (x_oa S), .int (nI t), .int (nI i), .int (nI o), .int (nI j)]) (n := 7) (Nat.le_of_ble_eq_true rfl)
  rw [lg_entry_eq]
  generalize (lg_sl ([.ref (x_oa S), .int (nI t), .int (nI i), .int (nI o), .int (nI j)]) ++ List.replicate (7 - (lg_sl ([.ref (x_oa S), .int (nI t), .int (nI i), .int (nI o), .int (nI j)])).length) Slot.unset).toArray = ls at hl ⊢
  replace hl : lv_has ls 7 [(0, .ref (x_oa S)), (1, .int (nI t)), (2, .int (nI i)), (3, .int (nI o)), (4, .int (nI j))] := hl
  have hP1 := hO.1.1
  have hT4 := hP1.1
  have hl7 := hP1.2.2.1
  have hA7 := hP1.2.1
  have hi7 := hl7 t ht
  have hj7 := hl7 o ho
  have hgA := (hP1.2.2.2.1 t i ht hi).1
  have hgB := (hP1.2.2.2.1 o j ho hj).1
  clear hP1
  refine lv_aload_n hx hb d_OM_race_0 rfl (lv_at hl 0 rfl) ?_
  refine va_get (D := (dC, dI)) (ci := 7) (v := .ref (x_pa S)) (C := R_OM) (T := F_OM) (N := 6) hx hb hw i_OM hown hK hP 0 rfl rfl 0 (by decide) (hw _ m_408) (fun _ h9 => h9) rfl d_OM_race_1 ?_
  refine lv_iload_n hx hb d_OM_race_4 rfl (lv_at hl 1 rfl) ?_
  refine lv_iload_n hx hb d_OM_race_5 rfl (lv_at hl 2 rfl) ?_
  have hFc := oF9 hD hS hA
  refine va_calli (va_runV (As := [.int (nI t), .int (nI i)]) (rest := []) ⟨hx, hb, hml, hown, hw⟩ (cIdA9 l dC dI S (nI t) (nI i) hT4 hl7 s.heap.size) (cw_V 2 hw g_Program_idAt rfl rfl rfl (hw _ m_102) (hw _ m_886) (hw _ m_540) (hw _ m_541) (by decide +kernel) ⟨by show _ ≤ (84 : Nat); (try dsimp only); omega, by show _ ≤ (4200 : Nat); (try dsimp only); omega⟩) ⟨fun a U g mk q => by obtain ⟨q0, q1, qP, qK, qD, qN⟩ := q; exact ⟨q0, q1, qP, va_K.moved (u := U) (U := U.calling g mk a) (Vm.Alike.refl U.vm) qK, qD, nw_call qN⟩, va_recv hK hP (ci := 0) (q0 := 29) rfl rfl, fun U hU hW => ⟨rfl, by rw [hU], by rw [hU]; exact hP, va_K.moved hW.alike hK, hD.weaken (fun _ _ _ _ => trivial), nw_warm hW hn⟩⟩ rfl rfl hl.1 rfl (lv_room (Nat.le_of_ble_eq_true rfl)) d_OM_race_6 ⟨by show _ ≤ (mcR9 S 0 : Nat); (try dsimp only); omega, by show _ ≤ (msR9 S 0 : Nat); (try dsimp only); omega⟩) hS (fun q _ h => hFc q h) hFc ?_
  intro r_1 u t9 H1 locs1 ht9 hvm hw1 hB hz1 hk1 hS1
  obtain ⟨hPn, hKn, hDn⟩ := oN9 hK hFc hB ht9 hvm
  clear hB hz1 hk1 hFc hvm ht9 hP hS hK hD t9
  have hP := hPn
  have hK := hKn
  have hD := hDn
  clear hPn hKn hDn
  revert H1 locs1
  intro H locs hS hP
  refine tp_i (y := nI (x_pg S 1 (t * 7 + i))) (by rw [hw1, if_pos ⟨nI_pos (by omega), by rw [nI_clamp (by omega)]; exact ht, nI_pos (by omega), by rw [nI_clamp (by omega), nI_clamp (by omega)]; exact hi⟩, nI_clamp (by omega), nI_clamp (by omega)]) ?_
  refine tp_pc (pc' := 9) (by rfl) ?_
  refine lv_istore (lv' := [(5, .int (nI (x_pg S 1 (t * 7 + i)))), (0, .ref (x_oa S)), (1, .int (nI t)), (2, .int (nI i)), (3, .int (nI o)), (4, .int (nI j))]) hx hb d_OM_race_9 hl (by decide) rfl ?_
  clear hl ls
  intro ls hl
  refine lv_aload_n hx hb d_OM_race_11 rfl (lv_at hl 1 rfl) ?_
  refine va_get (D := (dC, dI)) (ci := 7) (v := .ref (x_pa S)) (C := R_OM) (T := F_OM) (N := 6) hx hb hw i_OM hown hK hP 0 rfl rfl 0 (by decide) (hw _ m_408) (fun _ h9 => h9) rfl d_OM_race_12 ?_
  refine lv_iload_n hx hb d_OM_race_15 rfl (lv_at hl 4 rfl) ?_
  refine lv_iload hx hb d_OM_race_16 (lv_at hl 5 rfl) ?_
  have hFc := oF9 hD hS hA
  refine va_calli (va_runV (As := [.int (nI o), .int (nI j)]) (rest := []) ⟨hx, hb, hml, hown, hw⟩ (cIdA9 l dC dI S (nI o) (nI j) hT4 hl7 H.size) (cw_V 2 hw g_Program_idAt rfl rfl rfl (hw _ m_102) (hw _ m_886) (hw _ m_540) (hw _ m_541) (by decide +kernel) ⟨by show _ ≤ (84 : Nat); (try dsimp only); omega, by show _ ≤ (4200 : Nat); (try dsimp only); omega⟩) ⟨fun a U g mk q => by obtain ⟨q0, q1, qP, qK, qD, qN⟩ := q; exact ⟨q0, q1, qP, va_K.moved (u := U) (U := U.calling g mk a) (Vm.Alike.refl U.vm) qK, qD, nw_call qN⟩, va_recv hK hP (ci := 0) (q0 := 29) rfl rfl, fun U hU hW => ⟨rfl, by rw [hU], by rw [hU]; exact hP, va_K.moved hW.alike hK, hD.weaken (fun _ _ _ _ => trivial), nw_warm hW hn⟩⟩ rfl rfl hl.1 rfl (lv_room (Nat.le_of_ble_eq_true rfl)) d_OM_race_18 ⟨by show _ ≤ (mcR9 S 0 : Nat); (try dsimp only); omega, by show _ ≤ (msR9 S 0 : Nat); (try dsimp only); omega⟩) hS (fun q _ h => hFc q h) hFc ?_
  intro r_2 u t9 H1 locs1 ht9 hvm hw1 hB hz1 hk1 hS1
  obtain ⟨hPn, hKn, hDn⟩ := oN9 hK hFc hB ht9 hvm
  clear hB hz1 hk1 hFc hvm ht9 hP hS hK hD t9 locs H
  have hP := hPn
  have hK := hKn
  have hD := hDn
  clear hPn hKn hDn
  revert H1 locs1
  intro H locs hS hP
  refine tp_i (y := nI (x_pg S 1 (o * 7 + j))) (by rw [hw1, if_pos ⟨nI_pos (by omega), by rw [nI_clamp (by omega)]; exact ho, nI_pos (by omega), by rw [nI_clamp (by omega), nI_clamp (by omega)]; exact hj⟩, nI_clamp (by omega), nI_clamp (by omega)]) ?_
  refine tp_pc (pc' := 21) (by rfl) ?_
  refine lv_istore (lv' := [(6, .int (nI (x_pg S 1 (o * 7 + j)))), (5, .int (nI (x_pg S 1 (t * 7 + i)))), (0, .ref (x_oa S)), (1, .int (nI t)), (2, .int (nI i)), (3, .int (nI o)), (4, .int (nI j))]) hx hb d_OM_race_21 hl (by decide) rfl ?_
  clear hl ls
  intro ls hl
  refine lv_iload hx hb d_OM_race_23 (lv_at hl 1 rfl) ?_
  refine lv_iconst (v := (-1)) hx hb d_OM_race_25 (by decide) ?_
  refine lv_icmp_eq (tgt := 40) hx hb d_OM_race_26 (by decide) (fun c9 => absurd c9 (nI_m1 _ (by omega))) (fun c9 => ?_)
  refine tp_pc (pc' := 29) (by rfl) ?_
  refine lv_iload hx hb d_OM_race_29 (lv_at hl 0 rfl) ?_
  refine lv_iconst (v := (-1)) hx hb d_OM_race_31 (by decide) ?_
  refine lv_icmp_eq (tgt := 40) hx hb d_OM_race_32 (by decide) (fun c9 => absurd c9 (nI_m1 _ (by omega))) (fun c9 => ?_)
  refine tp_pc (pc' := 35) (by rfl) ?_
  refine lv_iload_n hx hb d_OM_race_35 rfl (lv_at hl 3 rfl) ?_
  refine lv_iload_n hx hb d_OM_race_36 rfl (lv_at hl 5 rfl) ?_
  refine lv_icmp_ne (tgt := 42) hx hb d_OM_race_37 (by decide) (fun c9 => ?_) (fun c9 => absurd ((nI_eq (a := t) (b := o) (by omega) (by omega)).mp c9) hne)
  refine tp_pc (pc' := 42) (by rfl) ?_
  refine lv_aload_n hx hb d_OM_race_42 rfl (lv_at hl 2 rfl) ?_
  refine lv_iconst (v := 0) hx hb d_OM_race_43 (by decide) ?_
  refine tp_i (y := nI 0) (rfl) ?_
  have hFc := oF9 hD hS hA
  refine va_callr (va_runV (As := [.int (nI 0)]) (rest := []) ⟨hx, hb, hml, hown, hw⟩ (FR9 l dC dI S 0 (by decide) (ok_B9 hO) H.size) (cw_V 1 hw g_OM_foundByRuns rfl rfl rfl (hw _ m_101) (hw _ m_468) (hw _ m_470) (hw _ m_1) (by decide +kernel) ⟨by show _ ≤ (84 : Nat); (try dsimp only); omega, by show _ ≤ (4200 : Nat); (try dsimp only); omega⟩) ⟨fun a U g mk q => by obtain ⟨q0, q1, qP, qK, qD, qN⟩ := q; exact ⟨q0, q1, qP, va_K.moved (u := U) (U := U.calling g mk a) (Vm.Alike.refl U.vm) qK, qD, nw_call qN⟩, va_recv hK hP (ci := 7) (q0 := 0) rfl rfl, fun U hU hW => ⟨rfl, by rw [hU], by rw [hU]; exact hP, va_K.moved hW.alike hK, hD.weaken (fun _ _ _ _ => trivial), nw_warm hW hn⟩⟩ rfl rfl hl.1 rfl (lv_room (Nat.le_of_ble_eq_true rfl)) d_OM_race_44 ⟨by show _ ≤ (mcR9 S 0 : Nat); (try dsimp only); omega, by show _ ≤ (msR9 S 0 : Nat); (try dsimp only); omega⟩) hS (fun q _ h => hFc q h) hFc ?_
  intro u r_3 t9 H1 locs1 ht9 hvm hw1 hB hz1 hk1 hS1
  obtain ⟨S2, hra, hst, hB⟩ := hB
  obtain ⟨hPn, hKn, hDn⟩ := oN9 hK hFc hB ht9 hvm
  clear hB hz1 hk1 hFc hvm ht9 hP hS hK hD t9 locs H
  have hP := hPn
  have hK := hKn
  have hD := hDn
  clear hPn hKn hDn
  revert H1 locs1
  intro H locs hS hP
  refine tp_r (y := (x_fA S2 0)) (by rw [(stR_f hst).1]; exact hra) ?_
  obtain ⟨hO2, hr2, -, -, -, -, -, -⟩ := sRn_ok hO (by decide) hst
  have hrc := hO2.2.2.2.1
  have ho9 := (stR_f hst).2
  rw [← ho9] at hl
  replace hl : lv_has ls 7 [(6, .int (nI (x_pg S 1 (o * 7 + j)))), (5, .int (nI (x_pg S 1 (t * 7 + i)))), (0, .ref (x_oa S2)), (1, .int (nI t)), (2, .int (nI i)), (3, .int (nI o)), (4, .int (nI j))] := hl
  have hb8 := hrc (x_pg S 1 (t * 7 + i))
  refine tp_pc (pc' := 47) (by rfl) ?_
  refine lv_pop hx hb d_OM_race_47 rfl ?_
  refine lv_aload_n hx hb d_OM_race_48 rfl (lv_at hl 2 rfl) ?_
  refine va_get (D := (dC, dI)) (ci := 7) (v := .ref (x_ba S2)) (C := R_OM) (T := F_OM) (N := 6) hx hb hw i_OM hown hK hP 0 rfl rfl 1 (by decide) (hw _ m_409) (fun _ h9 => h9) rfl d_OM_race_49 ?_
  refine va_get (D := (dC, dI)) (ci := 4) (v := .ref (x_b2 S2)) (C := R_BufferWalk) (T := F_BufferWalk) (N := 9) hx hb hw i_BufferWalk hown hK hP 3 rfl rfl 4 (by decide) (hw _ m_255) (fun _ h9 => h9) rfl d_OM_race_52 ?_
  refine lv_iload hx hb d_OM_race_55 (lv_at hl 1 rfl) ?_
  refine va_iald (D := (dC, dI)) hx hb hK hP 5 3 rfl rfl (i := nI (x_pg S 1 (t * 7 + i))) (pk_in (x_pg S 1 (t * 7 + i)) 7 (by omega)) d_OM_race_57 ?_
  refine tp_i (y := nI ((x_rc S2) (x_pg S 1 (t * 7 + i)))) (by rw [show (nI (x_pg S 1 (t * 7 + i)) : Int32).toNatClampNeg = x_pg S 1 (t * 7 + i) from pk_cl (x_pg S 1 (t * 7 + i))]) ?_
  refine lv_iload hx hb d_OM_race_58 (lv_at hl 0 rfl) ?_
  have hP0 : va_P (dC, dI) classes [] H := fun k q h => absurd h (by simp)
  have hK0 := hK.sub (tys' := []) [] rfl
  have hFc : ∀ q, va_A ([] : va_W) H.size q → va_A (cw9 S) s.heap.size q := fun q h => h.elim (fun ⟨k, e, w⟩ => absurd w (by simp)) (fun w => hA q (Nat.le_trans hS.1 w))
  refine va_calli (va_runS (As := [.int (nI ((x_rc S2) (x_pg S 1 (t * 7 + i)))), .int (nI (x_pg S 1 (o * 7 + j)))]) (rest := []) ⟨hx, hb, hml, hown, hw⟩ (gen_isIn l dC dI (x_rc S2 (x_pg S 1 (t * 7 + i))) (x_pg S 1 (o * 7 + j)) (by omega) (by omega) H.size) (cw_S 2 hw g_OM_isIn rfl rfl rfl (hw _ m_101) (hw _ m_887) (hw _ m_560) (by decide +kernel) ⟨by show _ ≤ (84 : Nat); (try dsimp only); omega, by show _ ≤ (4200 : Nat); (try dsimp only); omega⟩) ⟨fun a U g mk q => by obtain ⟨q0, q1, qP, qK, qD, qN⟩ := q; exact ⟨q0, q1, qP, va_K.moved (u := U) (U := U.calling g mk a) (Vm.Alike.refl U.vm) qK, qD, nw_call qN⟩, fun U hU hW => ⟨rfl, by rw [hU], by rw [hU]; exact hP0, va_K.moved hW.alike hK0, vD0, nw_warm hW hn⟩⟩ rfl rfl hl.1 rfl (lv_room (Nat.le_of_ble_eq_true rfl)) d_OM_race_60 ⟨by show _ ≤ (mcR9 S 0 : Nat); (try dsimp only); omega, by show _ ≤ (msR9 S 0 : Nat); (try dsimp only); omega⟩) hS (fun q _ h => hFc q h) hFc ?_
  intro r_4 u t9 H1 locs1 ht9 hvm hw1 hB hz1 hk1 hS1
  have hPn : va_P (dC, dI) classes (cw9 S2) H1 := hP.kept (fun k q hk => hk1 q.1 (hP k q hk).lt (fun z => z.elim (fun ⟨k2, e, w⟩ => absurd w (by simp)) (fun w => absurd (hP k q hk).lt (Nat.not_lt.mpr w))))
  clear hB hz1 hk1 hFc hvm ht9 hP hS t9 hP0 hK0 locs H
  have hP := hPn
  clear hPn
  revert H1 locs1
  intro H locs hS hP
  refine tp_i (y := nI (x_rc S2 (x_pg S 1 (t * 7 + i)) / 2 ^ (x_pg S 1 (o * 7 + j)) % 2)) (hw1) ?_
  refine tp_pc (pc' := 63) (by rfl) ?_
  have hbit : x_rc S2 (x_pg S 1 (t * 7 + i)) / 2 ^ (x_pg S 1 (o * 7 + j)) % 2 = 0 ∨ x_rc S2 (x_pg S 1 (t * 7 + i)) / 2 ^ (x_pg S 1 (o * 7 + j)) % 2 = 1 := by omega
  rcases hbit with hb0 | hb1
  · skip
    rw [hb0]
    refine tp_i (y := 0) rfl ?_
    refine lv_if_eq (tgt := 70) hx hb d_OM_race_63 (by decide) (fun c_5 => ?_) (fun c_5 => absurd c_5 (by decide))
    refine tp_pc (pc' := 70) (by rfl) ?_
    refine lv_iconst (v := 0) hx hb d_OM_race_70 (by decide) ?_
    refine tp_i (y := nI (x_rc S2 (x_pg S 1 (t * 7 + i)) / 2 ^ (x_pg S 1 (o * 7 + j)) % 2)) (by rw [hb0]; rfl) ?_
    refine W.widen (k := mcR9 S 0) (n := msR9 S 0) (by omega) (by omega) ?_
    exact W.iret (v := (nI (x_rc S2 (x_pg S 1 (t * 7 + i)) / 2 ^ (x_pg S 1 (o * 7 + j)) % 2))) hx hb hr (fun t9 ht9 hW => ⟨⟨nI (x_rc S2 (x_pg S 1 (t * 7 + i)) / 2 ^ (x_pg S 1 (o * 7 + j)) % 2), S2, rfl, ⟨hst, rfl⟩, by rw [ht9]; exact hP, ⟨ct9 S2, va_K.moved hW.alike hK, fun q h => Or.inr h⟩, hD⟩, hS.F ht9⟩) hS.2.2 d_OM_race_71
  · skip
    rw [hb1]
    refine tp_i (y := 1) rfl ?_
    refine lv_if_eq (tgt := 70) hx hb d_OM_race_63 (by decide) (fun c_6 => absurd c_6 (by decide)) (fun c_6 => ?_)
    refine tp_pc (pc' := 66) (by rfl) ?_
    refine lv_iconst (v := 1) hx hb d_OM_race_66 (by decide) ?_
    refine lv_goto (tgt := 71) hx hb d_OM_race_67 (by decide) ?_
    refine tp_pc (pc' := 71) (by rfl) ?_
    refine tp_i (y := nI (x_rc S2 (x_pg S 1 (t * 7 + i)) / 2 ^ (x_pg S 1 (o * 7 + j)) % 2)) (by rw [hb1]; rfl) ?_
    refine W.widen (k := mcR9 S 0) (n := msR9 S 0) (by omega) (by omega) ?_
    exact W.iret (v := (nI (x_rc S2 (x_pg S 1 (t * 7 + i)) / 2 ^ (x_pg S 1 (o * 7 + j)) % 2))) hx hb hr (fun t9 ht9 hW => ⟨⟨nI (x_rc S2 (x_pg S 1 (t * 7 + i)) / 2 ^ (x_pg S 1 (o * 7 + j)) % 2), S2, rfl, ⟨hst, rfl⟩, by rw [ht9]; exact hP, ⟨ct9 S2, va_K.moved hW.alike hK, fun q h => Or.inr h⟩, hD⟩, hS.F ht9⟩) hS.2.2 d_OM_race_71
