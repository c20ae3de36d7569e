set_option maxHeartbeats 4000000 in
set_option maxRecDepth 100000 in
theorem cOut9 (l : Launch) (dC : Nat → ClassId) (dI : Nat → Nat → Nat) (S : CX9) (ld : Nat) (zs kd vx rr li : Nat → Nat) (vv : Nat → Int32) (m : Nat) (i9 w9 : Int32) (hm : m < 4) (hO : OkC9 ld zs kd vx rr li vv S) (sz : Nat) : Met l y_OM_outcome w_OM_outcome ({ frames := 84, cells := mcR9 S m, slots := msR9 S m, locals := 4200 }) (va_Pc [.ref (x_oa S), .int (nI m), .int i9, .int w9] (SW9 dC dI S sz)) (va_Qi (fun (r : Int32) (S2 : CX9) => sRn9 S m S2 ∧ r = valX9 (x_SA S2 m) i9 w9) (fun S2 t9 => PW9 l dC dI S sz S2 t9) (va_A (cw9 S) sz)) (mcR9 S m) (msR9 S m) (va_A (cw9 S) sz) := by
  refine Met.ofW (cc := b_OM_outcome) (maxL := 4) (ret := (some .int)) (by decide) rfl ?_
  intro p e0 s m9 args below meth c s₁ B hml hv
  obtain ⟨rfl, hsz, hP, hK, hD0, hn⟩ := hv
  have hx := B.exec
  have hb := B.bytes
  have hr := B.returns
  have hw := fun w (h : w ∈ wt) => atoms_spec (ws := w_OM_outcome) B.pre w (List.mem_cons_of_mem _ h)
  have hown : s.vm.findClass R_OM = some m9.cls := findClass_of_methodNamed B.named
  have hlocks := B.notSynchronized
  subst hsz
  have hD := hD0.self (sz := s.heap.size)
  have hA : ∀ q : Nat, s.heap.size ≤ q → va_A (cw9 S) s.heap.size q := fun q h => Or.inr h
  clear hD0
  have hS : va_S (va_A (cw9 S) s.heap.size) s.heap s.heap [] := va_S.rf
  have hl := lv_entry ([.ref (x_oa S), .int (nI m), .int i9, .int w9]) (n := 4) (Nat.le_of_ble_eq_true rfl)
  rw [lg_entry_eq]
  generalize (lg_sl ([.ref (x_oa S), .int (nI m), .int i9, .int w9]) ++ List.replicate (4 - (lg_sl ([.ref (x_oa S), .int (nI m), .int i9, .int w9])).length) Slot.unset).toArray = ls at hl ⊢
  replace hl : lv_has ls 4 [(0, .ref (x_oa S)), (1, .int (nI m)), (2, .int i9), (3, .int w9)] := hl
  refine lv_iload_n hx hb d_OM_outcome_0 rfl (lv_at hl 1 rfl) ?_
  have hP0 : va_P (dC, dI) classes [] s.heap := fun k q h => absurd h (by simp)
  have hK0 := hK.sub (tys' := []) [] rfl
  have hFc : ∀ q, va_A ([] : va_W) s.heap.size q → va_A (cw9 S) s.heap.size q := fun q h => h.elim (fun ⟨k, e, w⟩ => absurd w (by simp)) (fun w => hA q (Nat.le_trans hS.1 w))
  refine va_calli (va_runS (As := [.int (nI m)]) (rest := []) ⟨hx, hb, hml, hown, hw⟩ (gen_OM_isModel l dC dI (nI m) s.heap.size) (cw_S 1 hw g_OM_isModel rfl rfl rfl (hw _ m_101) (hw _ m_465) (hw _ m_466) (by decide +kernel) ⟨by show _ ≤ (84 : Nat); (try dsimp only); omega, by show _ ≤ (4200 : Nat); (try dsimp only); omega⟩) ⟨fun a U g mk q => by obtain ⟨q0, q1, qP, qK, qD, qN⟩ := q; exact ⟨q0, q1, qP, va_K.moved (u := U) (U := U.calling g mk a) (Vm.Alike.refl U.vm) qK, qD, nw_call qN⟩, fun U hU hW => ⟨rfl, by rw [hU], by rw [hU]; exact hP0, va_K.moved hW.alike hK0, vD0, nw_warm hW hn⟩⟩ rfl rfl hl.1 rfl (lv_room (Nat.le_of_ble_eq_true rfl)) d_OM_outcome_1 ⟨by show _ ≤ (mcR9 S m : Nat); (try dsimp only); omega, by show _ ≤ (msR9 S m : Nat); (try dsimp only); omega⟩) hS (fun q _ h => hFc q h) hFc ?_
  intro r_1 u t9 H1 locs1 ht9 hvm hw1 hB hz1 hk1 hS1
  have hPn : va_P (dC, dI) classes (cw9 S) H1 := hP.kept (fun k q hk => hk1 q.1 (hP k q hk).lt (fun z => z.elim (fun ⟨k2, e, w⟩ => absurd w (by simp)) (fun w => absurd (hP k q hk).lt (Nat.not_lt.mpr w))))
  clear hB hz1 hk1 hFc hvm ht9 hP hS t9 hP0 hK0
  have hP := hPn
  clear hPn
  revert H1 locs1
  intro H locs hS hP
  refine tp_i (y := 1) (by rw [hw1, if_pos ⟨nI_pos (by omega), by rw [nI_clamp (by omega)]; exact hm⟩]) ?_
  refine tp_pc (pc' := 4) (by rfl) ?_
  refine lv_if_eq (tgt := 20) hx hb d_OM_outcome_4 (by decide) (fun c_2 => absurd c_2 (by decide)) (fun c_2 => ?_)
  refine tp_pc (pc' := 7) (by rfl) ?_
  refine lv_aload_n hx hb d_OM_outcome_7 rfl (lv_at hl 0 rfl) ?_
  refine lv_iload_n hx hb d_OM_outcome_8 rfl (lv_at hl 1 rfl) ?_
  have hFc := oF9 hD hS hA
  refine va_callr (va_runV (As := [.int (nI m)]) (rest := []) ⟨hx, hb, hml, hown, hw⟩ (FR9 l dC dI S m hm (ok_B9 hO) H.size) (cw_V 1 hw g_OM_foundByRuns rfl rfl rfl (hw _ m_101) (hw _ m_468) (hw _ m_470) (hw _ m_1) (by decide +kernel) ⟨by show _ ≤ (84 : Nat); (try dsimp only); omega, by show _ ≤ (4200 : Nat); (try dsimp only); omega⟩) ⟨fun a U g mk q => by obtain ⟨q0, q1, qP, qK, qD, qN⟩ := q; exact ⟨q0, q1, qP, va_K.moved (u := U) (U := U.calling g mk a) (Vm.Alike.refl U.vm) qK, qD, nw_call qN⟩, va_recv hK hP (ci := 7) (q0 := 0) rfl rfl, fun U hU hW => ⟨rfl, by rw [hU], by rw [hU]; exact hP, va_K.moved hW.alike hK, hD.weaken (fun _ _ _ _ => trivial), nw_warm hW hn⟩⟩ rfl rfl hl.1 rfl (lv_room (Nat.le_of_ble_eq_true rfl)) d_OM_outcome_9 ⟨by show _ ≤ (mcR9 S m : Nat); (try dsimp only); omega, by show _ ≤ (msR9 S m : Nat); (try dsimp only); omega⟩) hS (fun q _ h => hFc q h) hFc ?_
  intro u r_3 t9 H1 locs1 ht9 hvm hw1 hB hz1 hk1 hS1
  obtain ⟨S2, hra, hst, hB⟩ := hB
  obtain ⟨hPn, hKn, hDn⟩ := oN9 hK hFc hB ht9 hvm
  clear hB hz1 hk1 hFc hvm ht9 hP hS hK hD t9 locs H
  have hP := hPn
  have hK := hKn
  have hD := hDn
  clear hPn hKn hDn
  revert H1 locs1
  intro H locs hS hP
  refine tp_r (y := (x_fA S2 m)) (by rw [(stR_f hst).1]; exact hra) ?_
  obtain ⟨hO2, hr2, -, -, -, -, -, -⟩ := sRn_ok hO hm hst
  have hE2 : o_E (x_SA S2 m) ≤ 16 := by have h9 := (hO2.2.2.2.2.2.2.2.2.2.1 m hm).1.2.1; rw [h9]; split <;> omega
  have hRd := RuS_R hE2 ((hO2.2.2.2.2.2.2.2.2.2.1 m hm).1.2.2.2 hr2)
  refine tp_pc (pc' := 12) (by rfl) ?_
  refine lv_iload_n hx hb d_OM_outcome_12 rfl (lv_at hl 2 rfl) ?_
  refine lv_iload_n hx hb d_OM_outcome_13 rfl (lv_at hl 3 rfl) ?_
  have hFc := oF9 hD hS hA
  refine va_calli (va_runV (As := [.int i9, .int w9]) (rest := []) ⟨hx, hb, hml, hown, hw⟩ (cVal9A l dC dI S2 m i9 w9 hm hE2 hRd.1 H.size) (cw_V 2 hw g_OutcomeSet_valueOf rfl rfl rfl (hw _ m_108) (hw _ m_720) (hw _ m_721) (hw _ m_722) (by decide +kernel) ⟨by show _ ≤ (84 : Nat); (try dsimp only); omega, by show _ ≤ (4200 : Nat); (try dsimp only); omega⟩) ⟨fun a U g mk q => by obtain ⟨q0, q1, qP, qK, qD, qN⟩ := q; exact ⟨q0, q1, qP, va_K.moved (u := U) (U := U.calling g mk a) (Vm.Alike.refl U.vm) qK, qD, nw_call qN⟩, va_recv hK hP (ci := 3) (q0 := 44 + 6 * m) rfl (sAt9 hm), fun U hU hW => ⟨rfl, by rw [hU], by rw [hU]; exact hP, va_K.moved hW.alike hK, hD.weaken (fun _ _ _ _ => trivial), nw_warm hW hn⟩⟩ rfl rfl hl.1 rfl (lv_room (Nat.le_of_ble_eq_true rfl)) d_OM_outcome_14 ⟨by show _ ≤ (mcR9 S m : Nat); (try dsimp only); omega, by show _ ≤ (msR9 S m : Nat); (try dsimp only); omega⟩) hS (fun q _ h => hFc q h) hFc ?_
  intro r_4 u t9 H1 locs1 ht9 hvm hw1 hB hz1 hk1 hS1
  obtain ⟨hPn, hKn, hDn⟩ := oN9 hK hFc hB ht9 hvm
  clear hB hz1 hk1 hFc hvm ht9 hP hS hK hD t9 locs H
  have hP := hPn
  have hK := hKn
  have hD := hDn
  clear hPn hKn hDn
  revert H1 locs1
  intro H locs hS hP
  refine tp_i (y := valX9 (x_SA S2 m) i9 w9) (hw1) ?_
  refine tp_pc (pc' := 17) (by rfl) ?_
  refine lv_goto (tgt := 23) hx hb d_OM_outcome_17 (by decide) ?_
  refine tp_pc (pc' := 23) (by rfl) ?_
  refine W.widen (k := mcR9 S m) (n := msR9 S m) (by omega) (by omega) ?_
  exact W.iret (v := (valX9 (x_SA S2 m) i9 w9)) hx hb hr (fun t9 ht9 hW => ⟨⟨valX9 (x_SA S2 m) i9 w9, S2, rfl, ⟨hst, rfl⟩, by rw [ht9]; exact hP, ⟨ct9 S2, va_K.moved hW.alike hK, fun q h => Or.inr h⟩, hD⟩, hS.F ht9⟩) hS.2.2 d_OM_outcome_23
set_option maxHeartbeats 4000000 in
set_option maxRecDepth 100000 in
theorem cWit9 (l : Launch) (dC : Nat → ClassId) (dI : Nat → Nat → Nat) (S : CX9) (ld : Nat) (zs kd vx rr li : Nat → Nat) (vv : Nat → Int32) (m : Nat) (i9 w9 : Int32) (hm : m < 4) (hO : OkC9 ld zs kd vx rr li vv S) (sz : Nat) : Met l y_OM_witness w_OM_witness ({ frames := 84, cells := mcR9 S m, slots := msR9 S m, locals := 4200 }) (va_Pc [.ref (x_oa S), .int (nI m), .int i9, .int w9] (SW9 dC dI S sz)) (va_Qi (fun (r : Int32) (S2 : CX9) => sRn9 S m S2 ∧ r = stpX9 (x_SA S2 m) i9 w9) (fun S2 t9 => PW9 l dC dI S sz S2 t9) (va_A (cw9 S) sz)) (mcR9 S m) (msR9 S m) (va_A (cw9 S) sz) := by
  refine Met.ofW (cc := b_OM_witness) (maxL := 4) (ret := (some .int)) (by decide) rfl ?_
  intro p e0 s m9 args below meth c s₁ B hml hv
  obtain ⟨rfl, hsz, hP, hK, hD0, hn⟩ := hv
  have hx := B.exec
  have hb := B.bytes
  have hr := B.returns
  have hw := fun w (h : w ∈ wt) => atoms_spec (ws := w_OM_witness) B.pre w (List.mem_cons_of_mem _ h)
  have hown : s.vm.findClass R_OM = some m9.cls := findClass_of_methodNamed B.named
  have hlocks := B.notSynchronized
  subst hsz
  have hD := hD0.self (sz := s.heap.size)
  have hA : ∀ q : Nat, s.heap.size ≤ q → va_A (cw9 S) s.heap.size q := fun q h => Or.inr h
  clear hD0
  have hS : va_S (va_A (cw9 S) s.heap.size) s.heap s.heap [] := va_S.rf
  have hl := lv_entry ([.ref (x_oa S), .int (nI m), .int i9, .int w9]) (n := 4) (Nat.le_of_ble_eq_true rfl)
  rw [lg_entry_eq]
  generalize (lg_sl ([.ref (x_oa S), .int (nI m), .int i9, .int w9]) ++ List.replicate (4 - (lg_sl ([.ref (x_oa S), .int (nI m), .int i9, .int w9])).length) Slot.unset).toArray = ls at hl ⊢
  replace hl : lv_has ls 4 [(0, .ref (x_oa S)), (1, .int (nI m)), (2, .int i9), (3, .int w9)] := hl
  refine lv_iload_n hx hb d_OM_witness_0 rfl (lv_at hl 1 rfl) ?_
  have hP0 : va_P (dC, dI) classes [] s.heap := fun k q h => absurd h (by simp)
  have hK0 := hK.sub (tys' := []) [] rfl
  have hFc : ∀ q, va_A ([] : va_W) s.heap.size q → va_A (cw9 S) s.heap.size q := fun q h => h.elim (fun ⟨k, e, w⟩ => absurd w (by simp)) (fun w => hA q (Nat.le_trans hS.1 w))
  refine va_calli (va_runS (As := [.int (nI m)]) (rest := []) ⟨hx, hb, hml, hown, hw⟩ (gen_OM_isModel l dC dI (nI m) s.heap.size) (cw_S 1 hw g_OM_isModel rfl rfl rfl (hw _ m_101) (hw _ m_465) (hw _ m_466) (by decide +kernel) ⟨by show _ ≤ (84 : Nat); (try dsimp only); omega, by show _ ≤ (4200 : Nat); (try dsimp only); omega⟩) ⟨fun a U g mk q => by obtain ⟨q0, q1, qP, qK, qD, qN⟩ := q; exact ⟨q0, q1, qP, va_K.moved (u := U) (U := U.calling g mk a) (Vm.Alike.refl U.vm) qK, qD, nw_call qN⟩, fun U hU hW => ⟨rfl, by rw [hU], by rw [hU]; exact hP0, va_K.moved hW.alike hK0, vD0, nw_warm hW hn⟩⟩ rfl rfl hl.1 rfl (lv_room (Nat.le_of_ble_eq_true rfl)) d_OM_witness_1 ⟨by show _ ≤ (mcR9 S m : Nat); (try dsimp only); omega, by show _ ≤ (msR9 S m : Nat); (try dsimp only); omega⟩) hS (fun q _ h => hFc q h) hFc ?_
  intro r_1 u t9 H1 locs1 ht9 hvm hw1 hB hz1 hk1 hS1
  have hPn : va_P (dC, dI) classes (cw9 S) H1 := hP.kept (fun k q hk => hk1 q.1 (hP k q hk).lt (fun z => z.elim (fun ⟨k2, e, w⟩ => absurd w (by simp)) (fun w => absurd (hP k q hk).lt (Nat.not_lt.mpr w))))
  clear hB hz1 hk1 hFc hvm ht9 hP hS t9 hP0 hK0
  have hP := hPn
  clear hPn
  revert H1 locs1
  intro H locs hS hP
  refine tp_i (y := 1) (by rw [hw1, if_pos ⟨nI_pos (by omega), by rw [nI_clamp (by omega)]; exact hm⟩]) ?_
  refine tp_pc (pc' := 4) (by rfl) ?_
  refine lv_if_eq (tgt := 20) hx hb d_OM_witness_4 (by decide) (fun c_2 => absurd c_2 (by decide)) (fun c_2 => ?_)
  refine tp_pc (pc' := 7) (by rfl) ?_
  refine lv_aload_n hx hb d_OM_witness_7 rfl (lv_at hl 0 rfl) ?_
  refine lv_iload_n hx hb d_OM_witness_8 rfl (lv_at hl 1 rfl) ?_
  have hFc := oF9 hD hS hA
  refine va_callr (va_runV (As := [.int (nI m)]) (rest := []) ⟨hx, hb, hml, hown, hw⟩ (FR9 l dC dI S m hm (ok_B9 hO) H.size) (cw_V 1 hw g_OM_foundByRuns rfl rfl rfl (hw _ m_101) (hw _ m_468) (hw _ m_470) (hw _ m_1) (by decide +kernel) ⟨by show _ ≤ (84 : Nat); (try dsimp only); omega, by show _ ≤ (4200 : Nat); (try dsimp only); omega⟩) ⟨fun a U g mk q => by obtain ⟨q0, q1, qP, qK, qD, qN⟩ := q; exact ⟨q0, q1, qP, va_K.moved (u := U) (U := U.calling g mk a) (Vm.Alike.refl U.vm) qK, qD, nw_call qN⟩, va_recv hK hP (ci := 7) (q0 := 0) rfl rfl, fun U hU hW => ⟨rfl, by rw [hU], by rw [hU]; exact hP, va_K.moved hW.alike hK, hD.weaken (fun _ _ _ _ => trivial), nw_warm hW hn⟩⟩ rfl rfl hl.1 rfl (lv_room (Nat.le_of_ble_eq_true rfl)) d_OM_witness_9 ⟨by show _ ≤ (mcR9 S m : Nat); (try dsimp only); omega, by show _ ≤ (msR9 S m : Nat); (try dsimp only); omega⟩) hS (fun q _ h => hFc q h) hFc ?_
  intro u r_3 t9 H1 locs1 ht9 hvm hw1 hB hz1 hk1 hS1
  obtain ⟨S2, hra, hst, hB⟩ := hB
  obtain ⟨hPn, hKn, hDn⟩ := oN9 hK hFc hB ht9 hvm
  clear hB hz1 hk1 hFc hvm ht9 hP hS hK hD t9 locs H
  have hP := hPn
  have hK := hKn
  have hD := hDn
  clear hPn hKn hDn
  revert H1 locs1
  intro H locs hS hP
  refine tp_r (y := (x_fA S2 m)) (by rw [(stR_f hst).1]; exact hra) ?_
  obtain ⟨hO2, hr2, -, -, -, -, -, -⟩ := sRn_ok hO hm hst
  have hE2 : o_E (x_SA S2 m) ≤ 16 := by have h9 := (hO2.2.2.2.2.2.2.2.2.2.1 m hm).1.2.1; rw [h9]; split <;> omega
  have hRd := RuS_R hE2 ((hO2.2.2.2.2.2.2.2.2.2.1 m hm).1.2.2.2 hr2)
  refine tp_pc (pc' := 12) (by rfl) ?_
  refine lv_iload_n hx hb d_OM_witness_12 rfl (lv_at hl 2 rfl) ?_
  refine lv_iload_n hx hb d_OM_witness_13 rfl (lv_at hl 3 rfl) ?_
  have hFc := oF9 hD hS hA
  refine va_calli (va_runV (As := [.int i9, .int w9]) (rest := []) ⟨hx, hb, hml, hown, hw⟩ (cStp9A l dC dI S2 m i9 w9 hm hE2 hRd.1 hRd.2 H.size) (cw_V 2 hw g_OutcomeSet_stepOf rfl rfl rfl (hw _ m_108) (hw _ m_729) (hw _ m_730) (hw _ m_731) (by decide +kernel) ⟨by show _ ≤ (84 : Nat); (try dsimp only); omega, by show _ ≤ (4200 : Nat); (try dsimp only); omega⟩) ⟨fun a U g mk q => by obtain ⟨q0, q1, qP, qK, qD, qN⟩ := q; exact ⟨q0, q1, qP, va_K.moved (u := U) (U := U.calling g mk a) (Vm.Alike.refl U.vm) qK, qD, nw_call qN⟩, va_recv hK hP (ci := 3) (q0 := 44 + 6 * m) rfl (sAt9 hm), fun U hU hW => ⟨rfl, by rw [hU], by rw [hU]; exact hP, va_K.moved hW.alike hK, hD.weaken (fun _ _ _ _ => trivial), nw_warm hW hn⟩⟩ rfl rfl hl.1 rfl (lv_room (Nat.le_of_ble_eq_true rfl)) d_OM_witness_14 ⟨by show _ ≤ (mcR9 S m : Nat); (try dsimp only); omega, by show _ ≤ (msR9 S m : Nat); (try dsimp only); omega⟩) hS (fun q _ h => hFc q h) hFc ?_
  intro r_4 u t9 H1 locs1 ht9 hvm hw1 hB hz1 hk1 hS1
  obtain ⟨hPn, hKn, hDn⟩ := oN9 hK hFc hB ht9 hvm
  clear hB hz1 hk1 hFc hvm ht9 hP hS hK hD t9 locs H
  have hP := hPn
  have hK := hKn
  have hD := hDn
  clear hPn hKn hDn
  revert H1 locs1
  intro H locs hS hP
  refine tp_i (y := stpX9 (x_SA S2 m) i9 w9) (hw1) ?_
  refine tp_pc (pc' := 17) (by rfl) ?_
  refine lv_goto (tgt := 21) hx hb d_OM_witness_17 (by decide) ?_
  refine tp_pc (pc' := 21) (by rfl) ?_
  refine W.widen (k := mcR9 S m) (n := msR9 S m) (by omega) (by omega) ?_
  exact W.iret (v := (stpX9 (x_SA S2 m) i9 w9)) hx hb hr (fun t9 ht9 hW => ⟨⟨stpX9 (x_SA S2 m) i9 w9, S2, rfl, ⟨hst, rfl⟩, by rw [ht9]; exact hP, ⟨ct9 S2, va_K.moved hW.alike hK, fun q h => Or.inr h⟩, hD⟩, hS.F ht9⟩) hS.2.2 d_OM_witness_21
set_option maxHeartbeats 4000000 in
set_option maxRecDepth 100000 in
theorem cOrd9 (l : Launch) (dC : Nat → ClassId) (dI : Nat → Nat → Nat) (S : CX9) (ld : Nat) (zs kd vx rr li : Nat → Nat) (vv : Nat → Int32) (m : Nat) (i9 w9 : Int32) (hm : m < 4) (hO : OkC9 ld zs kd vx rr li vv S) (sz : Nat) : Met l y_OM_ordered w_OM_ordered ({ frames := 104, cells := mcG9 S m, slots := msG9 S m, locals := 5200 }) (va_Pc [.ref (x_oa S), .int (nI m), .int i9, .int w9] (SW9 dC dI S sz)) (va_Qi (fun (r : Int32) (S2 : CX9) => sGn9 S m S2 ∧ r = valX9 (x_SB S2 m) i9 w9) (fun S2 t9 => PW9 l dC dI S sz S2 t9) (va_A (cw9 S) sz)) (mcG9 S m) (msG9 S m) (va_A (cw9 S) sz) := by
  refine Met.ofW (cc := b_OM_ordered) (maxL := 4) (ret := (some .int)) (by decide) rfl ?_
  intro p e0 s m9 args below meth c s₁ B hml hv
  obtain ⟨rfl, hsz, hP, hK, hD0, hn⟩ := hv
  have hx := B.exec
  have hb := B.bytes
  have hr := B.returns
  have hw := fun w (h : w ∈ wt) => atoms_spec (ws := w_OM_ordered) B.pre w (List.mem_cons_of_mem _ h)
  have hown : s.vm.findClass R_OM = some m9.cls := findClass_of_methodNamed B.named
  have hlocks := B.notSynchronized
  subst hsz
  have hD := hD0.self (sz := s.heap.size)
  have hA : ∀ q : Nat, s.heap.size ≤ q → va_A (cw9 S) s.heap.size q := fun q h => Or.inr h
  clear hD0
  have hS : va_S (va_A (cw9 S) s.heap.size) s.heap s.heap [] := va_S.rf
  have hl := lv_entry ([.ref (x_oa S), .int (nI m), .int i9, .int w9]) (n := 4) (Nat.le_of_ble_eq_true rfl)
  rw [lg_entry_eq]
  generalize (lg_sl ([.ref (x_oa S), .int (nI m), .int i9, .int w9]) ++ List.replicate (4 - (lg_sl ([.ref (x_oa S), .int (nI m), .int i9, .int w9])).length) Slot.unset).toArray = ls at hl ⊢
  replace hl : lv_has ls 4 [(0, .ref (x_oa S)), (1, .int (nI m)), (2, .int i9), (3, .int w9)] := hl
  refine lv_iload_n hx hb d_OM_ordered_0 rfl (lv_at hl 1 rfl) ?_
  have hP0 : va_P (dC, dI) classes [] s.heap := fun k q h => absurd h (by simp)
  have hK0 := hK.sub (tys' := []) [] rfl
  have hFc : ∀ q, va_A ([] : va_W) s.heap.size q → va_A (cw9 S) s.heap.size q := fun q h => h.elim (fun ⟨k, e, w⟩ => absurd w (by simp)) (fun w => hA q (Nat.le_trans hS.1 w))
  refine va_calli (va_runS (As := [.int (nI m)]) (rest := []) ⟨hx, hb, hml, hown, hw⟩ (gen_OM_isModel l dC dI (nI m) s.heap.size) (cw_S 1 hw g_OM_isModel rfl rfl rfl (hw _ m_101) (hw _ m_465) (hw _ m_466) (by decide +kernel) ⟨by show _ ≤ (104 : Nat); (try dsimp only); omega, by show _ ≤ (5200 : Nat); (try dsimp only); omega⟩) ⟨fun a U g mk q => by obtain ⟨q0, q1, qP, qK, qD, qN⟩ := q; exact ⟨q0, q1, qP, va_K.moved (u := U) (U := U.calling g mk a) (Vm.Alike.refl U.vm) qK, qD, nw_call qN⟩, fun U hU hW => ⟨rfl, by rw [hU], by rw [hU]; exact hP0, va_K.moved hW.alike hK0, vD0, nw_warm hW hn⟩⟩ rfl rfl hl.1 rfl (lv_room (Nat.le_of_ble_eq_true rfl)) d_OM_ordered_1 ⟨by show _ ≤ (mcG9 S m : Nat); (try dsimp only); omega, by show _ ≤ (msG9 S m : Nat); (try dsimp only); omega⟩) hS (fun q _ h => hFc q h) hFc ?_
  intro r_1 u t9 H1 locs1 ht9 hvm hw1 hB hz1 hk1 hS1
  have hPn : va_P (dC, dI) classes (cw9 S) H1 := hP.kept (fun k q hk => hk1 q.1 (hP k q hk).lt (fun z => z.elim (fun ⟨k2, e, w⟩ => absurd w (by simp)) (fun w => absurd (hP k q hk).lt (Nat.not_lt.mpr w))))
  clear hB hz1 hk1 hFc hvm ht9 hP hS t9 hP0 hK0
  have hP := hPn
  clear hPn
  revert H1 locs1
  intro H locs hS hP
  refine tp_i (y := 1) (by rw [hw1, if_pos ⟨nI_pos (by omega), by rw [nI_clamp (by omega)]; exact hm⟩]) ?_
  refine tp_pc (pc' := 4) (by rfl) ?_
  refine lv_if_eq (tgt := 20) hx hb d_OM_ordered_4 (by decide) (fun c_2 => absurd c_2 (by decide)) (fun c_2 => ?_)
  refine tp_pc (pc' := 7) (by rfl) ?_
  refine lv_aload_n hx hb d_OM_ordered_7 rfl (lv_at hl 0 rfl) ?_
  refine lv_iload_n hx hb d_OM_ordered_8 rfl (lv_at hl 1 rfl) ?_
  have hFc := oF9 hD hS hA
  refine va_callr (va_runV (As := [.int (nI m)]) (rest := []) ⟨hx, hb, hml, hown, hw⟩ (FG9 l dC dI S m hm (ok_B9 hO) H.size) (cw_V 1 hw g_OM_foundByGraphs rfl rfl rfl (hw _ m_101) (hw _ m_737) (hw _ m_739) (hw _ m_30) (by decide +kernel) ⟨by show _ ≤ (104 : Nat); (try dsimp only); omega, by show _ ≤ (5200 : Nat); (try dsimp only); omega⟩) ⟨fun a U g mk q => by obtain ⟨q0, q1, qP, qK, qD, qN⟩ := q; exact ⟨q0, q1, qP, va_K.moved (u := U) (U := U.calling g mk a) (Vm.Alike.refl U.vm) qK, qD, nw_call qN⟩, va_recv hK hP (ci := 7) (q0 := 0) rfl rfl, fun U hU hW => ⟨rfl, by rw [hU], by rw [hU]; exact hP, va_K.moved hW.alike hK, hD.weaken (fun _ _ _ _ => trivial), nw_warm hW hn⟩⟩ rfl rfl hl.1 rfl (lv_room (Nat.le_of_ble_eq_true rfl)) d_OM_ordered_9 ⟨by show _ ≤ (mcG9 S m : Nat); (try dsimp only); omega, by show _ ≤ (msG9 S m : Nat); (try dsimp only); omega⟩) hS (fun q _ h => hFc q h) hFc ?_
  intro u r_3 t9 H1 locs1 ht9 hvm hw1 hB hz1 hk1 hS1
  obtain ⟨S2, hra, hst, hB⟩ := hB
  obtain ⟨hPn, hKn, hDn⟩ := oN9 hK hFc hB ht9 hvm
  clear hB hz1 hk1 hFc hvm ht9 hP hS hK hD t9 locs H
  have hP := hPn
  have hK := hKn
  have hD := hDn
  clear hPn hKn hDn
  revert H1 locs1
  intro H locs hS hP
  refine tp_r (y := (x_fB S2 m)) (by rw [(stG_f hst).1]; exact hra) ?_
  obtain ⟨hO2, hr2, -, -, -, -, -, -⟩ := sGn_ok hO hm hst
  have hE2 : o_E (x_SB S2 m) ≤ 16 := by have h9 := (hO2.2.2.2.2.2.2.2.2.2.1 m hm).2.2.1; omega
  have hRd := GrS_R ((hO2.2.2.2.2.2.2.2.2.2.1 m hm).2.2.2.2 hr2)
  refine tp_pc (pc' := 12) (by rfl) ?_
  refine lv_iload_n hx hb d_OM_ordered_12 rfl (lv_at hl 2 rfl) ?_
  refine lv_iload_n hx hb d_OM_ordered_13 rfl (lv_at hl 3 rfl) ?_
  have hFc := oF9 hD hS hA
  refine va_calli (va_runV (As := [.int i9, .int w9]) (rest := []) ⟨hx, hb, hml, hown, hw⟩ (cVal9B l dC dI S2 m i9 w9 hm hE2 hRd H.size) (cw_V 2 hw g_OutcomeSet_valueOf rfl rfl rfl (hw _ m_108) (hw _ m_720) (hw _ m_721) (hw _ m_722) (by decide +kernel) ⟨by show _ ≤ (104 : Nat); (try dsimp only); omega, by show _ ≤ (5200 : Nat); (try dsimp only); omega⟩) ⟨fun a U g mk q => by obtain ⟨q0, q1, qP, qK, qD, qN⟩ := q; exact ⟨q0, q1, qP, va_K.moved (u := U) (U := U.calling g mk a) (Vm.Alike.refl U.vm) qK, qD, nw_call qN⟩, va_recv hK hP (ci := 3) (q0 := 68 + 6 * m) rfl (sBt9 hm), fun U hU hW => ⟨rfl, by rw [hU], by rw [hU]; exact hP, va_K.moved hW.alike hK, hD.weaken (fun _ _ _ _ => trivial), nw_warm hW hn⟩⟩ rfl rfl hl.1 rfl (lv_room (Nat.le_of_ble_eq_true rfl)) d_OM_ordered_14 ⟨by show _ ≤ (mcG9 S m : Nat); (try dsimp only); omega, by show _ ≤ (msG9 S m : Nat); (try dsimp only); omega⟩) hS (fun q _ h => hFc q h) hFc ?_
  intro r_4 u t9 H1 locs1 ht9 hvm hw1 hB hz1 hk1 hS1
  obtain ⟨hPn, hKn, hDn⟩ := oN9 hK hFc hB ht9 hvm
  clear hB hz1 hk1 hFc hvm ht9 hP hS hK hD t9 locs H
  have hP := hPn
  have hK := hKn
  have hD := hDn
  clear hPn hKn hDn
  revert H1 locs1
  intro H locs hS hP
  refine tp_i (y := valX9 (x_SB S2 m) i9 w9) (hw1) ?_
  refine tp_pc (pc' := 17) (by rfl) ?_
  refine lv_goto (tgt := 23) hx hb d_OM_ordered_17 (by decide) ?_
  refine tp_pc (pc' := 23) (by rfl) ?_
  refine W.widen (k := mcG9 S m) (n := msG9 S m) (by omega) (by omega) ?_
  exact W.iret (v := (valX9 (x_SB S2 m) i9 w9)) hx hb hr (fun t9 ht9 hW => ⟨⟨valX9 (x_SB S2 m) i9 w9, S2, rfl, ⟨hst, rfl⟩, by rw [ht9]; exact hP, ⟨ct9 S2, va_K.moved hW.alike hK, fun q h => Or.inr h⟩, hD⟩, hS.F ht9⟩) hS.2.2 d_OM_ordered_23
