set_option maxHeartbeats 4000000 in
set_option maxRecDepth 100000 in
theorem cBey9d (l : Launch) (dC : Nat → ClassId) (dI : Nat → Nat → Nat) (S : CX9) (ld : Nat) (zs kd vx rr li : Nat → Nat) (vv : Nat → Int32) (m o : Nat) (hm : m < 4) (ho : o < 4) (hne : m ≠ o) (hO : OkC9 ld zs kd vx rr li vv S) (sz : Nat) : Met l y_OM_beyond w_OM_beyond ({ frames := 84, cells := mcR9 S m + mcB9 S m o, slots := msR9 S m + msB9 S m o, locals := 4200 }) (va_Pc [.ref (x_oa S), .int (nI m), .int (nI o)] (SW9 dC dI S sz)) (va_Qi (fun (r : Int32) (S3 : CX9) => ∃ S2, sRn9 S m S2 ∧ sRn9 S2 o S3 ∧ r = nI (msX9 (x_SA S3 m) (x_SA S3 o))) (fun S3 t9 => PW9 l dC dI S sz S3 t9) (va_A (cw9 S) sz)) (mcR9 S m + mcB9 S m o) (msR9 S m + msB9 S m o) (va_A (cw9 S) sz) := by
  refine Met.ofW (cc := b_OM_beyond) (maxL := 3) (ret := (some .int)) (by decide) rfl ?_
  intro p e0 s m9 args below meth c s₁ B hml hv
  obtain ⟨rfl, hsz, hP, hK, hD0, hn⟩ := hv
  have hx := B.exec
  have hb := B.bytes
  have hr := B.returns
  have hw := fun w (h : w ∈ wt) => atoms_spec (ws := w_OM_beyond) B.pre w (List.mem_cons_of_mem _ h)
  have hown : s.vm.findClass R_OM = some m9.cls := findClass_of_methodNamed B.named
  have hlocks := B.notSynchronized
  subst hsz
  have hD := hD0.self (sz := s.heap.size)
  have hA : ∀ q : Nat, s.heap.size ≤ q → va_A (cw9 S) s.heap.size q := fun q h => Or.inr h
  clear hD0
  have hS : va_S (va_A (cw9 S) s.heap.size) s.heap s.heap [] := va_S.rf
  have hl := lv_entry ([.ref (x_oa S), .int (nI m), .int (nI o)]) (n := 3) (Nat.le_of_ble_eq_true rfl)
  rw [lg_entry_eq]
  generalize (lg_sl ([.ref (x_oa S), .int (nI m), .int (nI o)]) ++ List.replicate (3 - (lg_sl ([.ref (x_oa S), .int (nI m), .int (nI o)])).length) Slot.unset).toArray = ls at hl ⊢
  replace hl : lv_has ls 3 [(0, .ref (x_oa S)), (1, .int (nI m)), (2, .int (nI o))] := hl
  refine lv_iload_n hx hb d_OM_beyond_0 rfl (lv_at hl 1 rfl) ?_
  have hP0 : va_P (dC, dI) classes [] s.heap := fun k q h => absurd h (by simp)
  have hK0 := hK.sub (tys' := []) [] rfl
  have hFc : ∀ q, va_A ([] : va_W) s.heap.size q → va_A (cw9 S) s.heap.size q := fun q h => h.elim (fun ⟨k, e, w⟩ => absurd w (by simp)) (fun w => hA q (Nat.le_trans hS.1 w))
  refine va_calli (va_runS (As := [.int (nI m)]) (rest := []) ⟨hx, hb, hml, hown, hw⟩ (gen_OM_isModel l dC dI (nI m) s.heap.size) (cw_S 1 hw g_OM_isModel rfl rfl rfl (hw _ m_101) (hw _ m_465) (hw _ m_466) (by decide +kernel) ⟨by show _ ≤ (84 : Nat); (try dsimp only); omega, by show _ ≤ (4200 : Nat); (try dsimp only); omega⟩) ⟨fun a U g mk q => by obtain ⟨q0, q1, qP, qK, qD, qN⟩ := q; exact ⟨q0, q1, qP, va_K.moved (u := U) (U := U.calling g mk a) (Vm.Alike.refl U.vm) qK, qD, nw_call qN⟩, fun U hU hW => ⟨rfl, by rw [hU], by rw [hU]; exact hP0, va_K.moved hW.alike hK0, vD0, nw_warm hW hn⟩⟩ rfl rfl hl.1 rfl (lv_room (Nat.le_of_ble_eq_true rfl)) d_OM_beyond_1 ⟨by show _ ≤ (mcR9 S m + mcB9 S m o : Nat); (try dsimp only); omega, by show _ ≤ (msR9 S m + msB9 S m o : Nat); (try dsimp only); omega⟩) hS (fun q _ h => hFc q h) hFc ?_
  intro r_1 u t9 H1 locs1 ht9 hvm hw1 hB hz1 hk1 hS1
  have hPn : va_P (dC, dI) classes (cw9 S) H1 := hP.kept (fun k q hk => hk1 q.1 (hP k q hk).lt (fun z => z.elim (fun ⟨k2, e, w⟩ => absurd w (by simp)) (fun w => absurd (hP k q hk).lt (Nat.not_lt.mpr w))))
  clear hB hz1 hk1 hFc hvm ht9 hP hS t9 hP0 hK0
  have hP := hPn
  clear hPn
  revert H1 locs1
  intro H locs hS hP
  refine tp_i (y := 1) (by rw [hw1, if_pos ⟨nI_pos (by omega), by rw [nI_clamp (by omega)]; exact hm⟩]) ?_
  refine tp_pc (pc' := 4) (by rfl) ?_
  refine lv_if_eq (tgt := 14) hx hb d_OM_beyond_4 (by decide) (fun c_2 => absurd c_2 (by decide)) (fun c_2 => ?_)
  refine tp_pc (pc' := 7) (by rfl) ?_
  refine lv_iload_n hx hb d_OM_beyond_7 rfl (lv_at hl 2 rfl) ?_
  have hP0 : va_P (dC, dI) classes [] H := fun k q h => absurd h (by simp)
  have hK0 := hK.sub (tys' := []) [] rfl
  have hFc : ∀ q, va_A ([] : va_W) H.size q → va_A (cw9 S) s.heap.size q := fun q h => h.elim (fun ⟨k, e, w⟩ => absurd w (by simp)) (fun w => hA q (Nat.le_trans hS.1 w))
  refine va_calli (va_runS (As := [.int (nI o)]) (rest := []) ⟨hx, hb, hml, hown, hw⟩ (gen_OM_isModel l dC dI (nI o) H.size) (cw_S 1 hw g_OM_isModel rfl rfl rfl (hw _ m_101) (hw _ m_465) (hw _ m_466) (by decide +kernel) ⟨by show _ ≤ (84 : Nat); (try dsimp only); omega, by show _ ≤ (4200 : Nat); (try dsimp only); omega⟩) ⟨fun a U g mk q => by obtain ⟨q0, q1, qP, qK, qD, qN⟩ := q; exact ⟨q0, q1, qP, va_K.moved (u := U) (U := U.calling g mk a) (Vm.Alike.refl U.vm) qK, qD, nw_call qN⟩, fun U hU hW => ⟨rfl, by rw [hU], by rw [hU]; exact hP0, va_K.moved hW.alike hK0, vD0, nw_warm hW hn⟩⟩ rfl rfl hl.1 rfl (lv_room (Nat.le_of_ble_eq_true rfl)) d_OM_beyond_8 ⟨by show _ ≤ (mcR9 S m + mcB9 S m o : Nat); (try dsimp only); omega, by show _ ≤ (msR9 S m + msB9 S m o : Nat); (try dsimp only); omega⟩) hS (fun q _ h => hFc q h) hFc ?_
  intro r_3 u t9 H1 locs1 ht9 hvm hw1 hB hz1 hk1 hS1
  have hPn : va_P (dC, dI) classes (cw9 S) H1 := hP.kept (fun k q hk => hk1 q.1 (hP k q hk).lt (fun z => z.elim (fun ⟨k2, e, w⟩ => absurd w (by simp)) (fun w => absurd (hP k q hk).lt (Nat.not_lt.mpr w))))
  clear hB hz1 hk1 hFc hvm ht9 hP hS t9 hP0 hK0 locs H
  have hP := hPn
  clear hPn
  revert H1 locs1
  intro H locs hS hP
  refine tp_i (y := 1) (by rw [hw1, if_pos ⟨nI_pos (by omega), by rw [nI_clamp (by omega)]; exact ho⟩]) ?_
  refine tp_pc (pc' := 11) (by rfl) ?_
  refine lv_if_ne (tgt := 16) hx hb d_OM_beyond_11 (by decide) (fun c_4 => ?_) (fun c_4 => absurd c_4 (by decide))
  refine tp_pc (pc' := 16) (by rfl) ?_
  refine lv_iload_n hx hb d_OM_beyond_16 rfl (lv_at hl 1 rfl) ?_
  refine lv_iload_n hx hb d_OM_beyond_17 rfl (lv_at hl 2 rfl) ?_
  refine lv_icmp_ne (tgt := 25) hx hb d_OM_beyond_18 (by decide) (fun c9 => ?_) (fun c9 => absurd ((nI_eq (a := m) (b := o) (by omega) (by omega)).mp c9) hne)
  refine tp_pc (pc' := 25) (by rfl) ?_
  refine lv_aload_n hx hb d_OM_beyond_25 rfl (lv_at hl 0 rfl) ?_
  refine lv_iload_n hx hb d_OM_beyond_26 rfl (lv_at hl 1 rfl) ?_
  have hFc := oF9 hD hS hA
  refine va_callr (va_runV (As := [.int (nI m)]) (rest := []) ⟨hx, hb, hml, hown, hw⟩ (FR9 l dC dI S m hm (ok_B9 hO) H.size) (cw_V 1 hw g_OM_foundByRuns rfl rfl rfl (hw _ m_101) (hw _ m_468) (hw _ m_470) (hw _ m_1) (by decide +kernel) ⟨by show _ ≤ (84 : Nat); (try dsimp only); omega, by show _ ≤ (4200 : Nat); (try dsimp only); omega⟩) ⟨fun a U g mk q => by obtain ⟨q0, q1, qP, qK, qD, qN⟩ := q; exact ⟨q0, q1, qP, va_K.moved (u := U) (U := U.calling g mk a) (Vm.Alike.refl U.vm) qK, qD, nw_call qN⟩, va_recv hK hP (ci := 7) (q0 := 0) rfl rfl, fun U hU hW => ⟨rfl, by rw [hU], by rw [hU]; exact hP, va_K.moved hW.alike hK, hD.weaken (fun _ _ _ _ => trivial), nw_warm hW hn⟩⟩ rfl rfl hl.1 rfl (lv_room (Nat.le_of_ble_eq_true rfl)) d_OM_beyond_27 ⟨by show _ ≤ (mcR9 S m + mcB9 S m o : Nat); (try dsimp only); omega, by show _ ≤ (msR9 S m + msB9 S m o : Nat); (try dsimp only); omega⟩) hS (fun q _ h => hFc q h) hFc ?_
  intro u r_5 t9 H1 locs1 ht9 hvm hw1 hB hz1 hk1 hS1
  obtain ⟨S2, hra, hst, hB⟩ := hB
  obtain ⟨hPn, hKn, hDn⟩ := oN9 hK hFc hB ht9 hvm
  clear hB hz1 hk1 hFc hvm ht9 hP hS hK hD t9 locs H
  have hP := hPn
  have hK := hKn
  have hD := hDn
  clear hPn hKn hDn
  revert H1 locs1
  intro H locs hS hP
  refine tp_r (y := (x_fA S2 m)) (by rw [(stR_f hst).1]; exact hra) ?_
  obtain ⟨hO2, hr2, -, -, -, -, -, -⟩ := sRn_ok hO hm hst
  have ho9 := (stR_f hst).2
  obtain ⟨hmB, hsB⟩ := gB_9 (fun z => hne z.symm) hst
  rw [← ho9] at hl
  replace hl : lv_has ls 3 [(0, .ref (x_oa S2)), (1, .int (nI m)), (2, .int (nI o))] := hl
  refine tp_pc (pc' := 30) (by rfl) ?_
  refine lv_aload_n hx hb d_OM_beyond_30 rfl (lv_at hl 0 rfl) ?_
  refine lv_iload_n hx hb d_OM_beyond_31 rfl (lv_at hl 2 rfl) ?_
  have hFc := oF9 hD hS hA
  refine va_callr (va_runV (As := [.int (nI o)]) (rest := [.ref (x_fA S2 m)]) ⟨hx, hb, hml, hown, hw⟩ (FR9 l dC dI S2 o ho (ok_B9 hO2) H.size) (cw_V 1 hw g_OM_foundByRuns rfl rfl rfl (hw _ m_101) (hw _ m_468) (hw _ m_470) (hw _ m_1) (by decide +kernel) ⟨by show _ ≤ (84 : Nat); (try dsimp only); omega, by show _ ≤ (4200 : Nat); (try dsimp only); omega⟩) ⟨fun a U g mk q => by obtain ⟨q0, q1, qP, qK, qD, qN⟩ := q; exact ⟨q0, q1, qP, va_K.moved (u := U) (U := U.calling g mk a) (Vm.Alike.refl U.vm) qK, qD, nw_call qN⟩, va_recv hK hP (ci := 7) (q0 := 0) rfl rfl, fun U hU hW => ⟨rfl, by rw [hU], by rw [hU]; exact hP, va_K.moved hW.alike hK, hD.weaken (fun _ _ _ _ => trivial), nw_warm hW hn⟩⟩ rfl rfl hl.1 rfl (lv_room (Nat.le_of_ble_eq_true rfl)) d_OM_beyond_32 ⟨by show _ ≤ (mcR9 S m + mcB9 S m o : Nat); (try dsimp only); omega, by show _ ≤ (msR9 S m + msB9 S m o : Nat); (try dsimp only); omega⟩) hS (fun q _ h => hFc q h) hFc ?_
  intro u r_6 t9 H1 locs1 ht9 hvm hw1 hB hz1 hk1 hS1
  obtain ⟨S3, hrb, hst3, hB⟩ := hB
  obtain ⟨hPn, hKn, hDn⟩ := oN9 hK hFc hB ht9 hvm
  clear hB hz1 hk1 hFc hvm ht9 hP hS hK hD t9 locs H
  have hP := hPn
  have hK := hKn
  have hD := hDn
  clear hPn hKn hDn
  revert H1 locs1
  intro H locs hS hP
  refine tp_r (y := (x_fA S3 o)) (by rw [(stR_f hst3).1]; exact hrb) ?_
  obtain ⟨hO3, hr3, -, -, -, -, -, -⟩ := sRn_ok hO2 ho hst3
  rw [show x_fA S2 = x_fA S3 from ((stR_f hst3).1).symm]
  have hr4 : o_rd (x_SA S3 m) = 1 := sRn_k hst3 hm (fun z => hne z) hr2
  have hE3 : ∀ i, i < 4 → o_E (x_SA S3 i) ≤ 16 := fun i hi => by have h9 := (hO3.2.2.2.2.2.2.2.2.2.1 i hi).1.2.1; rw [h9]; split <;> omega
  have hA3 := (RuS_R (hE3 m hm) ((hO3.2.2.2.2.2.2.2.2.2.1 m hm).1.2.2.2 hr4)).1
  have hB3 := (RuS_R (hE3 o ho) ((hO3.2.2.2.2.2.2.2.2.2.1 o ho).1.2.2.2 hr3)).1
  refine tp_pc (pc' := 35) (by rfl) ?_
  have hFc := oF9 hD hS hA
  refine va_calli (va_runV (As := [.ref (x_fA S3 o)]) (rest := []) ⟨hx, hb, hml, hown, hw⟩ (cMis9 l dC dI S3 m o hm ho hne hA3 hB3 H.size) (cw_V 1 hw g_OutcomeSet_countMissingIn rfl rfl rfl (hw _ m_108) (hw _ m_873) (hw _ m_874) (hw _ m_875) (by decide +kernel) ⟨by show _ ≤ (84 : Nat); (try dsimp only); omega, by show _ ≤ (4200 : Nat); (try dsimp only); omega⟩) ⟨fun a U g mk q => by obtain ⟨q0, q1, qP, qK, qD, qN⟩ := q; exact ⟨q0, q1, qP, va_K.moved (u := U) (U := U.calling g mk a) (Vm.Alike.refl U.vm) qK, qD, nw_call qN⟩, va_recv hK hP (ci := 3) (q0 := 44 + 6 * m) rfl (sAt9 hm), fun U hU hW => ⟨rfl, by rw [hU], by rw [hU]; exact hP, va_K.moved hW.alike hK, hD.weaken (fun _ _ _ _ => trivial), nw_warm hW hn⟩⟩ rfl rfl hl.1 rfl (lv_room (Nat.le_of_ble_eq_true rfl)) d_OM_beyond_35 ⟨by show _ ≤ (mcR9 S m + mcB9 S m o : Nat); (try dsimp only); omega, by show _ ≤ (msR9 S m + msB9 S m o : Nat); (try dsimp only); omega⟩) hS (fun q _ h => hFc q h) hFc ?_
  intro r_7 u t9 H1 locs1 ht9 hvm hw1 hB hz1 hk1 hS1
  obtain ⟨hPn, hKn, hDn⟩ := oN9 hK hFc hB ht9 hvm
  clear hB hz1 hk1 hFc hvm ht9 hP hS hK hD t9 locs H
  have hP := hPn
  have hK := hKn
  have hD := hDn
  clear hPn hKn hDn
  revert H1 locs1
  intro H locs hS hP
  refine tp_i (y := nI (msX9 (x_SA S3 m) (x_SA S3 o))) (hw1) ?_
  refine tp_pc (pc' := 38) (by rfl) ?_
  refine W.widen (k := mcR9 S m + mcB9 S m o) (n := msR9 S m + msB9 S m o) (by omega) (by omega) ?_
  exact W.iret (v := (nI (msX9 (x_SA S3 m) (x_SA S3 o)))) hx hb hr (fun t9 ht9 hW => ⟨⟨nI (msX9 (x_SA S3 m) (x_SA S3 o)), S3, rfl, ⟨S2, hst, hst3, rfl⟩, by rw [ht9]; exact hP, ⟨ct9 S3, va_K.moved hW.alike hK, fun q h => Or.inr h⟩, hD⟩, hS.F ht9⟩) hS.2.2 d_OM_beyond_38
