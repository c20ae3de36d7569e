set_option maxHeartbeats 4000000 in
set_option maxRecDepth 100000 in
theorem rOut9 (l : Launch) (dC : Nat → ClassId) (dI : Nat → Nat → Nat) (ra : Nat) (rA : Nat → Nat) (rK9 : Nat → ClassId) (S : RX9) (OS : Nat → List O9) (m : Nat) (i9 w9 : Int32) (hm : m < 4) (hPr : PrR (r_T S) (r_zs S) (r_kd S) (r_vx S) (r_rr S) (r_vv S)) (hO : okO9 OS S) (hf : r_ff S m = 0 ∨ r_ff S m = 1) (sz : Nat) : Met l y_Ref_outcome w_Ref_outcome ({ frames := 30, cells := 0, slots := 0, locals := 1500 }) (va_Pc [.ref ra, .int (nI m), .int i9, .int w9] (SR9 dC dI ra rA rK9 S sz)) (va_Qi (fun (r : Int32) (R2 : RX9) => ∃ OS2, sFn9 OS S m R2 OS2 ∧ okO9 OS2 R2 ∧ r = tolO m (OS2 m).length (r_oc R2) (r_or R2) i9 w9) (fun R2 t9 => PR9 dC dI ra rA rK9 S sz R2 t9) (va_A (rw9 ra rA rK9 S) sz)) (0) (0) (va_A (rw9 ra rA rK9 S) sz) := by
  refine Met.ofW (cc := b_Ref_outcome) (maxL := 4) (ret := (some .int)) (by decide) rfl ?_
  intro p e0 s m9 args below meth c s₁ B hml hv
  obtain ⟨rfl, hsz, hP, hK, hD0, hn⟩ := hv
  have hx := B.exec
  have hb := B.bytes
  have hr := B.returns
  have hw := fun w (h : w ∈ wt) => atoms_spec (ws := w_Ref_outcome) B.pre w (List.mem_cons_of_mem _ h)
  have hown : s.vm.findClass R_Ref = some m9.cls := findClass_of_methodNamed B.named
  have hlocks := B.notSynchronized
  subst hsz
  have hD := hD0.self (sz := s.heap.size)
  have hA : ∀ q : Nat, s.heap.size ≤ q → va_A (rw9 ra rA rK9 S) s.heap.size q := fun q h => Or.inr h
  clear hD0
  have hS : va_S (va_A (rw9 ra rA rK9 S) s.heap.size) s.heap s.heap [] := va_S.rf
  have hl := lv_entry ([.ref ra, .int (nI m), .int i9, .int w9]) (n := 4) (Nat.le_of_ble_eq_true rfl)
  rw [lg_entry_eq]
  generalize (lg_sl ([.ref ra, .int (nI m), .int i9, .int w9]) ++ List.replicate (4 - (lg_sl ([.ref ra, .int (nI m), .int i9, .int w9])).length) Slot.unset).toArray = ls at hl ⊢
  replace hl : lv_has ls 4 [(0, .ref ra), (1, .int (nI m)), (2, .int i9), (3, .int w9)] := hl
  refine lv_iload_n hx hb d_Ref_outcome_0 rfl (lv_at hl 1 rfl) ?_
  have hP0 : va_P (dC, dI) classes [] s.heap := fun k q h => absurd h (by simp)
  have hK0 := hK.sub (tys' := []) [] rfl
  have hFc : ∀ q, va_A ([] : va_W) s.heap.size q → va_A (rw9 ra rA rK9 S) s.heap.size q := fun q h => h.elim (fun ⟨k, e, w⟩ => absurd w (by simp)) (fun w => hA q (Nat.le_trans hS.1 w))
  refine va_calli (va_runS (As := [.int (nI m)]) (rest := []) ⟨hx, hb, hml, hown, hw⟩ (gen_Ref_isModel l dC dI (nI m) s.heap.size) (cw_S 1 hw g_Ref_isModel rfl rfl rfl (hw _ m_109) (hw _ m_1066) (hw _ m_1067) (by decide +kernel) ⟨by show _ ≤ (30 : Nat); (try dsimp only); omega, by show _ ≤ (1500 : Nat); (try dsimp only); omega⟩) ⟨fun a U g mk q => by obtain ⟨q0, q1, qP, qK, qD, qN⟩ := q; exact ⟨q0, q1, qP, va_K.moved (u := U) (U := U.calling g mk a) (Vm.Alike.refl U.vm) qK, qD, nw_call qN⟩, fun U hU hW => ⟨rfl, by rw [hU], by rw [hU]; exact hP0, va_K.moved hW.alike hK0, vD0, nw_warm hW hn⟩⟩ rfl rfl hl.1 rfl (lv_room (Nat.le_of_ble_eq_true rfl)) d_Ref_outcome_1 ⟨by show _ ≤ (0 : Nat); (try dsimp only); omega, by show _ ≤ (0 : Nat); (try dsimp only); omega⟩) hS (fun q _ h => hFc q h) hFc ?_
  intro r_1 u t9 H1 locs1 ht9 hvm hw1 hB hz1 hk1 hS1
  have hPn : va_P (dC, dI) classes (rw9 ra rA rK9 S) H1 := hP.kept (fun k q hk => hk1 q.1 (hP k q hk).lt (fun z => z.elim (fun ⟨k2, e, w⟩ => absurd w (by simp)) (fun w => absurd (hP k q hk).lt (Nat.not_lt.mpr w))))
  clear hB hz1 hk1 hFc hvm ht9 hP hS t9 hP0 hK0
  have hP := hPn
  clear hPn
  revert H1 locs1
  intro H locs hS hP
  refine tp_i (y := 1) (by rw [hw1, if_pos ⟨nI_pos (by omega), by rw [nI_clamp (by omega)]; exact hm⟩]) ?_
  refine tp_pc (pc' := 4) (by rfl) ?_
  refine lv_if_ne (tgt := 11) hx hb d_Ref_outcome_4 (by decide) (fun c_2 => ?_) (fun c_2 => absurd c_2 (by decide))
  refine tp_pc (pc' := 11) (by rfl) ?_
  refine lv_aload_n hx hb d_Ref_outcome_11 rfl (lv_at hl 0 rfl) ?_
  refine lv_iload_n hx hb d_Ref_outcome_12 rfl (lv_at hl 1 rfl) ?_
  have hFc := oF9 hD hS hA
  refine va_callv (va_runV (As := [.int (nI m)]) (rest := []) ⟨hx, hb, hml, hown, hw⟩ (FI9 l dC dI ra rA rK9 S OS m hm hPr hO hf H.size) (cw_V 1 hw g_Ref_find rfl rfl rfl (hw _ m_109) (hw _ m_1069) (hw _ m_1071) (hw _ m_52) (by decide +kernel) ⟨by show _ ≤ (30 : Nat); (try dsimp only); omega, by show _ ≤ (1500 : Nat); (try dsimp only); omega⟩) ⟨fun a U g mk q => by obtain ⟨q0, q1, qP, qK, qD, qN⟩ := q; exact ⟨q0, q1, qP, va_K.moved (u := U) (U := U.calling g mk a) (Vm.Alike.refl U.vm) qK, qD, nw_call qN⟩, va_recv hK hP (ci := 8) (q0 := 0) rfl rfl, fun U hU hW => ⟨rfl, by rw [hU], by rw [hU]; exact hP, va_K.moved hW.alike hK, hD.weaken (fun _ _ _ _ => trivial), nw_warm hW hn⟩⟩ rfl rfl hl.1 rfl (lv_room (Nat.le_of_ble_eq_true rfl)) d_Ref_outcome_13 ⟨by show _ ≤ (0 : Nat); (try dsimp only); omega, by show _ ≤ (0 : Nat); (try dsimp only); omega⟩) hS (fun q _ h => hFc q h) hFc ?_
  intro u t9 H1 locs1 ht9 hvm hw1 hB hz1 hk1 hS1
  obtain ⟨R2, OS2, hst, hB⟩ := hB
  obtain ⟨hPn, hDn⟩ := oNr9 hFc hB ht9
  clear hB hz1 hk1 hFc hvm ht9 hP hS hD t9 locs H
  have hP := hPn
  have hD := hDn
  clear hPn hDn
  revert H1 locs1
  intro H locs hS hP
  have hO2 := sFn_O hO hst
  obtain ⟨o1, o2, o3, o4, o5, o6, o7⟩ := hO2 m (by omega)
  refine tp_pc (pc' := 16) (by rfl) ?_
  refine lv_aload_n hx hb d_Ref_outcome_16 rfl (lv_at hl 0 rfl) ?_
  refine lv_iload_n hx hb d_Ref_outcome_17 rfl (lv_at hl 1 rfl) ?_
  refine lv_iload_n hx hb d_Ref_outcome_18 rfl (lv_at hl 2 rfl) ?_
  refine lv_iload_n hx hb d_Ref_outcome_19 rfl (lv_at hl 3 rfl) ?_
  have hFc := oF9 hD hS hA
  refine va_calli (va_runV (As := [.int (nI m), .int i9, .int w9]) (rest := []) ⟨hx, hb, hml, hown, hw⟩ (rTo9 l dC dI ra rA rK9 R2 m (OS2 m).length i9 w9 (by omega) o2 o1 (fun i hi => by have h9 := o4 i hi; omega) H.size) (cw_V 3 hw g_Ref_told rfl rfl rfl (hw _ m_109) (hw _ m_1174) (hw _ m_1176) (hw _ m_77) (by decide +kernel) ⟨by show _ ≤ (30 : Nat); (try dsimp only); omega, by show _ ≤ (1500 : Nat); (try dsimp only); omega⟩) ⟨fun a U g mk q => by obtain ⟨q0, q1, qP, qK, qD, qN⟩ := q; exact ⟨q0, q1, qP, va_K.moved (u := U) (U := U.calling g mk a) (Vm.Alike.refl U.vm) qK, qD, nw_call qN⟩, va_recv hK hP (ci := 8) (q0 := 0) rfl rfl, fun U hU hW => ⟨rfl, by rw [hU], by rw [hU]; exact hP, va_K.moved hW.alike hK, hD.weaken (fun _ _ _ _ => trivial), nw_warm hW hn⟩⟩ rfl rfl hl.1 rfl (lv_room (Nat.le_of_ble_eq_true rfl)) d_Ref_outcome_20 ⟨by show _ ≤ (0 : Nat); (try dsimp only); omega, by show _ ≤ (0 : Nat); (try dsimp only); omega⟩) hS (fun q _ h => hFc q h) hFc ?_
  intro r_4 u t9 H1 locs1 ht9 hvm hw1 hB hz1 hk1 hS1
  obtain ⟨hPn, hDn⟩ := oNr9 hFc hB ht9
  clear hB hz1 hk1 hFc hvm ht9 hP hS hD t9 locs H
  have hP := hPn
  have hD := hDn
  clear hPn hDn
  revert H1 locs1
  intro H locs hS hP
  refine tp_i (y := tolO m (OS2 m).length (r_oc R2) (r_or R2) i9 w9) (hw1) ?_
  refine tp_pc (pc' := 23) (by rfl) ?_
  refine W.widen (k := 0) (n := 0) (by omega) (by omega) ?_
  exact W.iret (v := (tolO m (OS2 m).length (r_oc R2) (r_or R2) i9 w9)) hx hb hr (fun t9 ht9 hW => ⟨⟨tolO m (OS2 m).length (r_oc R2) (r_or R2) i9 w9, R2, rfl, ⟨OS2, hst, hO2, rfl⟩, by rw [ht9]; exact hP, hD⟩, hS.F ht9⟩) hS.2.2 d_Ref_outcome_23
set_option maxHeartbeats 4000000 in
set_option maxRecDepth 100000 in
theorem rOrd9 (l : Launch) (dC : Nat → ClassId) (dI : Nat → Nat → Nat) (ra : Nat) (rA : Nat → Nat) (rK9 : Nat → ClassId) (S : RX9) (OS : Nat → List O9) (m : Nat) (i9 w9 : Int32) (hm : m < 4) (hPr : PrR (r_T S) (r_zs S) (r_kd S) (r_vx S) (r_rr S) (r_vv S)) (hO : okO9 OS S) (hG : OkG9 S) (hf : r_ff S (4 + m) = 0 ∨ r_ff S (4 + m) = 1) (sz : Nat) : Met l y_Ref_ordered w_Ref_ordered ({ frames := 70, cells := 0, slots := 0, locals := 3400 }) (va_Pc [.ref ra, .int (nI m), .int i9, .int w9] (SR9 dC dI ra rA rK9 S sz)) (va_Qi (fun (r : Int32) (R2 : RX9) => ∃ OS2, sGr9 OS S m R2 OS2 ∧ okO9 OS2 R2 ∧ r = tolO (4 + m) (OS2 (4 + m)).length (r_oc R2) (r_or R2) i9 w9) (fun R2 t9 => PR9 dC dI ra rA rK9 S sz R2 t9) (va_A (rw9 ra rA rK9 S) sz)) (0) (0) (va_A (rw9 ra rA rK9 S) sz) := by
  refine Met.ofW (cc := b_Ref_ordered) (maxL := 4) (ret := (some .int)) (by decide) rfl ?_
  intro p e0 s m9 args below meth c s₁ B hml hv
  obtain ⟨rfl, hsz, hP, hK, hD0, hn⟩ := hv
  have hx := B.exec
  have hb := B.bytes
  have hr := B.returns
  have hw := fun w (h : w ∈ wt) => atoms_spec (ws := w_Ref_ordered) B.pre w (List.mem_cons_of_mem _ h)
  have hown : s.vm.findClass R_Ref = some m9.cls := findClass_of_methodNamed B.named
  have hlocks := B.notSynchronized
  subst hsz
  have hD := hD0.self (sz := s.heap.size)
  have hA : ∀ q : Nat, s.heap.size ≤ q → va_A (rw9 ra rA rK9 S) s.heap.size q := fun q h => Or.inr h
  clear hD0
  have hS : va_S (va_A (rw9 ra rA rK9 S) s.heap.size) s.heap s.heap [] := va_S.rf
  have hl := lv_entry ([.ref ra, .int (nI m), .int i9, .int w9]) (n := 4) (Nat.le_of_ble_eq_true rfl)
  rw [lg_entry_eq]
  generalize (lg_sl ([.ref ra, .int (nI m), .int i9, .int w9]) ++ List.replicate (4 - (lg_sl ([.ref ra, .int (nI m), .int i9, .int w9])).length) Slot.unset).toArray = ls at hl ⊢
  replace hl : lv_has ls 4 [(0, .ref ra), (1, .int (nI m)), (2, .int i9), (3, .int w9)] := hl
  refine lv_iload_n hx hb d_Ref_ordered_0 rfl (lv_at hl 1 rfl) ?_
  have hP0 : va_P (dC, dI) classes [] s.heap := fun k q h => absurd h (by simp)
  have hK0 := hK.sub (tys' := []) [] rfl
  have hFc : ∀ q, va_A ([] : va_W) s.heap.size q → va_A (rw9 ra rA rK9 S) s.heap.size q := fun q h => h.elim (fun ⟨k, e, w⟩ => absurd w (by simp)) (fun w => hA q (Nat.le_trans hS.1 w))
  refine va_calli (va_runS (As := [.int (nI m)]) (rest := []) ⟨hx, hb, hml, hown, hw⟩ (gen_Ref_isModel l dC dI (nI m) s.heap.size) (cw_S 1 hw g_Ref_isModel rfl rfl rfl (hw _ m_109) (hw _ m_1066) (hw _ m_1067) (by decide +kernel) ⟨by show _ ≤ (70 : Nat); (try dsimp only); omega, by show _ ≤ (3400 : Nat); (try dsimp only); omega⟩) ⟨fun a U g mk q => by obtain ⟨q0, q1, qP, qK, qD, qN⟩ := q; exact ⟨q0, q1, qP, va_K.moved (u := U) (U := U.calling g mk a) (Vm.Alike.refl U.vm) qK, qD, nw_call qN⟩, fun U hU hW => ⟨rfl, by rw [hU], by rw [hU]; exact hP0, va_K.moved hW.alike hK0, vD0, nw_warm hW hn⟩⟩ rfl rfl hl.1 rfl (lv_room (Nat.le_of_ble_eq_true rfl)) d_Ref_ordered_1 ⟨by show _ ≤ (0 : Nat); (try dsimp only); omega, by show _ ≤ (0 : Nat); (try dsimp only); omega⟩) hS (fun q _ h => hFc q h) hFc ?_
  intro r_1 u t9 H1 locs1 ht9 hvm hw1 hB hz1 hk1 hS1
  have hPn : va_P (dC, dI) classes (rw9 ra rA rK9 S) H1 := hP.kept (fun k q hk => hk1 q.1 (hP k q hk).lt (fun z => z.elim (fun ⟨k2, e, w⟩ => absurd w (by simp)) (fun w => absurd (hP k q hk).lt (Nat.not_lt.mpr w))))
  clear hB hz1 hk1 hFc hvm ht9 hP hS t9 hP0 hK0
  have hP := hPn
  clear hPn
  revert H1 locs1
  intro H locs hS hP
  refine tp_i (y := 1) (by rw [hw1, if_pos ⟨nI_pos (by omega), by rw [nI_clamp (by omega)]; exact hm⟩]) ?_
  refine tp_pc (pc' := 4) (by rfl) ?_
  refine lv_if_ne (tgt := 11) hx hb d_Ref_ordered_4 (by decide) (fun c_2 => ?_) (fun c_2 => absurd c_2 (by decide))
  refine tp_pc (pc' := 11) (by rfl) ?_
  refine lv_aload_n hx hb d_Ref_ordered_11 rfl (lv_at hl 0 rfl) ?_
  refine lv_iload_n hx hb d_Ref_ordered_12 rfl (lv_at hl 1 rfl) ?_
  have hFc := oF9 hD hS hA
  refine va_callv (va_runV (As := [.int (nI m)]) (rest := []) ⟨hx, hb, hml, hown, hw⟩ (FH9 l dC dI ra rA rK9 S OS m hm hPr hO hG hf H.size) (cw_V 1 hw g_Ref_findGraphs rfl rfl rfl (hw _ m_109) (hw _ m_1186) (hw _ m_1188) (hw _ m_78) (by decide +kernel) ⟨by show _ ≤ (70 : Nat); (try dsimp only); omega, by show _ ≤ (3400 : Nat); (try dsimp only); omega⟩) ⟨fun a U g mk q => by obtain ⟨q0, q1, qP, qK, qD, qN⟩ := q; exact ⟨q0, q1, qP, va_K.moved (u := U) (U := U.calling g mk a) (Vm.Alike.refl U.vm) qK, qD, nw_call qN⟩, va_recv hK hP (ci := 8) (q0 := 0) rfl rfl, fun U hU hW => ⟨rfl, by rw [hU], by rw [hU]; exact hP, va_K.moved hW.alike hK, hD.weaken (fun _ _ _ _ => trivial), nw_warm hW hn⟩⟩ rfl rfl hl.1 rfl (lv_room (Nat.le_of_ble_eq_true rfl)) d_Ref_ordered_13 ⟨by show _ ≤ (0 : Nat); (try dsimp only); omega, by show _ ≤ (0 : Nat); (try dsimp only); omega⟩) hS (fun q _ h => hFc q h) hFc ?_
  intro u t9 H1 locs1 ht9 hvm hw1 hB hz1 hk1 hS1
  obtain ⟨R2, OS2, hst, hB⟩ := hB
  obtain ⟨hPn, hDn⟩ := oNr9 hFc hB ht9
  clear hB hz1 hk1 hFc hvm ht9 hP hS hD t9 locs H
  have hP := hPn
  have hD := hDn
  clear hPn hDn
  revert H1 locs1
  intro H locs hS hP
  have hO2 := sGr_O hO hst
  obtain ⟨o1, o2, o3, o4, o5, o6, o7⟩ := hO2 (4 + m) (by omega)
  refine tp_pc (pc' := 16) (by rfl) ?_
  refine lv_aload_n hx hb d_Ref_ordered_16 rfl (lv_at hl 0 rfl) ?_
  refine lv_iconst (v := 4) hx hb d_Ref_ordered_17 (by decide) ?_
  refine lv_iload_n hx hb d_Ref_ordered_18 rfl (lv_at hl 1 rfl) ?_
  refine lv_iadd hx hb d_Ref_ordered_19 ?_
  refine tp_i (y := nI (4 + m)) (by exact nI_add 4 m) ?_
  refine lv_iload_n hx hb d_Ref_ordered_20 rfl (lv_at hl 2 rfl) ?_
  refine lv_iload_n hx hb d_Ref_ordered_21 rfl (lv_at hl 3 rfl) ?_
  have hFc := oF9 hD hS hA
  refine va_calli (va_runV (As := [.int (nI (4 + m)), .int i9, .int w9]) (rest := []) ⟨hx, hb, hml, hown, hw⟩ (rTo9 l dC dI ra rA rK9 R2 (4 + m) (OS2 (4 + m)).length i9 w9 (by omega) o2 o1 (fun i hi => by have h9 := o4 i hi; omega) H.size) (cw_V 3 hw g_Ref_told rfl rfl rfl (hw _ m_109) (hw _ m_1174) (hw _ m_1176) (hw _ m_77) (by decide +kernel) ⟨by show _ ≤ (70 : Nat); (try dsimp only); omega, by show _ ≤ (3400 : Nat); (try dsimp only); omega⟩) ⟨fun a U g mk q => by obtain ⟨q0, q1, qP, qK, qD, qN⟩ := q; exact ⟨q0, q1, qP, va_K.moved (u := U) (U := U.calling g mk a) (Vm.Alike.refl U.vm) qK, qD, nw_call qN⟩, va_recv hK hP (ci := 8) (q0 := 0) rfl rfl, fun U hU hW => ⟨rfl, by rw [hU], by rw [hU]; exact hP, va_K.moved hW.alike hK, hD.weaken (fun _ _ _ _ => trivial), nw_warm hW hn⟩⟩ rfl rfl hl.1 rfl (lv_room (Nat.le_of_ble_eq_true rfl)) d_Ref_ordered_22 ⟨by show _ ≤ (0 : Nat); (try dsimp only); omega, by show _ ≤ (0 : Nat); (try dsimp only); omega⟩) hS (fun q _ h => hFc q h) hFc ?_
  intro r_4 u t9 H1 locs1 ht9 hvm hw1 hB hz1 hk1 hS1
  obtain ⟨hPn, hDn⟩ := oNr9 hFc hB ht9
  clear hB hz1 hk1 hFc hvm ht9 hP hS hD t9 locs H
  have hP := hPn
  have hD := hDn
  clear hPn hDn
  revert H1 locs1
  intro H locs hS hP
  refine tp_i (y := tolO (4 + m) (OS2 (4 + m)).length (r_oc R2) (r_or R2) i9 w9) (hw1) ?_
  refine tp_pc (pc' := 25) (by rfl) ?_
  refine W.widen (k := 0) (n := 0) (by omega) (by omega) ?_
  exact W.iret (v := (tolO (4 + m) (OS2 (4 + m)).length (r_oc R2) (r_or R2) i9 w9)) hx hb hr (fun t9 ht9 hW => ⟨⟨tolO (4 + m) (OS2 (4 + m)).length (r_oc R2) (r_or R2) i9 w9, R2, rfl, ⟨OS2, hst, hO2, rfl⟩, by rw [ht9]; exact hP, hD⟩, hS.F ht9⟩) hS.2.2 d_Ref_ordered_25
set_option maxHeartbeats 4000000 in
set_option maxRecDepth 100000 in
theorem rWit9 (l : Launch) (dC : Nat → ClassId) (dI : Nat → Nat → Nat) (ra : Nat) (rA : Nat → Nat) (rK9 : Nat → ClassId) (S : RX9) (OS : Nat → List O9) (m : Nat) (i9 k9 : Int32) (hm : m < 4) (hPr : PrR (r_T S) (r_zs S) (r_kd S) (r_vx S) (r_rr S) (r_vv S)) (hO : okO9 OS S) (hf : r_ff S m = 0 ∨ r_ff S m = 1) (sz : Nat) : Met l y_Ref_witness w_Ref_witness ({ frames := 30, cells := 0, slots := 0, locals := 1500 }) (va_Pc [.ref ra, .int (nI m), .int i9, .int k9] (SR9 dC dI ra rA rK9 S sz)) (va_Qi (fun (r : Int32) (R2 : RX9) => ∃ OS2, sFn9 OS S m R2 OS2 ∧ okO9 OS2 R2 ∧ r = witR9 R2 m i9 k9) (fun R2 t9 => PR9 dC dI ra rA rK9 S sz R2 t9) (va_A (rw9 ra rA rK9 S) sz)) (0) (0) (va_A (rw9 ra rA rK9 S) sz) := by
  refine Met.ofW (cc := b_Ref_witness) (maxL := 5) (ret := (some .int)) (by decide) rfl ?_
  intro p e0 s m9 args below meth c s₁ B hml hv
  obtain ⟨rfl, hsz, hP, hK, hD0, hn⟩ := hv
  have hx := B.exec
  have hb := B.bytes
  have hr := B.returns
  have hw := fun w (h : w ∈ wt) => atoms_spec (ws := w_Ref_witness) B.pre w (List.mem_cons_of_mem _ h)
  have hown : s.vm.findClass R_Ref = some m9.cls := findClass_of_methodNamed B.named
  have hlocks := B.notSynchronized
  subst hsz
  have hD := hD0.self (sz := s.heap.size)
  have hA : ∀ q : Nat, s.heap.size ≤ q → va_A (rw9 ra rA rK9 S) s.heap.size q := fun q h => Or.inr h
  clear hD0
  have hS : va_S (va_A (rw9 ra rA rK9 S) s.heap.size) s.heap s.heap [] := va_S.rf
  have hl := lv_entry ([.ref ra, .int (nI m), .int i9, .int k9]) (n := 5) (Nat.le_of_ble_eq_true rfl)
  rw [lg_entry_eq]
  generalize (lg_sl ([.ref ra, .int (nI m), .int i9, .int k9]) ++ List.replicate (5 - (lg_sl ([.ref ra, .int (nI m), .int i9, .int k9])).length) Slot.unset).toArray = ls at hl ⊢
  replace hl : lv_has ls 5 [(0, .ref ra), (1, .int (nI m)), (2, .int i9), (3, .int k9)] := hl
  refine lv_iload_n hx hb d_Ref_witness_0 rfl (lv_at hl 1 rfl) ?_
  have hP0 : va_P (dC, dI) classes [] s.heap := fun k q h => absurd h (by simp)
  have hK0 := hK.sub (tys' := []) [] rfl
  have hFc : ∀ q, va_A ([] : va_W) s.heap.size q → va_A (rw9 ra rA rK9 S) s.heap.size q := fun q h => h.elim (fun ⟨k, e, w⟩ => absurd w (by simp)) (fun w => hA q (Nat.le_trans hS.1 w))
  refine va_calli (va_runS (As := [.int (nI m)]) (rest := []) ⟨hx, hb, hml, hown, hw⟩ (gen_Ref_isModel l dC dI (nI m) s.heap.size) (cw_S 1 hw g_Ref_isModel rfl rfl rfl (hw _ m_109) (hw _ m_1066) (hw _ m_1067) (by decide +kernel) ⟨by show _ ≤ (30 : Nat); (try dsimp only); omega, by show _ ≤ (1500 : Nat); (try dsimp only); omega⟩) ⟨fun a U g mk q => by obtain ⟨q0, q1, qP, qK, qD, qN⟩ := q; exact ⟨q0, q1, qP, va_K.moved (u := U) (U := U.calling g mk a) (Vm.Alike.refl U.vm) qK, qD, nw_call qN⟩, fun U hU hW => ⟨rfl, by rw [hU], by rw [hU]; exact hP0, va_K.moved hW.alike hK0, vD0, nw_warm hW hn⟩⟩ rfl rfl hl.1 rfl (lv_room (Nat.le_of_ble_eq_true rfl)) d_Ref_witness_1 ⟨by show _ ≤ (0 : Nat); (try dsimp only); omega, by show _ ≤ (0 : Nat); (try dsimp only); omega⟩) hS (fun q _ h => hFc q h) hFc ?_
  intro r_1 u t9 H1 locs1 ht9 hvm hw1 hB hz1 hk1 hS1
  have hPn : va_P (dC, dI) classes (rw9 ra rA rK9 S) H1 := hP.kept (fun k q hk => hk1 q.1 (hP k q hk).lt (fun z => z.elim (fun ⟨k2, e, w⟩ => absurd w (by simp)) (fun w => absurd (hP k q hk).lt (Nat.not_lt.mpr w))))
  clear hB hz1 hk1 hFc hvm ht9 hP hS t9 hP0 hK0
  have hP := hPn
  clear hPn
  revert H1 locs1
  intro H locs hS hP
  refine tp_i (y := 1) (by rw [hw1, if_pos ⟨nI_pos (by omega), by rw [nI_clamp (by omega)]; exact hm⟩]) ?_
  refine tp_pc (pc' := 4) (by rfl) ?_
  refine lv_if_ne (tgt := 9) hx hb d_Ref_witness_4 (by decide) (fun c_2 => ?_) (fun c_2 => absurd c_2 (by decide))
  refine tp_pc (pc' := 9) (by rfl) ?_
  refine lv_aload_n hx hb d_Ref_witness_9 rfl (lv_at hl 0 rfl) ?_
  refine lv_iload_n hx hb d_Ref_witness_10 rfl (lv_at hl 1 rfl) ?_
  have hFc := oF9 hD hS hA
  refine va_callv (va_runV (As := [.int (nI m)]) (rest := []) ⟨hx, hb, hml, hown, hw⟩ (FI9 l dC dI ra rA rK9 S OS m hm hPr hO hf H.size) (cw_V 1 hw g_Ref_find rfl rfl rfl (hw _ m_109) (hw _ m_1069) (hw _ m_1071) (hw _ m_52) (by decide +kernel) ⟨by show _ ≤ (30 : Nat); (try dsimp only); omega, by show _ ≤ (1500 : Nat); (try dsimp only); omega⟩) ⟨fun a U g mk q => by obtain ⟨q0, q1, qP, qK, qD, qN⟩ := q; exact ⟨q0, q1, qP, va_K.moved (u := U) (U := U.calling g mk a) (Vm.Alike.refl U.vm) qK, qD, nw_call qN⟩, va_recv hK hP (ci := 8) (q0 := 0) rfl rfl, fun U hU hW => ⟨rfl, by rw [hU], by rw [hU]; exact hP, va_K.moved hW.alike hK, hD.weaken (fun _ _ _ _ => trivial), nw_warm hW hn⟩⟩ rfl rfl hl.1 rfl (lv_room (Nat.le_of_ble_eq_true rfl)) d_Ref_witness_11 ⟨by show _ ≤ (0 : Nat); (try dsimp only); omega, by show _ ≤ (0 : Nat); (try dsimp only); omega⟩) hS (fun q _ h => hFc q h) hFc ?_
  intro u t9 H1 locs1 ht9 hvm hw1 hB hz1 hk1 hS1
  obtain ⟨R2, OS2, hst, hB⟩ := hB
  obtain ⟨hPn, hDn⟩ := oNr9 hFc hB ht9
  clear hB hz1 hk1 hFc hvm ht9 hP hS hD t9 locs H
  have hP := hPn
  have hD := hDn
  clear hPn hDn
  revert H1 locs1
  intro H locs hS hP
  have hO2 := sFn_O hO hst
  obtain ⟨o1, o2, o3, o4, o5, o6, o7⟩ := hO2 m (by omega)
  refine tp_pc (pc' := 14) (by rfl) ?_
  refine lv_iload_n hx hb d_Ref_witness_14 rfl (lv_at hl 2 rfl) ?_
  refine lv_if_lt (tgt := 28) hx hb d_Ref_witness_15 (by decide) (fun c1 => ?_) (fun c1 => ?_)
  · skip
    refine tp_pc (pc' := 28) (by rfl) ?_
    refine lv_iconst (v := (-1)) hx hb d_Ref_witness_28 (by decide) ?_
    refine W.widen (k := 0) (n := 0) (by omega) (by omega) ?_
    exact W.iret (v := (-1)) hx hb hr (fun t9 ht9 hW => ⟨⟨(-1), R2, rfl, ⟨OS2, hst, hO2, by rw [witR9, if_neg (fun q => q.1 c1)]⟩, by rw [ht9]; exact hP, hD⟩, hS.F ht9⟩) hS.2.2 d_Ref_witness_29
  · skip
    obtain ⟨j, hj, ej⟩ := nI_of c1
    subst ej
    replace hl : lv_has ls 5 [(0, .ref ra), (1, .int (nI m)), (2, .int (nI j)), (3, .int k9)] := hl
    refine tp_pc (pc' := 18) (by rfl) ?_
    refine lv_iload_n hx hb d_Ref_witness_18 rfl (lv_at hl 2 rfl) ?_
    refine lv_aload_n hx hb d_Ref_witness_19 rfl (lv_at hl 0 rfl) ?_
    refine va_get (D := (dC, dI)) (ci := 8) (v := .ref (rA 8)) (C := R_Ref) (T := F_Ref) (N := 48) hx hb hw i_Ref hown hK hP 0 rfl rfl 8 (by decide) (hw _ m_907) (fun _ h9 => h9) rfl d_Ref_witness_20 ?_
    refine lv_iload_n hx hb d_Ref_witness_23 rfl (lv_at hl 1 rfl) ?_
    refine va_iald (D := (dC, dI)) hx hb hK hP 7 6 rfl rfl (i := nI m) (pk_in m 8 (by omega)) d_Ref_witness_24 ?_
    refine tp_i (y := nI ((r_om R2) m)) (by rw [show (nI m : Int32).toNatClampNeg = m from pk_cl m]) ?_
    have hom : r_om R2 m ≤ 4000 := by omega
    refine lv_icmp_lt (tgt := 30) hx hb d_Ref_witness_25 (by decide) (fun c2 => ?_) (fun c2 => ?_)
    · skip
      have hc2 : j < (r_om R2) m := (nI_ltI (a := j) (b := (r_om R2) m) (by omega) (by omega)).mp c2
      have hoj := o4 j (by omega)
      refine tp_pc (pc' := 30) (by rfl) ?_
      refine lv_sipush (v := 4000) hx hb d_Ref_witness_30 (by decide) ?_
      refine lv_iload_n hx hb d_Ref_witness_33 rfl (lv_at hl 1 rfl) ?_
      refine lv_imul hx hb d_Ref_witness_34 ?_
      refine tp_i (y := nI (4000 * m)) (by exact pk_mul 4000 m) ?_
      refine lv_aload_n hx hb d_Ref_witness_35 rfl (lv_at hl 0 rfl) ?_
      refine va_get (D := (dC, dI)) (ci := 8) (v := .ref (rA 12)) (C := R_Ref) (T := F_Ref) (N := 48) hx hb hw i_Ref hown hK hP 0 rfl rfl 12 (by decide) (hw _ m_911) (fun _ h9 => h9) rfl d_Ref_witness_36 ?_
      refine lv_sipush (v := 4000) hx hb d_Ref_witness_39 (by decide) ?_
      refine lv_iload_n hx hb d_Ref_witness_42 rfl (lv_at hl 1 rfl) ?_
      refine lv_imul hx hb d_Ref_witness_43 ?_
      refine tp_i (y := nI (4000 * m)) (by exact pk_mul 4000 m) ?_
      refine lv_iload_n hx hb d_Ref_witness_44 rfl (lv_at hl 2 rfl) ?_
      refine lv_iadd hx hb d_Ref_witness_45 ?_
      refine tp_i (y := nI (4000 * m + j)) (by exact nI_add (4000 * m) j) ?_
      refine va_iald (D := (dC, dI)) hx hb hK hP 11 10 rfl rfl (i := nI (4000 * m + j)) (pk_in (4000 * m + j) 32000 (by omega)) d_Ref_witness_46 ?_
      refine tp_i (y := nI ((r_or R2) (4000 * m + j))) (by rw [show (nI (4000 * m + j) : Int32).toNatClampNeg = 4000 * m + j from pk_cl (4000 * m + j)]) ?_
      refine lv_iadd hx hb d_Ref_witness_47 ?_
      refine tp_i (y := nI (4000 * m + ((r_or R2) (4000 * m + j)))) (by exact nI_add (4000 * m) ((r_or R2) (4000 * m + j))) ?_
      refine lv_istore (lv' := [(4, .int (nI (4000 * m + ((r_or R2) (4000 * m + j))))), (0, .ref ra), (1, .int (nI m)), (2, .int (nI j)), (3, .int k9)]) hx hb d_Ref_witness_48 hl (by decide) rfl ?_
      clear hl ls
      intro ls hl
      refine lv_iload_n hx hb d_Ref_witness_50 rfl (lv_at hl 4 rfl) ?_
      refine lv_if_lt (tgt := 80) hx hb d_Ref_witness_51 (by decide) (fun c3 => ?_) (fun c3 => ?_)
      · skip
        refine tp_pc (pc' := 80) (by rfl) ?_
        refine lv_iconst (v := (-1)) hx hb d_Ref_witness_80 (by decide) ?_
        refine W.widen (k := 0) (n := 0) (by omega) (by omega) ?_
        exact W.iret (v := (-1)) hx hb hr (fun t9 ht9 hW => ⟨⟨(-1), R2, rfl, ⟨OS2, hst, hO2, by rw [witR9, if_neg (fun q => q.2.2.1 c3)]⟩, by rw [ht9]; exact hP, hD⟩, hS.F ht9⟩) hS.2.2 d_Ref_witness_81
      · skip
        obtain ⟨k, hk, ek⟩ := nI_of c3
        subst ek
        replace hl : lv_has ls 5 [(4, .int (nI (4000 * m + ((r_or R2) (4000 * m + j))))), (0, .ref ra), (1, .int (nI m)), (2, .int (nI j)), (3, .int (nI k))] := hl
        obtain ⟨e1, e2, e3⟩ := o7 hm (r_or R2 (4000 * m + j)) hoj
        refine tp_pc (pc' := 54) (by rfl) ?_
        refine lv_iload_n hx hb d_Ref_witness_54 rfl (lv_at hl 4 rfl) ?_
        refine lv_aload_n hx hb d_Ref_witness_55 rfl (lv_at hl 1 rfl) ?_
        refine va_get (D := (dC, dI)) (ci := 8) (v := .ref (rA 11)) (C := R_Ref) (T := F_Ref) (N := 48) hx hb hw i_Ref hown hK hP 0 rfl rfl 11 (by decide) (hw _ m_910) (fun _ h9 => h9) rfl d_Ref_witness_56 ?_
        refine lv_iload hx hb d_Ref_witness_59 (lv_at hl 0 rfl) ?_
        refine va_iald (D := (dC, dI)) hx hb hK hP 10 9 rfl rfl (i := nI (4000 * m + ((r_or R2) (4000 * m + j)))) (pk_in (4000 * m + ((r_or R2) (4000 * m + j))) 16000 (by omega)) d_Ref_witness_61 ?_
        refine tp_i (y := nI ((r_ws R2) (4000 * m + ((r_or R2) (4000 * m + j))))) (by rw [show (nI (4000 * m + ((r_or R2) (4000 * m + j))) : Int32).toNatClampNeg = 4000 * m + ((r_or R2) (4000 * m + j)) from pk_cl (4000 * m + ((r_or R2) (4000 * m + j)))]) ?_
        have hws : r_ws R2 (4000 * m + r_or R2 (4000 * m + j)) ≤ 16 := by omega
        refine lv_icmp_ge (tgt := 80) hx hb d_Ref_witness_62 (by decide) (fun c4 => ?_) (fun c4 => ?_)
        · skip
          have hc4 : (r_ws R2) (4000 * m + ((r_or R2) (4000 * m + j))) ≤ k := (nI_leI (a := (r_ws R2) (4000 * m + ((r_or R2) (4000 * m + j)))) (b := k) (by omega) (by omega)).mp c4
          refine tp_pc (pc' := 80) (by rfl) ?_
          refine lv_iconst (v := (-1)) hx hb d_Ref_witness_80 (by decide) ?_
          refine W.widen (k := 0) (n := 0) (by omega) (by omega) ?_
          exact W.iret (v := (-1)) hx hb hr (fun t9 ht9 hW => ⟨⟨(-1), R2, rfl, ⟨OS2, hst, hO2, by rw [witR9, if_neg (fun q => absurd q.2.2.2 (by rw [nI_clamp hj, nI_clamp hk]; omega))]⟩, by rw [ht9]; exact hP, hD⟩, hS.F ht9⟩) hS.2.2 d_Ref_witness_81
        · skip
          have hc4 : ¬ ((r_ws R2) (4000 * m + ((r_or R2) (4000 * m + j))) ≤ k) := fun q9 => c4 ((nI_leI (a := (r_ws R2) (4000 * m + ((r_or R2) (4000 * m + j)))) (b := k) (by omega) (by omega)).mpr q9)
          refine tp_pc (pc' := 65) (by rfl) ?_
          refine lv_aload_n hx hb d_Ref_witness_65 rfl (lv_at hl 1 rfl) ?_
          refine va_get (D := (dC, dI)) (ci := 8) (v := .ref (rA 10)) (C := R_Ref) (T := F_Ref) (N := 48) hx hb hw i_Ref hown hK hP 0 rfl rfl 10 (by decide) (hw _ m_909) (fun _ h9 => h9) rfl d_Ref_witness_66 ?_
          refine lv_bipush (v := 16) hx hb d_Ref_witness_69 (by decide) ?_
          refine lv_iload hx hb d_Ref_witness_71 (lv_at hl 0 rfl) ?_
          refine lv_imul hx hb d_Ref_witness_73 ?_
          refine tp_i (y := nI (16 * (4000 * m + ((r_or R2) (4000 * m + j))))) (by exact pk_mul 16 (4000 * m + ((r_or R2) (4000 * m + j)))) ?_
          refine lv_iload_n hx hb d_Ref_witness_74 rfl (lv_at hl 4 rfl) ?_
          refine lv_iadd hx hb d_Ref_witness_75 ?_
          refine tp_i (y := nI (16 * (4000 * m + ((r_or R2) (4000 * m + j))) + k)) (by exact nI_add (16 * (4000 * m + ((r_or R2) (4000 * m + j)))) k) ?_
          refine va_sald (D := (dC, dI)) hx hb hK hP 9 8 rfl rfl (i := nI (16 * (4000 * m + ((r_or R2) (4000 * m + j))) + k)) (pk_in (16 * (4000 * m + ((r_or R2) (4000 * m + j))) + k) 256000 (by omega)) d_Ref_witness_76 ?_
          refine tp_i (y := (r_wi R2) (16 * (4000 * m + ((r_or R2) (4000 * m + j))) + k)) (by rw [show (nI (16 * (4000 * m + ((r_or R2) (4000 * m + j))) + k) : Int32).toNatClampNeg = 16 * (4000 * m + ((r_or R2) (4000 * m + j))) + k from pk_cl (16 * (4000 * m + ((r_or R2) (4000 * m + j))) + k)]) ?_
          refine lv_goto (tgt := 81) hx hb d_Ref_witness_77 (by decide) ?_
          refine tp_pc (pc' := 81) (by rfl) ?_
          refine W.widen (k := 0) (n := 0) (by omega) (by omega) ?_
          exact W.iret (v := ((r_wi R2) (16 * (4000 * m + ((r_or R2) (4000 * m + j))) + k))) hx hb hr (fun t9 ht9 hW => ⟨⟨(r_wi R2) (16 * (4000 * m + ((r_or R2) (4000 * m + j))) + k), R2, rfl, ⟨OS2, hst, hO2, by rw [witR9, if_pos ⟨c1, by rw [nI_clamp hj]; omega, c3, by rw [nI_clamp hj, nI_clamp hk]; omega⟩, nI_clamp hj, nI_clamp hk]⟩, by rw [ht9]; exact hP, hD⟩, hS.F ht9⟩) hS.2.2 d_Ref_witness_81
    · skip
      have hc2 : ¬ (j < (r_om R2) m) := fun q9 => c2 ((nI_ltI (a := j) (b := (r_om R2) m) (by omega) (by omega)).mpr q9)
      refine tp_pc (pc' := 28) (by rfl) ?_
      refine lv_iconst (v := (-1)) hx hb d_Ref_witness_28 (by decide) ?_
      refine W.widen (k := 0) (n := 0) (by omega) (by omega) ?_
      exact W.iret (v := (-1)) hx hb hr (fun t9 ht9 hW => ⟨⟨(-1), R2, rfl, ⟨OS2, hst, hO2, by rw [witR9, if_neg (fun q => absurd q.2.1 (by rw [nI_clamp hj]; omega))]⟩, by rw [ht9]; exact hP, hD⟩, hS.F ht9⟩) hS.2.2 d_Ref_witness_29
