theorem sFn_O {OS OS2 : Nat → List O9} {R R2 : RX9} {m : Nat} (h : okO9 OS R) (hs : sFn9 OS R m R2 OS2) : okO9 OS2 R2 := by
  rcases hs with ⟨-, rfl, rfl⟩ | ⟨-, -, h, -⟩
  · exact h
  · exact h
theorem sGr_O {OS OS2 : Nat → List O9} {R R2 : RX9} {m : Nat} (h : okO9 OS R) (hs : sGr9 OS R m R2 OS2) : okO9 OS2 R2 := by
  rcases hs with ⟨-, rfl, rfl⟩ | ⟨-, li, ld, -, -, h, -⟩
  · exact h
  · exact h
theorem sRr_O {OS OS2 : Nat → List O9} {R R2 : RX9} (h : okO9 OS R) (hs : sRr9 OS R R2 OS2) : okO9 OS2 R2 := by
  rcases hs with ⟨-, rfl, rfl⟩ | ⟨-, -, h, -⟩
  · exact h
  · exact h
def witR9 (R : RX9) (m : Nat) (i9 k9 : Int32) : Int32 := if ¬ i9 < 0 ∧ i9.toNatClampNeg < r_om R m ∧ ¬ k9 < 0 ∧ k9.toNatClampNeg < r_ws R (4000 * m + r_or R (4000 * m + i9.toNatClampNeg)) then r_wi R (16 * (4000 * m + r_or R (4000 * m + i9.toNatClampNeg)) + k9.toNatClampNeg) else -1
set_option maxHeartbeats 4000000 in
set_option maxRecDepth 100000 in
theorem rRu9 (l : Launch) (dC : Nat → ClassId) (dI : Nat → Nat → Nat) (ra : Nat) (rA : Nat → Nat) (rK9 : Nat → ClassId) (S : RX9) (OS : Nat → List O9) (m : Nat) (hm : m < 4) (hPr : PrR (r_T S) (r_zs S) (r_kd S) (r_vx S) (r_rr S) (r_vv S)) (hO : okO9 OS S) (hf : r_ff S m = 0 ∨ r_ff S m = 1) (sz : Nat) : Met l y_Ref_runs w_Ref_runs ({ frames := 30, cells := 0, slots := 0, locals := 1500 }) (va_Pc [.ref ra, .int (nI m)] (SR9 dC dI ra rA rK9 S sz)) (va_Qi (fun (r : Int32) (R2 : RX9) => ∃ OS2, sFn9 OS S m R2 OS2 ∧ okO9 OS2 R2 ∧ r = nI (r_om R2 m)) (fun R2 t9 => PR9 dC dI ra rA rK9 S sz R2 t9) (va_A (rw9 ra rA rK9 S) sz)) (0) (0) (va_A (rw9 ra rA rK9 S) sz) := by
  refine Met.ofW (cc := b_Ref_runs) (maxL := 2) (ret := (some .int)) (by decide) rfl ?_
  intro p e0 s m9 args below meth c s₁ B hml hv
  obtain ⟨rfl, hsz, hP, hK, hD0, hn⟩ := hv
  have hx := B.exec
  have hb := B.bytes
  have hr := B.returns
  have hw := fun w (h : w ∈ wt) => atoms_spec (ws := w_Ref_runs) B.pre w (List.mem_cons_of_mem _ h)
  have hown : s.vm.findClass R_Ref = some m9.cls := findClass_of_methodNamed B.named
  have hlocks := B.notSynchronized
  subst hsz
  have hD := hD0.self (sz := s.heap.size)
  have hA : ∀ q : Nat, s.heap.size ≤ q → va_A (rw9 ra rA rK9 S) s.heap.size q := fun q h => Or.inr h
  clear hD0
  have hS : va_S (va_A (rw9 ra rA rK9 S) s.heap.size) s.heap s.heap [] := va_S.rf
  have hl := lv_entry ([.ref ra, .int (nI m)]) (n := 2) (Nat.le_of_ble_eq_true rfl)
  rw [lg_entry_eq]
  generalize (lg_sl ([.ref ra, .int (nI m)]) ++ List.replicate (2 - (lg_sl ([.ref ra, .int (nI m)])).length) Slot.unset).toArray = ls at hl ⊢
  replace hl : lv_has ls 2 [(0, .ref ra), (1, .int (nI m))] := hl
  refine lv_iload_n hx hb d_Ref_runs_0 rfl (lv_at hl 1 rfl) ?_
  have hP0 : va_P (dC, dI) classes [] s.heap := fun k q h => absurd h (by simp)
  have hK0 := hK.sub (tys' := []) [] rfl
  have hFc : ∀ q, va_A ([] : va_W) s.heap.size q → va_A (rw9 ra rA rK9 S) s.heap.size q := fun q h => h.elim (fun ⟨k, e, w⟩ => absurd w (by simp)) (fun w => hA q (Nat.le_trans hS.1 w))
  refine va_calli (va_runS (As := [.int (nI m)]) (rest := []) ⟨hx, hb, hml, hown, hw⟩ (gen_Ref_isModel l dC dI (nI m) s.heap.size) (cw_S 1 hw g_Ref_isModel rfl rfl rfl (hw _ m_109) (hw _ m_1066) (hw _ m_1067) (by decide +kernel) ⟨by show _ ≤ (30 : Nat); (try dsimp only); omega, by show _ ≤ (1500 : Nat); (try dsimp only); omega⟩) ⟨fun a U g mk q => by obtain ⟨q0, q1, qP, qK, qD, qN⟩ := q; exact ⟨q0, q1, qP, va_K.moved (u := U) (U := U.calling g mk a) (Vm.Alike.refl U.vm) qK, qD, nw_call qN⟩, fun U hU hW => ⟨rfl, by rw [hU], by rw [hU]; exact hP0, va_K.moved hW.alike hK0, vD0, nw_warm hW hn⟩⟩ rfl rfl hl.1 rfl (lv_room (Nat.le_of_ble_eq_true rfl)) d_Ref_runs_1 ⟨by show _ ≤ (0 : Nat); (try dsimp only); omega, by show _ ≤ (0 : Nat); (try dsimp only); omega⟩) hS (fun q _ h => hFc q h) hFc ?_
  intro r_1 u t9 H1 locs1 ht9 hvm hw1 hB hz1 hk1 hS1
  have hPn : va_P (dC, dI) classes (rw9 ra rA rK9 S) H1 := hP.kept (fun k q hk => hk1 q.1 (hP k q hk).lt (fun z => z.elim (fun ⟨k2, e, w⟩ => absurd w (by simp)) (fun w => absurd (hP k q hk).lt (Nat.not_lt.mpr w))))
  clear hB hz1 hk1 hFc hvm ht9 hP hS t9 hP0 hK0
  have hP := hPn
  clear hPn
  revert H1 locs1
  intro H locs hS hP
  refine tp_i (y := 1) (by rw [hw1, if_pos ⟨nI_pos (by omega), by rw [nI_clamp (by omega)]; exact hm⟩]) ?_
  refine tp_pc (pc' := 4) (by rfl) ?_
  refine lv_if_ne (tgt := 9) hx hb d_Ref_runs_4 (by decide) (fun c_2 => ?_) (fun c_2 => absurd c_2 (by decide))
  refine tp_pc (pc' := 9) (by rfl) ?_
  refine lv_aload_n hx hb d_Ref_runs_9 rfl (lv_at hl 0 rfl) ?_
  refine lv_iload_n hx hb d_Ref_runs_10 rfl (lv_at hl 1 rfl) ?_
  have hFc := oF9 hD hS hA
  refine va_callv (va_runV (As := [.int (nI m)]) (rest := []) ⟨hx, hb, hml, hown, hw⟩ (FI9 l dC dI ra rA rK9 S OS m hm hPr hO hf H.size) (cw_V 1 hw g_Ref_find rfl rfl rfl (hw _ m_109) (hw _ m_1069) (hw _ m_1071) (hw _ m_52) (by decide +kernel) ⟨by show _ ≤ (30 : Nat); (try dsimp only); omega, by show _ ≤ (1500 : Nat); (try dsimp only); omega⟩) ⟨fun a U g mk q => by obtain ⟨q0, q1, qP, qK, qD, qN⟩ := q; exact ⟨q0, q1, qP, va_K.moved (u := U) (U := U.calling g mk a) (Vm.Alike.refl U.vm) qK, qD, nw_call qN⟩, va_recv hK hP (ci := 8) (q0 := 0) rfl rfl, fun U hU hW => ⟨rfl, by rw [hU], by rw [hU]; exact hP, va_K.moved hW.alike hK, hD.weaken (fun _ _ _ _ => trivial), nw_warm hW hn⟩⟩ rfl rfl hl.1 rfl (lv_room (Nat.le_of_ble_eq_true rfl)) d_Ref_runs_11 ⟨by show _ ≤ (0 : Nat); (try dsimp only); omega, by show _ ≤ (0 : Nat); (try dsimp only); omega⟩) hS (fun q _ h => hFc q h) hFc ?_
  intro u t9 H1 locs1 ht9 hvm hw1 hB hz1 hk1 hS1
  obtain ⟨R2, OS2, hst, hB⟩ := hB
  obtain ⟨hPn, hDn⟩ := oNr9 hFc hB ht9
  clear hB hz1 hk1 hFc hvm ht9 hP hS hD t9 locs H
  have hP := hPn
  have hD := hDn
  clear hPn hDn
  revert H1 locs1
  intro H locs hS hP
  have hO2 := sFn_O hO hst
  refine tp_pc (pc' := 14) (by rfl) ?_
  refine lv_aload_n hx hb d_Ref_runs_14 rfl (lv_at hl 0 rfl) ?_
  refine va_get (D := (dC, dI)) (ci := 8) (v := .ref (rA 8)) (C := R_Ref) (T := F_Ref) (N := 48) hx hb hw i_Ref hown hK hP 0 rfl rfl 8 (by decide) (hw _ m_907) (fun _ h9 => h9) rfl d_Ref_runs_15 ?_
  refine lv_iload_n hx hb d_Ref_runs_18 rfl (lv_at hl 1 rfl) ?_
  refine va_iald (D := (dC, dI)) hx hb hK hP 7 6 rfl rfl (i := nI m) (pk_in m 8 (by omega)) d_Ref_runs_19 ?_
  refine tp_i (y := nI ((r_om R2) m)) (by rw [show (nI m : Int32).toNatClampNeg = m from pk_cl m]) ?_
  refine W.widen (k := 0) (n := 0) (by omega) (by omega) ?_
  exact W.iret (v := (nI ((r_om R2) m))) hx hb hr (fun t9 ht9 hW => ⟨⟨nI ((r_om R2) m), R2, rfl, ⟨OS2, hst, hO2, rfl⟩, by rw [ht9]; exact hP, hD⟩, hS.F ht9⟩) hS.2.2 d_Ref_runs_20
set_option maxHeartbeats 4000000 in
set_option maxRecDepth 100000 in
theorem rOr9 (l : Launch) (dC : Nat → ClassId) (dI : Nat → Nat → Nat) (ra : Nat) (rA : Nat → Nat) (rK9 : Nat → ClassId) (S : RX9) (OS : Nat → List O9) (m : Nat) (hm : m < 4) (hPr : PrR (r_T S) (r_zs S) (r_kd S) (r_vx S) (r_rr S) (r_vv S)) (hO : okO9 OS S) (hG : OkG9 S) (hf : r_ff S (4 + m) = 0 ∨ r_ff S (4 + m) = 1) (sz : Nat) : Met l y_Ref_orders w_Ref_orders ({ frames := 70, cells := 0, slots := 0, locals := 3400 }) (va_Pc [.ref ra, .int (nI m)] (SR9 dC dI ra rA rK9 S sz)) (va_Qi (fun (r : Int32) (R2 : RX9) => ∃ OS2, sGr9 OS S m R2 OS2 ∧ okO9 OS2 R2 ∧ r = nI (r_om R2 (4 + m))) (fun R2 t9 => PR9 dC dI ra rA rK9 S sz R2 t9) (va_A (rw9 ra rA rK9 S) sz)) (0) (0) (va_A (rw9 ra rA rK9 S) sz) := by
  refine Met.ofW (cc := b_Ref_orders) (maxL := 2) (ret := (some .int)) (by decide) rfl ?_
  intro p e0 s m9 args below meth c s₁ B hml hv
  obtain ⟨rfl, hsz, hP, hK, hD0, hn⟩ := hv
  have hx := B.exec
  have hb := B.bytes
  have hr := B.returns
  have hw := fun w (h : w ∈ wt) => atoms_spec (ws := w_Ref_orders) B.pre w (List.mem_cons_of_mem _ h)
  have hown : s.vm.findClass R_Ref = some m9.cls := findClass_of_methodNamed B.named
  have hlocks := B.notSynchronized
  subst hsz
  have hD := hD0.self (sz := s.heap.size)
  have hA : ∀ q : Nat, s.heap.size ≤ q → va_A (rw9 ra rA rK9 S) s.heap.size q := fun q h => Or.inr h
  clear hD0
  have hS : va_S (va_A (rw9 ra rA rK9 S) s.heap.size) s.heap s.heap [] := va_S.rf
  have hl := lv_entry ([.ref ra, .int (nI m)]) (n := 2) (Nat.le_of_ble_eq_true rfl)
  rw [lg_entry_eq]
  generalize (lg_sl ([.ref ra, .int (nI m)]) ++ List.replicate (2 - (lg_sl ([.ref ra, .int (nI m)])).length) Slot.unset).toArray = ls at hl ⊢
  replace hl : lv_has ls 2 [(0, .ref ra), (1, .int (nI m))] := hl
  refine lv_iload_n hx hb d_Ref_orders_0 rfl (lv_at hl 1 rfl) ?_
  have hP0 : va_P (dC, dI) classes [] s.heap := fun k q h => absurd h (by simp)
  have hK0 := hK.sub (tys' := []) [] rfl
  have hFc : ∀ q, va_A ([] : va_W) s.heap.size q → va_A (rw9 ra rA rK9 S) s.heap.size q := fun q h => h.elim (fun ⟨k, e, w⟩ => absurd w (by simp)) (fun w => hA q (Nat.le_trans hS.1 w))
  refine va_calli (va_runS (As := [.int (nI m)]) (rest := []) ⟨hx, hb, hml, hown, hw⟩ (gen_Ref_isModel l dC dI (nI m) s.heap.size) (cw_S 1 hw g_Ref_isModel rfl rfl rfl (hw _ m_109) (hw _ m_1066) (hw _ m_1067) (by decide +kernel) ⟨by show _ ≤ (70 : Nat); (try dsimp only); omega, by show _ ≤ (3400 : Nat); (try dsimp only); omega⟩) ⟨fun a U g mk q => by obtain ⟨q0, q1, qP, qK, qD, qN⟩ := q; exact ⟨q0, q1, qP, va_K.moved (u := U) (U := U.calling g mk a) (Vm.Alike.refl U.vm) qK, qD, nw_call qN⟩, fun U hU hW => ⟨rfl, by rw [hU], by rw [hU]; exact hP0, va_K.moved hW.alike hK0, vD0, nw_warm hW hn⟩⟩ rfl rfl hl.1 rfl (lv_room (Nat.le_of_ble_eq_true rfl)) d_Ref_orders_1 ⟨by show _ ≤ (0 : Nat); (try dsimp only); omega, by show _ ≤ (0 : Nat); (try dsimp only); omega⟩) hS (fun q _ h => hFc q h) hFc ?_
  intro r_1 u t9 H1 locs1 ht9 hvm hw1 hB hz1 hk1 hS1
  have hPn : va_P (dC, dI) classes (rw9 ra rA rK9 S) H1 := hP.kept (fun k q hk => hk1 q.1 (hP k q hk).lt (fun z => z.elim (fun ⟨k2, e, w⟩ => absurd w (by simp)) (fun w => absurd (hP k q hk).lt (Nat.not_lt.mpr w))))
  clear hB hz1 hk1 hFc hvm ht9 hP hS t9 hP0 hK0
  have hP := hPn
  clear hPn
  revert H1 locs1
  intro H locs hS hP
  refine tp_i (y := 1) (by rw [hw1, if_pos ⟨nI_pos (by omega), by rw [nI_clamp (by omega)]; exact hm⟩]) ?_
  refine tp_pc (pc' := 4) (by rfl) ?_
  refine lv_if_ne (tgt := 9) hx hb d_Ref_orders_4 (by decide) (fun c_2 => ?_) (fun c_2 => absurd c_2 (by decide))
  refine tp_pc (pc' := 9) (by rfl) ?_
  refine lv_aload_n hx hb d_Ref_orders_9 rfl (lv_at hl 0 rfl) ?_
  refine lv_iload_n hx hb d_Ref_orders_10 rfl (lv_at hl 1 rfl) ?_
  have hFc := oF9 hD hS hA
  refine va_callv (va_runV (As := [.int (nI m)]) (rest := []) ⟨hx, hb, hml, hown, hw⟩ (FH9 l dC dI ra rA rK9 S OS m hm hPr hO hG hf H.size) (cw_V 1 hw g_Ref_findGraphs rfl rfl rfl (hw _ m_109) (hw _ m_1186) (hw _ m_1188) (hw _ m_78) (by decide +kernel) ⟨by show _ ≤ (70 : Nat); (try dsimp only); omega, by show _ ≤ (3400 : Nat); (try dsimp only); omega⟩) ⟨fun a U g mk q => by obtain ⟨q0, q1, qP, qK, qD, qN⟩ := q; exact ⟨q0, q1, qP, va_K.moved (u := U) (U := U.calling g mk a) (Vm.Alike.refl U.vm) qK, qD, nw_call qN⟩, va_recv hK hP (ci := 8) (q0 := 0) rfl rfl, fun U hU hW => ⟨rfl, by rw [hU], by rw [hU]; exact hP, va_K.moved hW.alike hK, hD.weaken (fun _ _ _ _ => trivial), nw_warm hW hn⟩⟩ rfl rfl hl.1 rfl (lv_room (Nat.le_of_ble_eq_true rfl)) d_Ref_orders_11 ⟨by show _ ≤ (0 : Nat); (try dsimp only); omega, by show _ ≤ (0 : Nat); (try dsimp only); omega⟩) hS (fun q _ h => hFc q h) hFc ?_
  intro u t9 H1 locs1 ht9 hvm hw1 hB hz1 hk1 hS1
  obtain ⟨R2, OS2, hst, hB⟩ := hB
  obtain ⟨hPn, hDn⟩ := oNr9 hFc hB ht9
  clear hB hz1 hk1 hFc hvm ht9 hP hS hD t9 locs H
  have hP := hPn
  have hD := hDn
  clear hPn hDn
  revert H1 locs1
  intro H locs hS hP
  have hO2 := sGr_O hO hst
  refine tp_pc (pc' := 14) (by rfl) ?_
  refine lv_aload_n hx hb d_Ref_orders_14 rfl (lv_at hl 0 rfl) ?_
  refine va_get (D := (dC, dI)) (ci := 8) (v := .ref (rA 8)) (C := R_Ref) (T := F_Ref) (N := 48) hx hb hw i_Ref hown hK hP 0 rfl rfl 8 (by decide) (hw _ m_907) (fun _ h9 => h9) rfl d_Ref_orders_15 ?_
  refine lv_iconst (v := 4) hx hb d_Ref_orders_18 (by decide) ?_
  refine lv_iload_n hx hb d_Ref_orders_19 rfl (lv_at hl 1 rfl) ?_
  refine lv_iadd hx hb d_Ref_orders_20 ?_
  refine tp_i (y := nI (4 + m)) (by exact nI_add 4 m) ?_
  refine va_iald (D := (dC, dI)) hx hb hK hP 7 6 rfl rfl (i := nI (4 + m)) (pk_in (4 + m) 8 (by omega)) d_Ref_orders_21 ?_
  refine tp_i (y := nI ((r_om R2) (4 + m))) (by rw [show (nI (4 + m) : Int32).toNatClampNeg = 4 + m from pk_cl (4 + m)]) ?_
  refine W.widen (k := 0) (n := 0) (by omega) (by omega) ?_
  exact W.iret (v := (nI ((r_om R2) (4 + m)))) hx hb hr (fun t9 ht9 hW => ⟨⟨nI ((r_om R2) (4 + m)), R2, rfl, ⟨OS2, hst, hO2, rfl⟩, by rw [ht9]; exact hP, hD⟩, hS.F ht9⟩) hS.2.2 d_Ref_orders_22
set_option maxHeartbeats 4000000 in
set_option maxRecDepth 100000 in
theorem rGr9 (l : Launch) (dC : Nat → ClassId) (dI : Nat → Nat → Nat) (ra : Nat) (rA : Nat → Nat) (rK9 : Nat → ClassId) (S : RX9) (OS : Nat → List O9) (m : Nat) (hm : m < 4) (hPr : PrR (r_T S) (r_zs S) (r_kd S) (r_vx S) (r_rr S) (r_vv S)) (hO : okO9 OS S) (hG : OkG9 S) (hf : r_ff S (4 + m) = 0 ∨ r_ff S (4 + m) = 1) (sz : Nat) : Met l y_Ref_graphs w_Ref_graphs ({ frames := 70, cells := 0, slots := 0, locals := 3400 }) (va_Pc [.ref ra, .int (nI m)] (SR9 dC dI ra rA rK9 S sz)) (va_Qi (fun (r : Int32) (R2 : RX9) => ∃ OS2, sGr9 OS S m R2 OS2 ∧ okO9 OS2 R2 ∧ r = nI (r_gq R2 m)) (fun R2 t9 => PR9 dC dI ra rA rK9 S sz R2 t9) (va_A (rw9 ra rA rK9 S) sz)) (0) (0) (va_A (rw9 ra rA rK9 S) sz) := by
  refine Met.ofW (cc := b_Ref_graphs) (maxL := 2) (ret := (some .int)) (by decide) rfl ?_
  intro p e0 s m9 args below meth c s₁ B hml hv
  obtain ⟨rfl, hsz, hP, hK, hD0, hn⟩ := hv
  have hx := B.exec
  have hb := B.bytes
  have hr := B.returns
  have hw := fun w (h : w ∈ wt) => atoms_spec (ws := w_Ref_graphs) B.pre w (List.mem_cons_of_mem _ h)
  have hown : s.vm.findClass R_Ref = some m9.cls := findClass_of_methodNamed B.named
  have hlocks := B.notSynchronized
  subst hsz
  have hD := hD0.self (sz := s.heap.size)
  have hA : ∀ q : Nat, s.heap.size ≤ q → va_A (rw9 ra rA rK9 S) s.heap.size q := fun q h => Or.inr h
  clear hD0
  have hS : va_S (va_A (rw9 ra rA rK9 S) s.heap.size) s.heap s.heap [] := va_S.rf
  have hl := lv_entry ([.ref ra, .int (nI m)]) (n := 2) (Nat.le_of_ble_eq_true rfl)
  rw [lg_entry_eq]
  generalize (lg_sl ([.ref ra, .int (nI m)]) ++ List.replicate (2 - (lg_sl ([.ref ra, .int (nI m)])).length) Slot.unset).toArray = ls at hl ⊢
  replace hl : lv_has ls 2 [(0, .ref ra), (1, .int (nI m))] := hl
  refine lv_iload_n hx hb d_Ref_graphs_0 rfl (lv_at hl 1 rfl) ?_
  have hP0 : va_P (dC, dI) classes [] s.heap := fun k q h => absurd h (by simp)
  have hK0 := hK.sub (tys' := []) [] rfl
  have hFc : ∀ q, va_A ([] : va_W) s.heap.size q → va_A (rw9 ra rA rK9 S) s.heap.size q := fun q h => h.elim (fun ⟨k, e, w⟩ => absurd w (by simp)) (fun w => hA q (Nat.le_trans hS.1 w))
  refine va_calli (va_runS (As := [.int (nI m)]) (rest := []) ⟨hx, hb, hml, hown, hw⟩ (gen_Ref_isModel l dC dI (nI m) s.heap.size) (cw_S 1 hw g_Ref_isModel rfl rfl rfl (hw _ m_109) (hw _ m_1066) (hw _ m_1067) (by decide +kernel) ⟨by show _ ≤ (70 : Nat); (try dsimp only); omega, by show _ ≤ (3400 : Nat); (try dsimp only); omega⟩) ⟨fun a U g mk q => by obtain ⟨q0, q1, qP, qK, qD, qN⟩ := q; exact ⟨q0, q1, qP, va_K.moved (u := U) (U := U.calling g mk a) (Vm.Alike.refl U.vm) qK, qD, nw_call qN⟩, fun U hU hW => ⟨rfl, by rw [hU], by rw [hU]; exact hP0, va_K.moved hW.alike hK0, vD0, nw_warm hW hn⟩⟩ rfl rfl hl.1 rfl (lv_room (Nat.le_of_ble_eq_true rfl)) d_Ref_graphs_1 ⟨by show _ ≤ (0 : Nat); (try dsimp only); omega, by show _ ≤ (0 : Nat); (try dsimp only); omega⟩) hS (fun q _ h => hFc q h) hFc ?_
  intro r_1 u t9 H1 locs1 ht9 hvm hw1 hB hz1 hk1 hS1
  have hPn : va_P (dC, dI) classes (rw9 ra rA rK9 S) H1 := hP.kept (fun k q hk => hk1 q.1 (hP k q hk).lt (fun z => z.elim (fun ⟨k2, e, w⟩ => absurd w (by simp)) (fun w => absurd (hP k q hk).lt (Nat.not_lt.mpr w))))
  clear hB hz1 hk1 hFc hvm ht9 hP hS t9 hP0 hK0
  have hP := hPn
  clear hPn
  revert H1 locs1
  intro H locs hS hP
  refine tp_i (y := 1) (by rw [hw1, if_pos ⟨nI_pos (by omega), by rw [nI_clamp (by omega)]; exact hm⟩]) ?_
  refine tp_pc (pc' := 4) (by rfl) ?_
  refine lv_if_ne (tgt := 9) hx hb d_Ref_graphs_4 (by decide) (fun c_2 => ?_) (fun c_2 => absurd c_2 (by decide))
  refine tp_pc (pc' := 9) (by rfl) ?_
  refine lv_aload_n hx hb d_Ref_graphs_9 rfl (lv_at hl 0 rfl) ?_
  refine lv_iload_n hx hb d_Ref_graphs_10 rfl (lv_at hl 1 rfl) ?_
  have hFc := oF9 hD hS hA
  refine va_callv (va_runV (As := [.int (nI m)]) (rest := []) ⟨hx, hb, hml, hown, hw⟩ (FH9 l dC dI ra rA rK9 S OS m hm hPr hO hG hf H.size) (cw_V 1 hw g_Ref_findGraphs rfl rfl rfl (hw _ m_109) (hw _ m_1186) (hw _ m_1188) (hw _ m_78) (by decide +kernel) ⟨by show _ ≤ (70 : Nat); (try dsimp only); omega, by show _ ≤ (3400 : Nat); (try dsimp only); omega⟩) ⟨fun a U g mk q => by obtain ⟨q0, q1, qP, qK, qD, qN⟩ := q; exact ⟨q0, q1, qP, va_K.moved (u := U) (U := U.calling g mk a) (Vm.Alike.refl U.vm) qK, qD, nw_call qN⟩, va_recv hK hP (ci := 8) (q0 := 0) rfl rfl, fun U hU hW => ⟨rfl, by rw [hU], by rw [hU]; exact hP, va_K.moved hW.alike hK, hD.weaken (fun _ _ _ _ => trivial), nw_warm hW hn⟩⟩ rfl rfl hl.1 rfl (lv_room (Nat.le_of_ble_eq_true rfl)) d_Ref_graphs_11 ⟨by show _ ≤ (0 : Nat); (try dsimp only); omega, by show _ ≤ (0 : Nat); (try dsimp only); omega⟩) hS (fun q _ h => hFc q h) hFc ?_
  intro u t9 H1 locs1 ht9 hvm hw1 hB hz1 hk1 hS1
  obtain ⟨R2, OS2, hst, hB⟩ := hB
  obtain ⟨hPn, hDn⟩ := oNr9 hFc hB ht9
  clear hB hz1 hk1 hFc hvm ht9 hP hS hD t9 locs H
  have hP := hPn
  have hD := hDn
  clear hPn hDn
  revert H1 locs1
  intro H locs hS hP
  have hO2 := sGr_O hO hst
  refine tp_pc (pc' := 14) (by rfl) ?_
  refine lv_aload_n hx hb d_Ref_graphs_14 rfl (lv_at hl 0 rfl) ?_
  refine va_get (D := (dC, dI)) (ci := 8) (v := .ref (rA 13)) (C := R_Ref) (T := F_Ref) (N := 48) hx hb hw i_Ref hown hK hP 0 rfl rfl 13 (by decide) (hw _ m_912) (fun _ h9 => h9) rfl d_Ref_graphs_15 ?_
  refine lv_iload_n hx hb d_Ref_graphs_18 rfl (lv_at hl 1 rfl) ?_
  refine va_iald (D := (dC, dI)) hx hb hK hP 12 11 rfl rfl (i := nI m) (pk_in m 4 (by omega)) d_Ref_graphs_19 ?_
  refine tp_i (y := nI ((r_gq R2) m)) (by rw [show (nI m : Int32).toNatClampNeg = m from pk_cl m]) ?_
  refine W.widen (k := 0) (n := 0) (by omega) (by omega) ?_
  exact W.iret (v := (nI ((r_gq R2) m))) hx hb hr (fun t9 ht9 hW => ⟨⟨nI ((r_gq R2) m), R2, rfl, ⟨OS2, hst, hO2, rfl⟩, by rw [ht9]; exact hP, hD⟩, hS.F ht9⟩) hS.2.2 d_Ref_graphs_20
