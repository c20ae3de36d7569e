theorem vD0 {A : Nat → Prop} : va_D A ([] : va_W) := ⟨fun i j p q h => absurd h (by simp), fun k q h => absurd h (by simp)⟩
theorem sAt9 {S : CX9} {m : Nat} (hm : m < 4) : (cw9 S)[44 + 6 * m]? = some (oc (x_fA S m) 3 [.int (nI (o_E (x_SA S m))), .ref (o_ad (x_SA S m) 1), .ref (o_ad (x_SA S m) 2), .ref (o_ad (x_SA S m) 3), .ref (o_ad (x_SA S m) 4), .ref (o_ad (x_SA S m) 5), .int (o_n0 (x_SA S m)), .int (o_sd (x_SA S m)), .int (o_rd (x_SA S m))]) := by
  have c : m = 0 ∨ m = 1 ∨ m = 2 ∨ m = 3 := by omega
  rcases c with rfl | rfl | rfl | rfl <;> rfl
theorem sBt9 {S : CX9} {m : Nat} (hm : m < 4) : (cw9 S)[68 + 6 * m]? = some (oc (x_fB S m) 3 [.int (nI (o_E (x_SB S m))), .ref (o_ad (x_SB S m) 1), .ref (o_ad (x_SB S m) 2), .ref (o_ad (x_SB S m) 3), .ref (o_ad (x_SB S m) 4), .ref (o_ad (x_SB S m) 5), .int (o_n0 (x_SB S m)), .int (o_sd (x_SB S m)), .int (o_rd (x_SB S m))]) := by
  have c : m = 0 ∨ m = 1 ∨ m = 2 ∨ m = 3 := by omega
  rcases c with rfl | rfl | rfl | rfl <;> rfl
theorem stR_f {S S2 : CX9} {m : Nat} (h : sRn9 S m S2) : x_fA S2 = x_fA S ∧ x_oa S2 = x_oa S := by
  rcases h with ⟨-, rfl⟩ | ⟨-, -, j1, j2, d1, d2, kf, sf, ad, ck, rf, vf, lf, qf, of, vl, pv, -, -, -, -, rfl⟩ | ⟨-, -, j1, j2, d1, d2, kf, sf, ad, ck, rf, vf, lf, qf, of, vl, pv, tl, -, -, -, -, rfl⟩ <;> exact ⟨rfl, rfl⟩
theorem stG_f {S S2 : CX9} {m : Nat} (h : sGn9 S m S2) : x_fB S2 = x_fB S ∧ x_oa S2 = x_oa S := by
  rcases h with ⟨-, rfl⟩ | ⟨-, ad, ck, rf, vf, lf, qf, of, vl, -, -, -, rfl⟩ <;> exact ⟨rfl, rfl⟩
/-- a model's number -/
def mok9 (m9 : Int32) : Prop := ¬ m9 < 0 ∧ m9.toNatClampNeg < 4
theorem mok_9 {m9 : Int32} (h : mok9 m9) : ∃ m, m < 4 ∧ m9 = nI m := by
  obtain ⟨k, h2, h1⟩ := nI_of h.1
  refine ⟨k, ?_, h1⟩
  have := h.2
  rw [h1, nI_clamp h2] at this; exact this
set_option maxHeartbeats 4000000 in
set_option maxRecDepth 100000 in
theorem cRu9 (l : Launch) (dC : Nat → ClassId) (dI : Nat → Nat → Nat) (S : CX9) (m : Nat) (hm : m < 4) (hO : OkB9 S) (sz : Nat) : Met l y_OM_runs w_OM_runs ({ frames := 84, cells := mcR9 S m, slots := msR9 S m, locals := 4200 }) (va_Pc [.ref (x_oa S), .int (nI m)] (SW9 dC dI S sz)) (va_Qi (fun (r : Int32) (S2 : CX9) => sRn9 S m S2 ∧ r = o_n0 (x_SA S2 m)) (fun S2 t9 => PW9 l dC dI S sz S2 t9) (va_A (cw9 S) sz)) (mcR9 S m) (msR9 S m) (va_A (cw9 S) sz) := by
  refine Met.ofW (cc := b_OM_runs) (maxL := 2) (ret := (some .int)) (by decide) rfl ?_
  intro p e0 s m9 args below meth c s₁ B hml hv
  obtain ⟨rfl, hsz, hP, hK, hD0, hn⟩ := hv
  have hx := B.exec
  have hb := B.bytes
  have hr := B.returns
  have hw := fun w (h : w ∈ wt) => atoms_spec (ws := w_OM_runs) B.pre w (List.mem_cons_of_mem _ h)
  have hown : s.vm.findClass R_OM = some m9.cls := findClass_of_methodNamed B.named
  have hlocks := B.notSynchronized
  subst hsz
  have hD := hD0.self (sz := s.heap.size)
  have hA : ∀ q : Nat, s.heap.size ≤ q → va_A (cw9 S) s.heap.size q := fun q h => Or.inr h
  clear hD0
  have hS : va_S (va_A (cw9 S) s.heap.size) s.heap s.heap [] := va_S.rf
  have hl := lv_entry ([.ref (x_oa S), .int (nI m)]) (n := 2) (Nat.le_of_ble_eq_true rfl)
  rw [lg_entry_eq]
  generalize (lg_sl ([.ref (x_oa S), .int (nI m)]) ++ List.replicate (2 - (lg_sl ([.ref (x_oa S), .int (nI m)])).length) Slot.unset).toArray = ls at hl ⊢
  replace hl : lv_has ls 2 [(0, .ref (x_oa S)), (1, .int (nI m))] := hl
  refine lv_iload_n hx hb d_OM_runs_0 rfl (lv_at hl 1 rfl) ?_
  have hP0 : va_P (dC, dI) classes [] s.heap := fun k q h => absurd h (by simp)
  have hK0 := hK.sub (tys' := []) [] rfl
  have hFc : ∀ q, va_A ([] : va_W) s.heap.size q → va_A (cw9 S) s.heap.size q := fun q h => h.elim (fun ⟨k, e, w⟩ => absurd w (by simp)) (fun w => hA q (Nat.le_trans hS.1 w))
  refine va_calli (va_runS (As := [.int (nI m)]) (rest := []) ⟨hx, hb, hml, hown, hw⟩ (gen_OM_isModel l dC dI (nI m) s.heap.size) (cw_S 1 hw g_OM_isModel rfl rfl rfl (hw _ m_101) (hw _ m_465) (hw _ m_466) (by decide +kernel) ⟨by show _ ≤ (84 : Nat); (try dsimp only); omega, by show _ ≤ (4200 : Nat); (try dsimp only); omega⟩) ⟨fun a U g mk q => by obtain ⟨q0, q1, qP, qK, qD, qN⟩ := q; exact ⟨q0, q1, qP, va_K.moved (u := U) (U := U.calling g mk a) (Vm.Alike.refl U.vm) qK, qD, nw_call qN⟩, fun U hU hW => ⟨rfl, by rw [hU], by rw [hU]; exact hP0, va_K.moved hW.alike hK0, vD0, nw_warm hW hn⟩⟩ rfl rfl hl.1 rfl (lv_room (Nat.le_of_ble_eq_true rfl)) d_OM_runs_1 ⟨by show _ ≤ (mcR9 S m : Nat); (try dsimp only); omega, by show _ ≤ (msR9 S m : Nat); (try dsimp only); omega⟩) hS (fun q _ h => hFc q h) hFc ?_
  intro r_1 u t9 H1 locs1 ht9 hvm hw1 hB hz1 hk1 hS1
  have hPn : va_P (dC, dI) classes (cw9 S) H1 := hP.kept (fun k q hk => hk1 q.1 (hP k q hk).lt (fun z => z.elim (fun ⟨k2, e, w⟩ => absurd w (by simp)) (fun w => absurd (hP k q hk).lt (Nat.not_lt.mpr w))))
  clear hB hz1 hk1 hFc hvm ht9 hP hS t9 hP0 hK0
  have hP := hPn
  clear hPn
  revert H1 locs1
  intro H locs hS hP
  refine tp_i (y := 1) (by rw [hw1, if_pos ⟨nI_pos (by omega), by rw [nI_clamp (by omega)]; exact hm⟩]) ?_
  refine tp_pc (pc' := 4) (by rfl) ?_
  refine lv_if_eq (tgt := 18) hx hb d_OM_runs_4 (by decide) (fun c_2 => absurd c_2 (by decide)) (fun c_2 => ?_)
  refine tp_pc (pc' := 7) (by rfl) ?_
  refine lv_aload_n hx hb d_OM_runs_7 rfl (lv_at hl 0 rfl) ?_
  refine lv_iload_n hx hb d_OM_runs_8 rfl (lv_at hl 1 rfl) ?_
  have hFc := oF9 hD hS hA
  refine va_callr (va_runV (As := [.int (nI m)]) (rest := []) ⟨hx, hb, hml, hown, hw⟩ (FR9 l dC dI S m hm hO H.size) (cw_V 1 hw g_OM_foundByRuns rfl rfl rfl (hw _ m_101) (hw _ m_468) (hw _ m_470) (hw _ m_1) (by decide +kernel) ⟨by show _ ≤ (84 : Nat); (try dsimp only); omega, by show _ ≤ (4200 : Nat); (try dsimp only); omega⟩) ⟨fun a U g mk q => by obtain ⟨q0, q1, qP, qK, qD, qN⟩ := q; exact ⟨q0, q1, qP, va_K.moved (u := U) (U := U.calling g mk a) (Vm.Alike.refl U.vm) qK, qD, nw_call qN⟩, va_recv hK hP (ci := 7) (q0 := 0) rfl rfl, fun U hU hW => ⟨rfl, by rw [hU], by rw [hU]; exact hP, va_K.moved hW.alike hK, hD.weaken (fun _ _ _ _ => trivial), nw_warm hW hn⟩⟩ rfl rfl hl.1 rfl (lv_room (Nat.le_of_ble_eq_true rfl)) d_OM_runs_9 ⟨by show _ ≤ (mcR9 S m : Nat); (try dsimp only); omega, by show _ ≤ (msR9 S m : Nat); (try dsimp only); omega⟩) hS (fun q _ h => hFc q h) hFc ?_
  intro u r_3 t9 H1 locs1 ht9 hvm hw1 hB hz1 hk1 hS1
  obtain ⟨S2, hra, hst, hB⟩ := hB
  obtain ⟨hPn, hKn, hDn⟩ := oN9 hK hFc hB ht9 hvm
  clear hB hz1 hk1 hFc hvm ht9 hP hS hK hD t9 locs H
  have hP := hPn
  have hK := hKn
  have hD := hDn
  clear hPn hKn hDn
  revert H1 locs1
  intro H locs hS hP
  refine tp_r (y := (x_fA S2 m)) (by rw [(stR_f hst).1]; exact hra) ?_
  refine tp_pc (pc' := 12) (by rfl) ?_
  refine va_get (D := (dC, dI)) (ci := 3) (v := .int (o_n0 (x_SA S2 m))) (C := R_OutcomeSet) (T := F_OutcomeSet) (N := 9) hx hb hw i_OutcomeSet hown hK hP (44 + 6 * m) (sAt9 hm) rfl 6 (by decide) (hw _ m_385) (fun _ h9 => h9) rfl d_OM_runs_12 ?_
  refine lv_goto (tgt := 19) hx hb d_OM_runs_15 (by decide) ?_
  refine tp_pc (pc' := 19) (by rfl) ?_
  refine W.widen (k := mcR9 S m) (n := msR9 S m) (by omega) (by omega) ?_
  exact W.iret (v := (o_n0 (x_SA S2 m))) hx hb hr (fun t9 ht9 hW => ⟨⟨o_n0 (x_SA S2 m), S2, rfl, ⟨hst, rfl⟩, by rw [ht9]; exact hP, ⟨ct9 S2, va_K.moved hW.alike hK, fun q h => Or.inr h⟩, hD⟩, hS.F ht9⟩) hS.2.2 d_OM_runs_19
set_option maxHeartbeats 4000000 in
set_option maxRecDepth 100000 in
theorem cOr9 (l : Launch) (dC : Nat → ClassId) (dI : Nat → Nat → Nat) (S : CX9) (m : Nat) (hm : m < 4) (hO : OkB9 S) (sz : Nat) : Met l y_OM_orders w_OM_orders ({ frames := 104, cells := mcG9 S m, slots := msG9 S m, locals := 5200 }) (va_Pc [.ref (x_oa S), .int (nI m)] (SW9 dC dI S sz)) (va_Qi (fun (r : Int32) (S2 : CX9) => sGn9 S m S2 ∧ r = o_n0 (x_SB S2 m)) (fun S2 t9 => PW9 l dC dI S sz S2 t9) (va_A (cw9 S) sz)) (mcG9 S m) (msG9 S m) (va_A (cw9 S) sz) := by
  refine Met.ofW (cc := b_OM_orders) (maxL := 2) (ret := (some .int)) (by decide) rfl ?_
  intro p e0 s m9 args below meth c s₁ B hml hv
  obtain ⟨rfl, hsz, hP, hK, hD0, hn⟩ := hv
  have hx := B.exec
  have hb := B.bytes
  have hr := B.returns
  have hw := fun w (h : w ∈ wt) => atoms_spec (ws := w_OM_orders) B.pre w (List.mem_cons_of_mem _ h)
  have hown : s.vm.findClass R_OM = some m9.cls := findClass_of_methodNamed B.named
  have hlocks := B.notSynchronized
  subst hsz
  have hD := hD0.self (sz := s.heap.size)
  have hA : ∀ q : Nat, s.heap.size ≤ q → va_A (cw9 S) s.heap.size q := fun q h => Or.inr h
  clear hD0
  have hS : va_S (va_A (cw9 S) s.heap.size) s.heap s.heap [] := va_S.rf
  have hl := lv_entry ([.ref (x_oa S), .int (nI m)]) (n := 2) (Nat.le_of_ble_eq_true rfl)
  rw [lg_entry_eq]
  generalize (lg_sl ([.ref (x_oa S), .int (nI m)]) ++ List.replicate (2 - (lg_sl ([.ref (x_oa S), .int (nI m)])).length) Slot.unset).toArray = ls at hl ⊢
  replace hl : lv_has ls 2 [(0, .ref (x_oa S)), (1, .int (nI m))] := hl
  refine lv_iload_n hx hb d_OM_orders_0 rfl (lv_at hl 1 rfl) ?_
  have hP0 : va_P (dC, dI) classes [] s.heap := fun k q h => absurd h (by simp)
  have hK0 := hK.sub (tys' := []) [] rfl
  have hFc : ∀ q, va_A ([] : va_W) s.heap.size q → va_A (cw9 S) s.heap.size q := fun q h => h.elim (fun ⟨k, e, w⟩ => absurd w (by simp)) (fun w => hA q (Nat.le_trans hS.1 w))
  refine va_calli (va_runS (As := [.int (nI m)]) (rest := []) ⟨hx, hb, hml, hown, hw⟩ (gen_OM_isModel l dC dI (nI m) s.heap.size) (cw_S 1 hw g_OM_isModel rfl rfl rfl (hw _ m_101) (hw _ m_465) (hw _ m_466) (by decide +kernel) ⟨by show _ ≤ (104 : Nat); (try dsimp only); omega, by show _ ≤ (5200 : Nat); (try dsimp only); omega⟩) ⟨fun a U g mk q => by obtain ⟨q0, q1, qP, qK, qD, qN⟩ := q; exact ⟨q0, q1, qP, va_K.moved (u := U) (U := U.calling g mk a) (Vm.Alike.refl U.vm) qK, qD, nw_call qN⟩, fun U hU hW => ⟨rfl, by rw [hU], by rw [hU]; exact hP0, va_K.moved hW.alike hK0, vD0, nw_warm hW hn⟩⟩ rfl rfl hl.1 rfl (lv_room (Nat.le_of_ble_eq_true rfl)) d_OM_orders_1 ⟨by show _ ≤ (mcG9 S m : Nat); (try dsimp only); omega, by show _ ≤ (msG9 S m : Nat); (try dsimp only); omega⟩) hS (fun q _ h => hFc q h) hFc ?_
  intro r_1 u t9 H1 locs1 ht9 hvm hw1 hB hz1 hk1 hS1
  have hPn : va_P (dC, dI) classes (cw9 S) H1 := hP.kept (fun k q hk => hk1 q.1 (hP k q hk).lt (fun z => z.elim (fun ⟨k2, e, w⟩ => absurd w (by simp)) (fun w => absurd (hP k q hk).lt (Nat.not_lt.mpr w))))
  clear hB hz1 hk1 hFc hvm ht9 hP hS t9 hP0 hK0
  have hP := hPn
  clear hPn
  revert H1 locs1
  intro H locs hS hP
  refine tp_i (y := 1) (by rw [hw1, if_pos ⟨nI_pos (by omega), by rw [nI_clamp (by omega)]; exact hm⟩]) ?_
  refine tp_pc (pc' := 4) (by rfl) ?_
  refine lv_if_eq (tgt := 18) hx hb d_OM_orders_4 (by decide) (fun c_2 => absurd c_2 (by decide)) (fun c_2 => ?_)
  refine tp_pc (pc' := 7) (by rfl) ?_
  refine lv_aload_n hx hb d_OM_orders_7 rfl (lv_at hl 0 rfl) ?_
  refine lv_iload_n hx hb d_OM_orders_8 rfl (lv_at hl 1 rfl) ?_
  have hFc := oF9 hD hS hA
  refine va_callr (va_runV (As := [.int (nI m)]) (rest := []) ⟨hx, hb, hml, hown, hw⟩ (FG9 l dC dI S m hm hO H.size) (cw_V 1 hw g_OM_foundByGraphs rfl rfl rfl (hw _ m_101) (hw _ m_737) (hw _ m_739) (hw _ m_30) (by decide +kernel) ⟨by show _ ≤ (104 : Nat); (try dsimp only); omega, by show _ ≤ (5200 : Nat); (try dsimp only); omega⟩) ⟨fun a U g mk q => by obtain ⟨q0, q1, qP, qK, qD, qN⟩ := q; exact ⟨q0, q1, qP, va_K.moved (u := U) (U := U.calling g mk a) (Vm.Alike.refl U.vm) qK, qD, nw_call qN⟩, va_recv hK hP (ci := 7) (q0 := 0) rfl rfl, fun U hU hW => ⟨rfl, by rw [hU], by rw [hU]; exact hP, va_K.moved hW.alike hK, hD.weaken (fun _ _ _ _ => trivial), nw_warm hW hn⟩⟩ rfl rfl hl.1 rfl (lv_room (Nat.le_of_ble_eq_true rfl)) d_OM_orders_9 ⟨by show _ ≤ (mcG9 S m : Nat); (try dsimp only); omega, by show _ ≤ (msG9 S m : Nat); (try dsimp only); omega⟩) hS (fun q _ h => hFc q h) hFc ?_
  intro u r_3 t9 H1 locs1 ht9 hvm hw1 hB hz1 hk1 hS1
  obtain ⟨S2, hra, hst, hB⟩ := hB
  obtain ⟨hPn, hKn, hDn⟩ := oN9 hK hFc hB ht9 hvm
  clear hB hz1 hk1 hFc hvm ht9 hP hS hK hD t9 locs H
  have hP := hPn
  have hK := hKn
  have hD := hDn
  clear hPn hKn hDn
  revert H1 locs1
  intro H locs hS hP
  refine tp_r (y := (x_fB S2 m)) (by rw [(stG_f hst).1]; exact hra) ?_
  refine tp_pc (pc' := 12) (by rfl) ?_
  refine va_get (D := (dC, dI)) (ci := 3) (v := .int (o_n0 (x_SB S2 m))) (C := R_OutcomeSet) (T := F_OutcomeSet) (N := 9) hx hb hw i_OutcomeSet hown hK hP (68 + 6 * m) (sBt9 hm) rfl 6 (by decide) (hw _ m_385) (fun _ h9 => h9) rfl d_OM_orders_12 ?_
  refine lv_goto (tgt := 19) hx hb d_OM_orders_15 (by decide) ?_
  refine tp_pc (pc' := 19) (by rfl) ?_
  refine W.widen (k := mcG9 S m) (n := msG9 S m) (by omega) (by omega) ?_
  exact W.iret (v := (o_n0 (x_SB S2 m))) hx hb hr (fun t9 ht9 hW => ⟨⟨o_n0 (x_SB S2 m), S2, rfl, ⟨hst, rfl⟩, by rw [ht9]; exact hP, ⟨ct9 S2, va_K.moved hW.alike hK, fun q h => Or.inr h⟩, hD⟩, hS.F ht9⟩) hS.2.2 d_OM_orders_19
set_option maxHeartbeats 4000000 in
set_option maxRecDepth 100000 in
theorem cGr9 (l : Launch) (dC : Nat → ClassId) (dI : Nat → Nat → Nat) (S : CX9) (m : Nat) (hm : m < 4) (hO : OkB9 S) (sz : Nat) : Met l y_OM_graphs w_OM_graphs ({ frames := 104, cells := mcG9 S m, slots := msG9 S m, locals := 5200 }) (va_Pc [.ref (x_oa S), .int (nI m)] (SW9 dC dI S sz)) (va_Qi (fun (r : Int32) (S2 : CX9) => sGn9 S m S2 ∧ r = o_sd (x_SB S2 m)) (fun S2 t9 => PW9 l dC dI S sz S2 t9) (va_A (cw9 S) sz)) (mcG9 S m) (msG9 S m) (va_A (cw9 S) sz) := by
  refine Met.ofW (cc := b_OM_graphs) (maxL := 2) (ret := (some .int)) (by decide) rfl ?_
  intro p e0 s m9 args below meth c s₁ B hml hv
  obtain ⟨rfl, hsz, hP, hK, hD0, hn⟩ := hv
  have hx := B.exec
  have hb := B.bytes
  have hr := B.returns
  have hw := fun w (h : w ∈ wt) => atoms_spec (ws := w_OM_graphs) B.pre w (List.mem_cons_of_mem _ h)
  have hown : s.vm.findClass R_OM = some m9.cls := findClass_of_methodNamed B.named
  have hlocks := B.notSynchronized
  subst hsz
  have hD := hD0.self (sz := s.heap.size)
  have hA : ∀ q : Nat, s.heap.size ≤ q → va_A (cw9 S) s.heap.size q := fun q h => Or.inr h
  clear hD0
  have hS : va_S (va_A (cw9 S) s.heap.size) s.heap s.heap [] := va_S.rf
  have hl := lv_entry ([.ref (x_oa S), .int (nI m)]) (n := 2) (Nat.le_of_ble_eq_true rfl)
  rw [lg_entry_eq]
  generalize (lg_sl ([.ref (x_oa S), .int (nI m)]) ++ List.replicate (2 - (lg_sl ([.ref (x_oa S), .int (nI m)])).length) Slot.unset).toArray = ls at hl ⊢
  replace hl : lv_has ls 2 [(0, .ref (x_oa S)), (1, .int (nI m))] := hl
  refine lv_iload_n hx hb d_OM_graphs_0 rfl (lv_at hl 1 rfl) ?_
  have hP0 : va_P (dC, dI) classes [] s.heap := fun k q h => absurd h (by simp)
  have hK0 := hK.sub (tys' := []) [] rfl
  have hFc : ∀ q, va_A ([] : va_W) s.heap.size q → va_A (cw9 S) s.heap.size q := fun q h => h.elim (fun ⟨k, e, w⟩ => absurd w (by simp)) (fun w => hA q (Nat.le_trans hS.1 w))
  refine va_calli (va_runS (As := [.int (nI m)]) (rest := []) ⟨hx, hb, hml, hown, hw⟩ (gen_OM_isModel l dC dI (nI m) s.heap.size) (cw_S 1 hw g_OM_isModel rfl rfl rfl (hw _ m_101) (hw _ m_465) (hw _ m_466) (by decide +kernel) ⟨by show _ ≤ (104 : Nat); (try dsimp only); omega, by show _ ≤ (5200 : Nat); (try dsimp only); omega⟩) ⟨fun a U g mk q => by obtain ⟨q0, q1, qP, qK, qD, qN⟩ := q; exact ⟨q0, q1, qP, va_K.moved (u := U) (U := U.calling g mk a) (Vm.Alike.refl U.vm) qK, qD, nw_call qN⟩, fun U hU hW => ⟨rfl, by rw [hU], by rw [hU]; exact hP0, va_K.moved hW.alike hK0, vD0, nw_warm hW hn⟩⟩ rfl rfl hl.1 rfl (lv_room (Nat.le_of_ble_eq_true rfl)) d_OM_graphs_1 ⟨by show _ ≤ (mcG9 S m : Nat); (try dsimp only); omega, by show _ ≤ (msG9 S m : Nat); (try dsimp only); omega⟩) hS (fun q _ h => hFc q h) hFc ?_
  intro r_1 u t9 H1 locs1 ht9 hvm hw1 hB hz1 hk1 hS1
  have hPn : va_P (dC, dI) classes (cw9 S) H1 := hP.kept (fun k q hk => hk1 q.1 (hP k q hk).lt (fun z => z.elim (fun ⟨k2, e, w⟩ => absurd w (by simp)) (fun w => absurd (hP k q hk).lt (Nat.not_lt.mpr w))))
  clear hB hz1 hk1 hFc hvm ht9 hP hS t9 hP0 hK0
  have hP := hPn
  clear hPn
  revert H1 locs1
  intro H locs hS hP
  refine tp_i (y := 1) (by rw [hw1, if_pos ⟨nI_pos (by omega), by rw [nI_clamp (by omega)]; exact hm⟩]) ?_
  refine tp_pc (pc' := 4) (by rfl) ?_
  refine lv_if_eq (tgt := 18) hx hb d_OM_graphs_4 (by decide) (fun c_2 => absurd c_2 (by decide)) (fun c_2 => ?_)
  refine tp_pc (pc' := 7) (by rfl) ?_
  refine lv_aload_n hx hb d_OM_graphs_7 rfl (lv_at hl 0 rfl) ?_
  refine lv_iload_n hx hb d_OM_graphs_8 rfl (lv_at hl 1 rfl) ?_
  have hFc := oF9 hD hS hA
  refine va_callr (va_runV (As := [.int (nI m)]) (rest := []) ⟨hx, hb, hml, hown, hw⟩ (FG9 l dC dI S m hm hO H.size) (cw_V 1 hw g_OM_foundByGraphs rfl rfl rfl (hw _ m_101) (hw _ m_737) (hw _ m_739) (hw _ m_30) (by decide +kernel) ⟨by show _ ≤ (104 : Nat); (try dsimp only); omega, by show _ ≤ (5200 : Nat); (try dsimp only); omega⟩) ⟨fun a U g mk q => by obtain ⟨q0, q1, qP, qK, qD, qN⟩ := q; exact ⟨q0, q1, qP, va_K.moved (u := U) (U := U.calling g mk a) (Vm.Alike.refl U.vm) qK, qD, nw_call qN⟩, va_recv hK hP (ci := 7) (q0 := 0) rfl rfl, fun U hU hW => ⟨rfl, by rw [hU], by rw [hU]; exact hP, va_K.moved hW.alike hK, hD.weaken (fun _ _ _ _ => trivial), nw_warm hW hn⟩⟩ rfl rfl hl.1 rfl (lv_room (Nat.le_of_ble_eq_true rfl)) d_OM_graphs_9 ⟨by show _ ≤ (mcG9 S m : Nat); (try dsimp only); omega, by show _ ≤ (msG9 S m : Nat); (try dsimp only); omega⟩) hS (fun q _ h => hFc q h) hFc ?_
  intro u r_3 t9 H1 locs1 ht9 hvm hw1 hB hz1 hk1 hS1
  obtain ⟨S2, hra, hst, hB⟩ := hB
  obtain ⟨hPn, hKn, hDn⟩ := oN9 hK hFc hB ht9 hvm
  clear hB hz1 hk1 hFc hvm ht9 hP hS hK hD t9 locs H
  have hP := hPn
  have hK := hKn
  have hD := hDn
  clear hPn hKn hDn
  revert H1 locs1
  intro H locs hS hP
  refine tp_r (y := (x_fB S2 m)) (by rw [(stG_f hst).1]; exact hra) ?_
  refine tp_pc (pc' := 12) (by rfl) ?_
  refine va_get (D := (dC, dI)) (ci := 3) (v := .int (o_sd (x_SB S2 m))) (C := R_OutcomeSet) (T := F_OutcomeSet) (N := 9) hx hb hw i_OutcomeSet hown hK hP (68 + 6 * m) (sBt9 hm) rfl 7 (by decide) (hw _ m_387) (fun _ h9 => h9) rfl d_OM_graphs_12 ?_
  refine lv_goto (tgt := 19) hx hb d_OM_graphs_15 (by decide) ?_
  refine tp_pc (pc' := 19) (by rfl) ?_
  refine W.widen (k := mcG9 S m) (n := msG9 S m) (by omega) (by omega) ?_
  exact W.iret (v := (o_sd (x_SB S2 m))) hx hb hr (fun t9 ht9 hW => ⟨⟨o_sd (x_SB S2 m), S2, rfl, ⟨hst, rfl⟩, by rw [ht9]; exact hP, ⟨ct9 S2, va_K.moved hW.alike hK, fun q h => Or.inr h⟩, hD⟩, hS.F ht9⟩) hS.2.2 d_OM_graphs_19
