set_option maxHeartbeats 4000000 in
set_option maxRecDepth 100000 in
theorem cRu9b (l : Launch) (dC : Nat → ClassId) (dI : Nat → Nat → Nat) (S : CX9) (mx : Int32) (hb9 : ¬ (¬ mx < 0 ∧ mx.toNatClampNeg < 4)) (sz : Nat) : Met l y_OM_runs w_OM_runs ({ frames := 2, cells := 0, slots := 0, locals := 100 }) (va_Pc [.ref (x_oa S), .int mx] (SW9 dC dI S sz)) (va_Qi (fun (r : Int32) (S2 : CX9) => S2 = S ∧ r = -1) (fun S2 t9 => PW9 l dC dI S sz S2 t9) (va_A (cw9 S) sz)) (0) (0) (va_A (cw9 S) sz) := by
  refine Met.ofW (cc := b_OM_runs) (maxL := 2) (ret := (some .int)) (by decide) rfl ?_
  intro p e0 s m9 args below meth c s₁ B hml hv
  obtain ⟨rfl, hsz, hP, hK, hD0, hn⟩ := hv
  have hx := B.exec
  have hb := B.bytes
  have hr := B.returns
  have hw := fun w (h : w ∈ wt) => atoms_spec (ws := w_OM_runs) B.pre w (List.mem_cons_of_mem _ h)
  have hown : s.vm.findClass R_OM = some m9.cls := findClass_of_methodNamed B.named
  have hlocks := B.notSynchronized
  subst hsz
  have hD := hD0.self (sz := s.heap.size)
  have hA : ∀ q : Nat, s.heap.size ≤ q → va_A (cw9 S) s.heap.size q := fun q h => Or.inr h
  clear hD0
  have hS : va_S (va_A (cw9 S) s.heap.size) s.heap s.heap [] := va_S.rf
  have hl := lv_entry ([.ref (x_oa S), .int mx]) (n := 2) (Nat.le_of_ble_eq_true rfl)
  rw [lg_entry_eq]
  generalize (lg_sl ([.ref (x_oa S), .int mx]) ++ List.replicate (2 - (lg_sl ([.ref (x_oa S), .int mx])).length) Slot.unset).toArray = ls at hl ⊢
  replace hl : lv_has ls 2 [(0, .ref (x_oa S)), (1, .int mx)] := hl
  refine lv_iload_n hx hb d_OM_runs_0 rfl (lv_at hl 1 rfl) ?_
  have hP0 : va_P (dC, dI) classes [] s.heap := fun k q h => absurd h (by simp)
  have hK0 := hK.sub (tys' := []) [] rfl
  have hFc : ∀ q, va_A ([] : va_W) s.heap.size q → va_A (cw9 S) s.heap.size q := fun q h => h.elim (fun ⟨k, e, w⟩ => absurd w (by simp)) (fun w => hA q (Nat.le_trans hS.1 w))
  refine va_calli (va_runS (As := [.int mx]) (rest := []) ⟨hx, hb, hml, hown, hw⟩ (gen_OM_isModel l dC dI mx s.heap.size) (cw_S 1 hw g_OM_isModel rfl rfl rfl (hw _ m_101) (hw _ m_465) (hw _ m_466) (by decide +kernel) ⟨by show _ ≤ (2 : Nat); (try dsimp only); omega, by show _ ≤ (100 : Nat); (try dsimp only); omega⟩) ⟨fun a U g mk q => by obtain ⟨q0, q1, qP, qK, qD, qN⟩ := q; exact ⟨q0, q1, qP, va_K.moved (u := U) (U := U.calling g mk a) (Vm.Alike.refl U.vm) qK, qD, nw_call qN⟩, fun U hU hW => ⟨rfl, by rw [hU], by rw [hU]; exact hP0, va_K.moved hW.alike hK0, vD0, nw_warm hW hn⟩⟩ rfl rfl hl.1 rfl (lv_room (Nat.le_of_ble_eq_true rfl)) d_OM_runs_1 ⟨by show _ ≤ (0 : Nat); (try dsimp only); omega, by show _ ≤ (0 : Nat); (try dsimp only); omega⟩) hS (fun q _ h => hFc q h) hFc ?_
  intro r_1 u t9 H1 locs1 ht9 hvm hw1 hB hz1 hk1 hS1
  have hPn : va_P (dC, dI) classes (cw9 S) H1 := hP.kept (fun k q hk => hk1 q.1 (hP k q hk).lt (fun z => z.elim (fun ⟨k2, e, w⟩ => absurd w (by simp)) (fun w => absurd (hP k q hk).lt (Nat.not_lt.mpr w))))
  clear hB hz1 hk1 hFc hvm ht9 hP hS t9 hP0 hK0
  have hP := hPn
  clear hPn
  revert H1 locs1
  intro H locs hS hP
  refine tp_i (y := 0) (by rw [hw1, if_neg hb9]) ?_
  refine tp_pc (pc' := 4) (by rfl) ?_
  refine lv_if_eq (tgt := 18) hx hb d_OM_runs_4 (by decide) (fun c_2 => ?_) (fun c_2 => absurd c_2 (by decide))
  refine tp_pc (pc' := 18) (by rfl) ?_
  refine lv_iconst (v := (-1)) hx hb d_OM_runs_18 (by decide) ?_
  refine W.widen (k := 0) (n := 0) (by omega) (by omega) ?_
  exact W.iret (v := (-1)) hx hb hr (fun t9 ht9 hW => ⟨⟨(-1), S, rfl, ⟨rfl, rfl⟩, by rw [ht9]; exact hP, ⟨ct9 S, va_K.moved hW.alike hK, fun q h => Or.inr h⟩, hD⟩, hS.F ht9⟩) hS.2.2 d_OM_runs_19
set_option maxHeartbeats 4000000 in
set_option maxRecDepth 100000 in
theorem cOr9b (l : Launch) (dC : Nat → ClassId) (dI : Nat → Nat → Nat) (S : CX9) (mx : Int32) (hb9 : ¬ (¬ mx < 0 ∧ mx.toNatClampNeg < 4)) (sz : Nat) : Met l y_OM_orders w_OM_orders ({ frames := 2, cells := 0, slots := 0, locals := 100 }) (va_Pc [.ref (x_oa S), .int mx] (SW9 dC dI S sz)) (va_Qi (fun (r : Int32) (S2 : CX9) => S2 = S ∧ r = -1) (fun S2 t9 => PW9 l dC dI S sz S2 t9) (va_A (cw9 S) sz)) (0) (0) (va_A (cw9 S) sz) := by
  refine Met.ofW (cc := b_OM_orders) (maxL := 2) (ret := (some .int)) (by decide) rfl ?_
  intro p e0 s m9 args below meth c s₁ B hml hv
  obtain ⟨rfl, hsz, hP, hK, hD0, hn⟩ := hv
  have hx := B.exec
  have hb := B.bytes
  have hr := B.returns
  have hw := fun w (h : w ∈ wt) => atoms_spec (ws := w_OM_orders) B.pre w (List.mem_cons_of_mem _ h)
  have hown : s.vm.findClass R_OM = some m9.cls := findClass_of_methodNamed B.named
  have hlocks := B.notSynchronized
  subst hsz
  have hD := hD0.self (sz := s.heap.size)
  have hA : ∀ q : Nat, s.heap.size ≤ q → va_A (cw9 S) s.heap.size q := fun q h => Or.inr h
  clear hD0
  have hS : va_S (va_A (cw9 S) s.heap.size) s.heap s.heap [] := va_S.rf
  have hl := lv_entry ([.ref (x_oa S), .int mx]) (n := 2) (Nat.le_of_ble_eq_true rfl)
  rw [lg_entry_eq]
  generalize (lg_sl ([.ref (x_oa S), .int mx]) ++ List.replicate (2 - (lg_sl ([.ref (x_oa S), .int mx])).length) Slot.unset).toArray = ls at hl ⊢
  replace hl : lv_has ls 2 [(0, .ref (x_oa S)), (1, .int mx)] := hl
  refine lv_iload_n hx hb d_OM_orders_0 rfl (lv_at hl 1 rfl) ?_
  have hP0 : va_P (dC, dI) classes [] s.heap := fun k q h => absurd h (by simp)
  have hK0 := hK.sub (tys' := []) [] rfl
  have hFc : ∀ q, va_A ([] : va_W) s.heap.size q → va_A (cw9 S) s.heap.size q := fun q h => h.elim (fun ⟨k, e, w⟩ => absurd w (by simp)) (fun w => hA q (Nat.le_trans hS.1 w))
  refine va_calli (va_runS (As := [.int mx]) (rest := []) ⟨hx, hb, hml, hown, hw⟩ (gen_OM_isModel l dC dI mx s.heap.size) (cw_S 1 hw g_OM_isModel rfl rfl rfl (hw _ m_101) (hw _ m_465) (hw _ m_466) (by decide +kernel) ⟨by show _ ≤ (2 : Nat); (try dsimp only); omega, by show _ ≤ (100 : Nat); (try dsimp only); omega⟩) ⟨fun a U g mk q => by obtain ⟨q0, q1, qP, qK, qD, qN⟩ := q; exact ⟨q0, q1, qP, va_K.moved (u := U) (U := U.calling g mk a) (Vm.Alike.refl U.vm) qK, qD, nw_call qN⟩, fun U hU hW => ⟨rfl, by rw [hU], by rw [hU]; exact hP0, va_K.moved hW.alike hK0, vD0, nw_warm hW hn⟩⟩ rfl rfl hl.1 rfl (lv_room (Nat.le_of_ble_eq_true rfl)) d_OM_orders_1 ⟨by show _ ≤ (0 : Nat); (try dsimp only); omega, by show _ ≤ (0 : Nat); (try dsimp only); omega⟩) hS (fun q _ h => hFc q h) hFc ?_
  intro r_1 u t9 H1 locs1 ht9 hvm hw1 hB hz1 hk1 hS1
  have hPn : va_P (dC, dI) classes (cw9 S) H1 := hP.kept (fun k q hk => hk1 q.1 (hP k q hk).lt (fun z => z.elim (fun ⟨k2, e, w⟩ => absurd w (by simp)) (fun w => absurd (hP k q hk).lt (Nat.not_lt.mpr w))))
  clear hB hz1 hk1 hFc hvm ht9 hP hS t9 hP0 hK0
  have hP := hPn
  clear hPn
  revert H1 locs1
  intro H locs hS hP
  refine tp_i (y := 0) (by rw [hw1, if_neg hb9]) ?_
  refine tp_pc (pc' := 4) (by rfl) ?_
  refine lv_if_eq (tgt := 18) hx hb d_OM_orders_4 (by decide) (fun c_2 => ?_) (fun c_2 => absurd c_2 (by decide))
  refine tp_pc (pc' := 18) (by rfl) ?_
  refine lv_iconst (v := (-1)) hx hb d_OM_orders_18 (by decide) ?_
  refine W.widen (k := 0) (n := 0) (by omega) (by omega) ?_
  exact W.iret (v := (-1)) hx hb hr (fun t9 ht9 hW => ⟨⟨(-1), S, rfl, ⟨rfl, rfl⟩, by rw [ht9]; exact hP, ⟨ct9 S, va_K.moved hW.alike hK, fun q h => Or.inr h⟩, hD⟩, hS.F ht9⟩) hS.2.2 d_OM_orders_19
set_option maxHeartbeats 4000000 in
set_option maxRecDepth 100000 in
theorem cGr9b (l : Launch) (dC : Nat → ClassId) (dI : Nat → Nat → Nat) (S : CX9) (mx : Int32) (hb9 : ¬ (¬ mx < 0 ∧ mx.toNatClampNeg < 4)) (sz : Nat) : Met l y_OM_graphs w_OM_graphs ({ frames := 2, cells := 0, slots := 0, locals := 100 }) (va_Pc [.ref (x_oa S), .int mx] (SW9 dC dI S sz)) (va_Qi (fun (r : Int32) (S2 : CX9) => S2 = S ∧ r = -1) (fun S2 t9 => PW9 l dC dI S sz S2 t9) (va_A (cw9 S) sz)) (0) (0) (va_A (cw9 S) sz) := by
  refine Met.ofW (cc := b_OM_graphs) (maxL := 2) (ret := (some .int)) (by decide) rfl ?_
  intro p e0 s m9 args below meth c s₁ B hml hv
  obtain ⟨rfl, hsz, hP, hK, hD0, hn⟩ := hv
  have hx := B.exec
  have hb := B.bytes
  have hr := B.returns
  have hw := fun w (h : w ∈ wt) => atoms_spec (ws := w_OM_graphs) B.pre w (List.mem_cons_of_mem _ h)
  have hown : s.vm.findClass R_OM = some m9.cls := findClass_of_methodNamed B.named
  have hlocks := B.notSynchronized
  subst hsz
  have hD := hD0.self (sz := s.heap.size)
  have hA : ∀ q : Nat, s.heap.size ≤ q → va_A (cw9 S) s.heap.size q := fun q h => Or.inr h
  clear hD0
  have hS : va_S (va_A (cw9 S) s.heap.size) s.heap s.heap [] := va_S.rf
  have hl := lv_entry ([.ref (x_oa S), .int mx]) (n := 2) (Nat.le_of_ble_eq_true rfl)
  rw [lg_entry_eq]
  generalize (lg_sl ([.ref (x_oa S), .int mx]) ++ List.replicate (2 - (lg_sl ([.ref (x_oa S), .int mx])).length) Slot.unset).toArray = ls at hl ⊢
  replace hl : lv_has ls 2 [(0, .ref (x_oa S)), (1, .int mx)] := hl
  refine lv_iload_n hx hb d_OM_graphs_0 rfl (lv_at hl 1 rfl) ?_
  have hP0 : va_P (dC, dI) classes [] s.heap := fun k q h => absurd h (by simp)
  have hK0 := hK.sub (tys' := []) [] rfl
  have hFc : ∀ q, va_A ([] : va_W) s.heap.size q → va_A (cw9 S) s.heap.size q := fun q h => h.elim (fun ⟨k, e, w⟩ => absurd w (by simp)) (fun w => hA q (Nat.le_trans hS.1 w))
  refine va_calli (va_runS (As := [.int mx]) (rest := []) ⟨hx, hb, hml, hown, hw⟩ (gen_OM_isModel l dC dI mx s.heap.size) (cw_S 1 hw g_OM_isModel rfl rfl rfl (hw _ m_101) (hw _ m_465) (hw _ m_466) (by decide +kernel) ⟨by show _ ≤ (2 : Nat); (try dsimp only); omega, by show _ ≤ (100 : Nat); (try dsimp only); omega⟩) ⟨fun a U g mk q => by obtain ⟨q0, q1, qP, qK, qD, qN⟩ := q; exact ⟨q0, q1, qP, va_K.moved (u := U) (U := U.calling g mk a) (Vm.Alike.refl U.vm) qK, qD, nw_call qN⟩, fun U hU hW => ⟨rfl, by rw [hU], by rw [hU]; exact hP0, va_K.moved hW.alike hK0, vD0, nw_warm hW hn⟩⟩ rfl rfl hl.1 rfl (lv_room (Nat.le_of_ble_eq_true rfl)) d_OM_graphs_1 ⟨by show _ ≤ (0 : Nat); (try dsimp only); omega, by show _ ≤ (0 : Nat); (try dsimp only); omega⟩) hS (fun q _ h => hFc q h) hFc ?_
  intro r_1 u t9 H1 locs1 ht9 hvm hw1 hB hz1 hk1 hS1
  have hPn : va_P (dC, dI) classes (cw9 S) H1 := hP.kept (fun k q hk => hk1 q.1 (hP k q hk).lt (fun z => z.elim (fun ⟨k2, e, w⟩ => absurd w (by simp)) (fun w => absurd (hP k q hk).lt (Nat.not_lt.mpr w))))
  clear hB hz1 hk1 hFc hvm ht9 hP hS t9 hP0 hK0
  have hP := hPn
  clear hPn
  revert H1 locs1
  intro H locs hS hP
  refine tp_i (y := 0) (by rw [hw1, if_neg hb9]) ?_
  refine tp_pc (pc' := 4) (by rfl) ?_
  refine lv_if_eq (tgt := 18) hx hb d_OM_graphs_4 (by decide) (fun c_2 => ?_) (fun c_2 => absurd c_2 (by decide))
  refine tp_pc (pc' := 18) (by rfl) ?_
  refine lv_iconst (v := (-1)) hx hb d_OM_graphs_18 (by decide) ?_
  refine W.widen (k := 0) (n := 0) (by omega) (by omega) ?_
  exact W.iret (v := (-1)) hx hb hr (fun t9 ht9 hW => ⟨⟨(-1), S, rfl, ⟨rfl, rfl⟩, by rw [ht9]; exact hP, ⟨ct9 S, va_K.moved hW.alike hK, fun q h => Or.inr h⟩, hD⟩, hS.F ht9⟩) hS.2.2 d_OM_graphs_19
set_option maxHeartbeats 4000000 in
set_option maxRecDepth 100000 in
theorem cOut9b (l : Launch) (dC : Nat → ClassId) (dI : Nat → Nat → Nat) (S : CX9) (mx i9 w9 : Int32) (hb9 : ¬ (¬ mx < 0 ∧ mx.toNatClampNeg < 4)) (sz : Nat) : Met l y_OM_outcome w_OM_outcome ({ frames := 2, cells := 0, slots := 0, locals := 100 }) (va_Pc [.ref (x_oa S), .int mx, .int i9, .int w9] (SW9 dC dI S sz)) (va_Qi (fun (r : Int32) (S2 : CX9) => S2 = S ∧ r = -1000) (fun S2 t9 => PW9 l dC dI S sz S2 t9) (va_A (cw9 S) sz)) (0) (0) (va_A (cw9 S) sz) := by
  refine Met.ofW (cc := b_OM_outcome) (maxL := 4) (ret := (some .int)) (by decide) rfl ?_
  intro p e0 s m9 args below meth c s₁ B hml hv
  obtain ⟨rfl, hsz, hP, hK, hD0, hn⟩ := hv
  have hx := B.exec
  have hb := B.bytes
  have hr := B.returns
  have hw := fun w (h : w ∈ wt) => atoms_spec (ws := w_OM_outcome) B.pre w (List.mem_cons_of_mem _ h)
  have hown : s.vm.findClass R_OM = some m9.cls := findClass_of_methodNamed B.named
  have hlocks := B.notSynchronized
  subst hsz
  have hD := hD0.self (sz := s.heap.size)
  have hA : ∀ q : Nat, s.heap.size ≤ q → va_A (cw9 S) s.heap.size q := fun q h => Or.inr h
  clear hD0
  have hS : va_S (va_A (cw9 S) s.heap.size) s.heap s.heap [] := va_S.rf
  have hl := lv_entry ([.ref (x_oa S), .int mx, .int i9, .int w9]) (n := 4) (Nat.le_of_ble_eq_true rfl)
  rw [lg_entry_eq]
  generalize (lg_sl ([.ref (x_oa S), .int mx, .int i9, .int w9]) ++ List.replicate (4 - (lg_sl ([.ref (x_oa S), .int mx, .int i9, .int w9])).length) Slot.unset).toArray = ls at hl ⊢
  replace hl : lv_has ls 4 [(0, .ref (x_oa S)), (1, .int mx), (2, .int i9), (3, .int w9)] := hl
  refine lv_iload_n hx hb d_OM_outcome_0 rfl (lv_at hl 1 rfl) ?_
  have hP0 : va_P (dC, dI) classes [] s.heap := fun k q h => absurd h (by simp)
  have hK0 := hK.sub (tys' := []) [] rfl
  have hFc : ∀ q, va_A ([] : va_W) s.heap.size q → va_A (cw9 S) s.heap.size q := fun q h => h.elim (fun ⟨k, e, w⟩ => absurd w (by simp)) (fun w => hA q (Nat.le_trans hS.1 w))
  refine va_calli (va_runS (As := [.int mx]) (rest := []) ⟨hx, hb, hml, hown, hw⟩ (gen_OM_isModel l dC dI mx s.heap.size) (cw_S 1 hw g_OM_isModel rfl rfl rfl (hw _ m_101) (hw _ m_465) (hw _ m_466) (by decide +kernel) ⟨by show _ ≤ (2 : Nat); (try dsimp only); omega, by show _ ≤ (100 : Nat); (try dsimp only); omega⟩) ⟨fun a U g mk q => by obtain ⟨q0, q1, qP, qK, qD, qN⟩ := q; exact ⟨q0, q1, qP, va_K.moved (u := U) (U := U.calling g mk a) (Vm.Alike.refl U.vm) qK, qD, nw_call qN⟩, fun U hU hW => ⟨rfl, by rw [hU], by rw [hU]; exact hP0, va_K.moved hW.alike hK0, vD0, nw_warm hW hn⟩⟩ rfl rfl hl.1 rfl (lv_room (Nat.le_of_ble_eq_true rfl)) d_OM_outcome_1 ⟨by show _ ≤ (0 : Nat); (try dsimp only); omega, by show _ ≤ (0 : Nat); (try dsimp only); omega⟩) hS (fun q _ h => hFc q h) hFc ?_
  intro r_1 u t9 H1 locs1 ht9 hvm hw1 hB hz1 hk1 hS1
  have hPn : va_P (dC, dI) classes (cw9 S) H1 := hP.kept (fun k q hk => hk1 q.1 (hP k q hk).lt (fun z => z.elim (fun ⟨k2, e, w⟩ => absurd w (by simp)) (fun w => absurd (hP k q hk).lt (Nat.not_lt.mpr w))))
  clear hB hz1 hk1 hFc hvm ht9 hP hS t9 hP0 hK0
  have hP := hPn
  clear hPn
  revert H1 locs1
  intro H locs hS hP
  refine tp_i (y := 0) (by rw [hw1, if_neg hb9]) ?_
  refine tp_pc (pc' := 4) (by rfl) ?_
  refine lv_if_eq (tgt := 20) hx hb d_OM_outcome_4 (by decide) (fun c_2 => ?_) (fun c_2 => absurd c_2 (by decide))
  refine tp_pc (pc' := 20) (by rfl) ?_
  refine lv_sipush (v := (-1000)) hx hb d_OM_outcome_20 (by decide) ?_
  refine W.widen (k := 0) (n := 0) (by omega) (by omega) ?_
  exact W.iret (v := (-1000)) hx hb hr (fun t9 ht9 hW => ⟨⟨(-1000), S, rfl, ⟨rfl, rfl⟩, by rw [ht9]; exact hP, ⟨ct9 S, va_K.moved hW.alike hK, fun q h => Or.inr h⟩, hD⟩, hS.F ht9⟩) hS.2.2 d_OM_outcome_23
set_option maxHeartbeats 4000000 in
set_option maxRecDepth 100000 in
theorem cWit9b (l : Launch) (dC : Nat → ClassId) (dI : Nat → Nat → Nat) (S : CX9) (mx i9 w9 : Int32) (hb9 : ¬ (¬ mx < 0 ∧ mx.toNatClampNeg < 4)) (sz : Nat) : Met l y_OM_witness w_OM_witness ({ frames := 2, cells := 0, slots := 0, locals := 100 }) (va_Pc [.ref (x_oa S), .int mx, .int i9, .int w9] (SW9 dC dI S sz)) (va_Qi (fun (r : Int32) (S2 : CX9) => S2 = S ∧ r = -1) (fun S2 t9 => PW9 l dC dI S sz S2 t9) (va_A (cw9 S) sz)) (0) (0) (va_A (cw9 S) sz) := by
  refine Met.ofW (cc := b_OM_witness) (maxL := 4) (ret := (some .int)) (by decide) rfl ?_
  intro p e0 s m9 args below meth c s₁ B hml hv
  obtain ⟨rfl, hsz, hP, hK, hD0, hn⟩ := hv
  have hx := B.exec
  have hb := B.bytes
  have hr := B.returns
  have hw := fun w (h : w ∈ wt) => atoms_spec (ws := w_OM_witness) B.pre w (List.mem_cons_of_mem _ h)
  have hown : s.vm.findClass R_OM = some m9.cls := findClass_of_methodNamed B.named
  have hlocks := B.notSynchronized
  subst hsz
  have hD := hD0.self (sz := s.heap.size)
  have hA : ∀ q : Nat, s.heap.size ≤ q → va_A (cw9 S) s.heap.size q := fun q h => Or.inr h
  clear hD0
  have hS : va_S (va_A (cw9 S) s.heap.size) s.heap s.heap [] := va_S.rf
  have hl := lv_entry ([.ref (x_oa S), .int mx, .int i9, .int w9]) (n := 4) (Nat.le_of_ble_eq_true rfl)
  rw [lg_entry_eq]
  generalize (lg_sl ([.ref (x_oa S), .int mx, .int i9, .int w9]) ++ List.replicate (4 - (lg_sl ([.ref (x_oa S), .int mx, .int i9, .int w9])).length) Slot.unset).toArray = ls at hl ⊢
  replace hl : lv_has ls 4 [(0, .ref (x_oa S)), (1, .int mx), (2, .int i9), (3, .int w9)] := hl
  refine lv_iload_n hx hb d_OM_witness_0 rfl (lv_at hl 1 rfl) ?_
  have hP0 : va_P (dC, dI) classes [] s.heap := fun k q h => absurd h (by simp)
  have hK0 := hK.sub (tys' := []) [] rfl
  have hFc : ∀ q, va_A ([] : va_W) s.heap.size q → va_A (cw9 S) s.heap.size q := fun q h => h.elim (fun ⟨k, e, w⟩ => absurd w (by simp)) (fun w => hA q (Nat.le_trans hS.1 w))
  refine va_calli (va_runS (As := [.int mx]) (rest := []) ⟨hx, hb, hml, hown, hw⟩ (gen_OM_isModel l dC dI mx s.heap.size) (cw_S 1 hw g_OM_isModel rfl rfl rfl (hw _ m_101) (hw _ m_465) (hw _ m_466) (by decide +kernel) ⟨by show _ ≤ (2 : Nat); (try dsimp only); omega, by show _ ≤ (100 : Nat); (try dsimp only); omega⟩) ⟨fun a U g mk q => by obtain ⟨q0, q1, qP, qK, qD, qN⟩ := q; exact ⟨q0, q1, qP, va_K.moved (u := U) (U := U.calling g mk a) (Vm.Alike.refl U.vm) qK, qD, nw_call qN⟩, fun U hU hW => ⟨rfl, by rw [hU], by rw [hU]; exact hP0, va_K.moved hW.alike hK0, vD0, nw_warm hW hn⟩⟩ rfl rfl hl.1 rfl (lv_room (Nat.le_of_ble_eq_true rfl)) d_OM_witness_1 ⟨by show _ ≤ (0 : Nat); (try dsimp only); omega, by show _ ≤ (0 : Nat); (try dsimp only); omega⟩) hS (fun q _ h => hFc q h) hFc ?_
  intro r_1 u t9 H1 locs1 ht9 hvm hw1 hB hz1 hk1 hS1
  have hPn : va_P (dC, dI) classes (cw9 S) H1 := hP.kept (fun k q hk => hk1 q.1 (hP k q hk).lt (fun z => z.elim (fun ⟨k2, e, w⟩ => absurd w (by simp)) (fun w => absurd (hP k q hk).lt (Nat.not_lt.mpr w))))
  clear hB hz1 hk1 hFc hvm ht9 hP hS t9 hP0 hK0
  have hP := hPn
  clear hPn
  revert H1 locs1
  intro H locs hS hP
  refine tp_i (y := 0) (by rw [hw1, if_neg hb9]) ?_
  refine tp_pc (pc' := 4) (by rfl) ?_
  refine lv_if_eq (tgt := 20) hx hb d_OM_witness_4 (by decide) (fun c_2 => ?_) (fun c_2 => absurd c_2 (by decide))
  refine tp_pc (pc' := 20) (by rfl) ?_
  refine lv_iconst (v := (-1)) hx hb d_OM_witness_20 (by decide) ?_
  refine W.widen (k := 0) (n := 0) (by omega) (by omega) ?_
  exact W.iret (v := (-1)) hx hb hr (fun t9 ht9 hW => ⟨⟨(-1), S, rfl, ⟨rfl, rfl⟩, by rw [ht9]; exact hP, ⟨ct9 S, va_K.moved hW.alike hK, fun q h => Or.inr h⟩, hD⟩, hS.F ht9⟩) hS.2.2 d_OM_witness_21
set_option maxHeartbeats 4000000 in
set_option maxRecDepth 100000 in
theorem cOrd9b (l : Launch) (dC : Nat → ClassId) (dI : Nat → Nat → Nat) (S : CX9) (mx i9 w9 : Int32) (hb9 : ¬ (¬ mx < 0 ∧ mx.toNatClampNeg < 4)) (sz : Nat) : Met l y_OM_ordered w_OM_ordered ({ frames := 2, cells := 0, slots := 0, locals := 100 }) (va_Pc [.ref (x_oa S), .int mx, .int i9, .int w9] (SW9 dC dI S sz)) (va_Qi (fun (r : Int32) (S2 : CX9) => S2 = S ∧ r = -1000) (fun S2 t9 => PW9 l dC dI S sz S2 t9) (va_A (cw9 S) sz)) (0) (0) (va_A (cw9 S) sz) := by
  refine Met.ofW (cc := b_OM_ordered) (maxL := 4) (ret := (some .int)) (by decide) rfl ?_
  intro p e0 s m9 args below meth c s₁ B hml hv
  obtain ⟨rfl, hsz, hP, hK, hD0, hn⟩ := hv
  have hx := B.exec
  have hb := B.bytes
  have hr := B.returns
  have hw := fun w (h : w ∈ wt) => atoms_spec (ws := w_OM_ordered) B.pre w (List.mem_cons_of_mem _ h)
  have hown : s.vm.findClass R_OM = some m9.cls := findClass_of_methodNamed B.named
  have hlocks := B.notSynchronized
  subst hsz
  have hD := hD0.self (sz := s.heap.size)
  have hA : ∀ q : Nat, s.heap.size ≤ q → va_A (cw9 S) s.heap.size q := fun q h => Or.inr h
  clear hD0
  have hS : va_S (va_A (cw9 S) s.heap.size) s.heap s.heap [] := va_S.rf
  have hl := lv_entry ([.ref (x_oa S), .int mx, .int i9, .int w9]) (n := 4) (Nat.le_of_ble_eq_true rfl)
  rw [lg_entry_eq]
  generalize (lg_sl ([.ref (x_oa S), .int mx, .int i9, .int w9]) ++ List.replicate (4 - (lg_sl ([.ref (x_oa S), .int mx, .int i9, .int w9])).length) Slot.unset).toArray = ls at hl ⊢
  replace hl : lv_has ls 4 [(0, .ref (x_oa S)), (1, .int mx), (2, .int i9), (3, .int w9)] := hl
  refine lv_iload_n hx hb d_OM_ordered_0 rfl (lv_at hl 1 rfl) ?_
  have hP0 : va_P (dC, dI) classes [] s.heap := fun k q h => absurd h (by simp)
  have hK0 := hK.sub (tys' := []) [] rfl
  have hFc : ∀ q, va_A ([] : va_W) s.heap.size q → va_A (cw9 S) s.heap.size q := fun q h => h.elim (fun ⟨k, e, w⟩ => absurd w (by simp)) (fun w => hA q (Nat.le_trans hS.1 w))
  refine va_calli (va_runS (As := [.int mx]) (rest := []) ⟨hx, hb, hml, hown, hw⟩ (gen_OM_isModel l dC dI mx s.heap.size) (cw_S 1 hw g_OM_isModel rfl rfl rfl (hw _ m_101) (hw _ m_465) (hw _ m_466) (by decide +kernel) ⟨by show _ ≤ (2 : Nat); (try dsimp only); omega, by show _ ≤ (100 : Nat); (try dsimp only); omega⟩) ⟨fun a U g mk q => by obtain ⟨q0, q1, qP, qK, qD, qN⟩ := q; exact ⟨q0, q1, qP, va_K.moved (u := U) (U := U.calling g mk a) (Vm.Alike.refl U.vm) qK, qD, nw_call qN⟩, fun U hU hW => ⟨rfl, by rw [hU], by rw [hU]; exact hP0, va_K.moved hW.alike hK0, vD0, nw_warm hW hn⟩⟩ rfl rfl hl.1 rfl (lv_room (Nat.le_of_ble_eq_true rfl)) d_OM_ordered_1 ⟨by show _ ≤ (0 : Nat); (try dsimp only); omega, by show _ ≤ (0 : Nat); (try dsimp only); omega⟩) hS (fun q _ h => hFc q h) hFc ?_
  intro r_1 u t9 H1 locs1 ht9 hvm hw1 hB hz1 hk1 hS1
  have hPn : va_P (dC, dI) classes (cw9 S) H1 := hP.kept (fun k q hk => hk1 q.1 (hP k q hk).lt (fun z => z.elim (fun ⟨k2, e, w⟩ => absurd w (by simp)) (fun w => absurd (hP k q hk).lt (Nat.not_lt.mpr w))))
  clear hB hz1 hk1 hFc hvm ht9 hP hS t9 hP0 hK0
  have hP := hPn
  clear hPn
  revert H1 locs1
  intro H locs hS hP
  refine tp_i (y := 0) (by rw [hw1, if_neg hb9]) ?_
  refine tp_pc (pc' := 4) (by rfl) ?_
  refine lv_if_eq (tgt := 20) hx hb d_OM_ordered_4 (by decide) (fun c_2 => ?_) (fun c_2 => absurd c_2 (by decide))
  refine tp_pc (pc' := 20) (by rfl) ?_
  refine lv_sipush (v := (-1000)) hx hb d_OM_ordered_20 (by decide) ?_
  refine W.widen (k := 0) (n := 0) (by omega) (by omega) ?_
  exact W.iret (v := (-1000)) hx hb hr (fun t9 ht9 hW => ⟨⟨(-1000), S, rfl, ⟨rfl, rfl⟩, by rw [ht9]; exact hP, ⟨ct9 S, va_K.moved hW.alike hK, fun q h => Or.inr h⟩, hD⟩, hS.F ht9⟩) hS.2.2 d_OM_ordered_23
set_option maxHeartbeats 4000000 in
set_option maxRecDepth 100000 in
theorem cBey9b (l : Launch) (dC : Nat → ClassId) (dI : Nat → Nat → Nat) (S : CX9) (mx ox : Int32) (hb9 : ¬ ((¬ mx < 0 ∧ mx.toNatClampNeg < 4) ∧ (¬ ox < 0 ∧ ox.toNatClampNeg < 4))) (sz : Nat) : Met l y_OM_beyond w_OM_beyond ({ frames := 2, cells := 0, slots := 0, locals := 100 }) (va_Pc [.ref (x_oa S), .int mx, .int ox] (SW9 dC dI S sz)) (va_Qi (fun (r : Int32) (S2 : CX9) => S2 = S ∧ r = -1) (fun S2 t9 => PW9 l dC dI S sz S2 t9) (va_A (cw9 S) sz)) (0) (0) (va_A (cw9 S) sz) := by
  refine Met.ofW (cc := b_OM_beyond) (maxL := 3) (ret := (some .int)) (by decide) rfl ?_
  intro p e0 s m9 args below meth c s₁ B hml hv
  obtain ⟨rfl, hsz, hP, hK, hD0, hn⟩ := hv
  have hx := B.exec
  have hb := B.bytes
  have hr := B.returns
  have hw := fun w (h : w ∈ wt) => atoms_spec (ws := w_OM_beyond) B.pre w (List.mem_cons_of_mem _ h)
  have hown : s.vm.findClass R_OM = some m9.cls := findClass_of_methodNamed B.named
  have hlocks := B.notSynchronized
  subst hsz
  have hD := hD0.self (sz := s.heap.size)
  have hA : ∀ q : Nat, s.heap.size ≤ q → va_A (cw9 S) s.heap.size q := fun q h => Or.inr h
  clear hD0
  have hS : va_S (va_A (cw9 S) s.heap.size) s.heap s.heap [] := va_S.rf
  have hl := lv_entry ([.ref (x_oa S), .int mx, .int ox]) (n := 3) (Nat.le_of_ble_eq_true rfl)
  rw [lg_entry_eq]
  generalize (lg_sl ([.ref (x_oa S), .int mx, .int ox]) ++ List.replicate (3 - (lg_sl ([.ref (x_oa S), .int mx, .int ox])).length) Slot.unset).toArray = ls at hl ⊢
  replace hl : lv_has ls 3 [(0, .ref (x_oa S)), (1, .int mx), (2, .int ox)] := hl
  refine lv_iload_n hx hb d_OM_beyond_0 rfl (lv_at hl 1 rfl) ?_
  by_cases cA : ¬ mx < 0 ∧ mx.toNatClampNeg < 4
  · skip
    have hP0 : va_P (dC, dI) classes [] s.heap := fun k q h => absurd h (by simp)
    have hK0 := hK.sub (tys' := []) [] rfl
    have hFc : ∀ q, va_A ([] : va_W) s.heap.size q → va_A (cw9 S) s.heap.size q := fun q h => h.elim (fun ⟨k, e, w⟩ => absurd w (by simp)) (fun w => hA q (Nat.le_trans hS.1 w))
    refine va_calli (va_runS (As := [.int mx]) (rest := []) ⟨hx, hb, hml, hown, hw⟩ (gen_OM_isModel l dC dI mx s.heap.size) (cw_S 1 hw g_OM_isModel rfl rfl rfl (hw _ m_101) (hw _ m_465) (hw _ m_466) (by decide +kernel) ⟨by show _ ≤ (2 : Nat); (try dsimp only); omega, by show _ ≤ (100 : Nat); (try dsimp only); omega⟩) ⟨fun a U g mk q => by obtain ⟨q0, q1, qP, qK, qD, qN⟩ := q; exact ⟨q0, q1, qP, va_K.moved (u := U) (U := U.calling g mk a) (Vm.Alike.refl U.vm) qK, qD, nw_call qN⟩, fun U hU hW => ⟨rfl, by rw [hU], by rw [hU]; exact hP0, va_K.moved hW.alike hK0, vD0, nw_warm hW hn⟩⟩ rfl rfl hl.1 rfl (lv_room (Nat.le_of_ble_eq_true rfl)) d_OM_beyond_1 ⟨by show _ ≤ (0 : Nat); (try dsimp only); omega, by show _ ≤ (0 : Nat); (try dsimp only); omega⟩) hS (fun q _ h => hFc q h) hFc ?_
    intro r_1 u t9 H1 locs1 ht9 hvm hw1 hB hz1 hk1 hS1
    have hPn : va_P (dC, dI) classes (cw9 S) H1 := hP.kept (fun k q hk => hk1 q.1 (hP k q hk).lt (fun z => z.elim (fun ⟨k2, e, w⟩ => absurd w (by simp)) (fun w => absurd (hP k q hk).lt (Nat.not_lt.mpr w))))
    clear hB hz1 hk1 hFc hvm ht9 hP hS t9 hP0 hK0
    have hP := hPn
    clear hPn
    revert H1 locs1
    intro H locs hS hP
    refine tp_i (y := 1) (by rw [hw1, if_pos cA]) ?_
    refine tp_pc (pc' := 4) (by rfl) ?_
    refine lv_if_eq (tgt := 14) hx hb d_OM_beyond_4 (by decide) (fun c_2 => absurd c_2 (by decide)) (fun c_2 => ?_)
    refine tp_pc (pc' := 7) (by rfl) ?_
    refine lv_iload_n hx hb d_OM_beyond_7 rfl (lv_at hl 2 rfl) ?_
    have hP0 : va_P (dC, dI) classes [] H := fun k q h => absurd h (by simp)
    have hK0 := hK.sub (tys' := []) [] rfl
    have hFc : ∀ q, va_A ([] : va_W) H.size q → va_A (cw9 S) s.heap.size q := fun q h => h.elim (fun ⟨k, e, w⟩ => absurd w (by simp)) (fun w => hA q (Nat.le_trans hS.1 w))
    refine va_calli (va_runS (As := [.int ox]) (rest := []) ⟨hx, hb, hml, hown, hw⟩ (gen_OM_isModel l dC dI ox H.size) (cw_S 1 hw g_OM_isModel rfl rfl rfl (hw _ m_101) (hw _ m_465) (hw _ m_466) (by decide +kernel) ⟨by show _ ≤ (2 : Nat); (try dsimp only); omega, by show _ ≤ (100 : Nat); (try dsimp only); omega⟩) ⟨fun a U g mk q => by obtain ⟨q0, q1, qP, qK, qD, qN⟩ := q; exact ⟨q0, q1, qP, va_K.moved (u := U) (U := U.calling g mk a) (Vm.Alike.refl U.vm) qK, qD, nw_call qN⟩, fun U hU hW => ⟨rfl, by rw [hU], by rw [hU]; exact hP0, va_K.moved hW.alike hK0, vD0, nw_warm hW hn⟩⟩ rfl rfl hl.1 rfl (lv_room (Nat.le_of_ble_eq_true rfl)) d_OM_beyond_8 ⟨by show _ ≤ (0 : Nat); (try dsimp only); omega, by show _ ≤ (0 : Nat); (try dsimp only); omega⟩) hS (fun q _ h => hFc q h) hFc ?_
    intro r_3 u t9 H1 locs1 ht9 hvm hw1 hB hz1 hk1 hS1
    have hPn : va_P (dC, dI) classes (cw9 S) H1 := hP.kept (fun k q hk => hk1 q.1 (hP k q hk).lt (fun z => z.elim (fun ⟨k2, e, w⟩ => absurd w (by simp)) (fun w => absurd (hP k q hk).lt (Nat.not_lt.mpr w))))
    clear hB hz1 hk1 hFc hvm ht9 hP hS t9 hP0 hK0 locs H
    have hP := hPn
    clear hPn
    revert H1 locs1
    intro H locs hS hP
    refine tp_i (y := 0) (by rw [hw1, if_neg (fun cB => hb9 ⟨cA, cB⟩)]) ?_
    refine tp_pc (pc' := 11) (by rfl) ?_
    refine lv_if_ne (tgt := 16) hx hb d_OM_beyond_11 (by decide) (fun c_4 => absurd c_4 (by decide)) (fun c_4 => ?_)
    refine tp_pc (pc' := 14) (by rfl) ?_
    refine lv_iconst (v := (-1)) hx hb d_OM_beyond_14 (by decide) ?_
    refine W.widen (k := 0) (n := 0) (by omega) (by omega) ?_
    exact W.iret (v := (-1)) hx hb hr (fun t9 ht9 hW => ⟨⟨(-1), S, rfl, ⟨rfl, rfl⟩, by rw [ht9]; exact hP, ⟨ct9 S, va_K.moved hW.alike hK, fun q h => Or.inr h⟩, hD⟩, hS.F ht9⟩) hS.2.2 d_OM_beyond_15
  · skip
    have hP0 : va_P (dC, dI) classes [] s.heap := fun k q h => absurd h (by simp)
    have hK0 := hK.sub (tys' := []) [] rfl
    have hFc : ∀ q, va_A ([] : va_W) s.heap.size q → va_A (cw9 S) s.heap.size q := fun q h => h.elim (fun ⟨k, e, w⟩ => absurd w (by simp)) (fun w => hA q (Nat.le_trans hS.1 w))
    refine va_calli (va_runS (As := [.int mx]) (rest := []) ⟨hx, hb, hml, hown, hw⟩ (gen_OM_isModel l dC dI mx s.heap.size) (cw_S 1 hw g_OM_isModel rfl rfl rfl (hw _ m_101) (hw _ m_465) (hw _ m_466) (by decide +kernel) ⟨by show _ ≤ (2 : Nat); (try dsimp only); omega, by show _ ≤ (100 : Nat); (try dsimp only); omega⟩) ⟨fun a U g mk q => by obtain ⟨q0, q1, qP, qK, qD, qN⟩ := q; exact ⟨q0, q1, qP, va_K.moved (u := U) (U := U.calling g mk a) (Vm.Alike.refl U.vm) qK, qD, nw_call qN⟩, fun U hU hW => ⟨rfl, by rw [hU], by rw [hU]; exact hP0, va_K.moved hW.alike hK0, vD0, nw_warm hW hn⟩⟩ rfl rfl hl.1 rfl (lv_room (Nat.le_of_ble_eq_true rfl)) d_OM_beyond_1 ⟨by show _ ≤ (0 : Nat); (try dsimp only); omega, by show _ ≤ (0 : Nat); (try dsimp only); omega⟩) hS (fun q _ h => hFc q h) hFc ?_
    intro r_5 u t9 H1 locs1 ht9 hvm hw1 hB hz1 hk1 hS1
    have hPn : va_P (dC, dI) classes (cw9 S) H1 := hP.kept (fun k q hk => hk1 q.1 (hP k q hk).lt (fun z => z.elim (fun ⟨k2, e, w⟩ => absurd w (by simp)) (fun w => absurd (hP k q hk).lt (Nat.not_lt.mpr w))))
    clear hB hz1 hk1 hFc hvm ht9 hP hS t9 hP0 hK0
    have hP := hPn
    clear hPn
    revert H1 locs1
    intro H locs hS hP
    refine tp_i (y := 0) (by rw [hw1, if_neg cA]) ?_
    refine tp_pc (pc' := 4) (by rfl) ?_
    refine lv_if_eq (tgt := 14) hx hb d_OM_beyond_4 (by decide) (fun c_6 => ?_) (fun c_6 => absurd c_6 (by decide))
    refine tp_pc (pc' := 14) (by rfl) ?_
    refine lv_iconst (v := (-1)) hx hb d_OM_beyond_14 (by decide) ?_
    refine W.widen (k := 0) (n := 0) (by omega) (by omega) ?_
    exact W.iret (v := (-1)) hx hb hr (fun t9 ht9 hW => ⟨⟨(-1), S, rfl, ⟨rfl, rfl⟩, by rw [ht9]; exact hP, ⟨ct9 S, va_K.moved hW.alike hK, fun q h => Or.inr h⟩, hD⟩, hS.F ht9⟩) hS.2.2 d_OM_beyond_15
set_option maxHeartbeats 4000000 in
set_option maxRecDepth 100000 in
theorem cBey9s (l : Launch) (dC : Nat → ClassId) (dI : Nat → Nat → Nat) (S : CX9) (m : Nat) (hm : m < 4) (sz : Nat) : Met l y_OM_beyond w_OM_beyond ({ frames := 2, cells := 0, slots := 0, locals := 100 }) (va_Pc [.ref (x_oa S), .int (nI m), .int (nI m)] (SW9 dC dI S sz)) (va_Qi (fun (r : Int32) (S2 : CX9) => S2 = S ∧ r = 0) (fun S2 t9 => PW9 l dC dI S sz S2 t9) (va_A (cw9 S) sz)) (0) (0) (va_A (cw9 S) sz) := by
  refine Met.ofW (cc := b_OM_beyond) (maxL := 3) (ret := (some .int)) (by decide) rfl ?_
  intro p e0 s m9 args below meth c s₁ B hml hv
  obtain ⟨rfl, hsz, hP, hK, hD0, hn⟩ := hv
  have hx := B.exec
  have hb := B.bytes
  have hr := B.returns
  have hw := fun w (h : w ∈ wt) => atoms_spec (ws := w_OM_beyond) B.pre w (List.mem_cons_of_mem _ h)
  have hown : s.vm.findClass R_OM = some m9.cls := findClass_of_methodNamed B.named
  have hlocks := B.notSynchronized
  subst hsz
  have hD := hD0.self (sz := s.heap.size)
  have hA : ∀ q : Nat, s.heap.size ≤ q → va_A (cw9 S) s.heap.size q := fun q h => Or.inr h
  clear hD0
  have hS : va_S (va_A (cw9 S) s.heap.size) s.heap s.heap [] := va_S.rf
  have hl := lv_entry ([.ref (x_oa S), .int (nI m), .int (nI m)]) (n := 3) (Nat.le_of_ble_eq_true rfl)
  rw [lg_entry_eq]
  generalize (lg_sl ([.ref (x_oa S), .int (nI m), .int (nI m)]) ++ List.replicate (3 - (lg_sl ([.ref (x_oa S), .int (nI m), .int (nI m)])).length) Slot.unset).toArray = ls at hl ⊢
  replace hl : lv_has ls 3 [(0, .ref (x_oa S)), (1, .int (nI m)), (2, .int (nI m))] := hl
  refine lv_iload_n hx hb d_OM_beyond_0 rfl (lv_at hl 1 rfl) ?_
  have hP0 : va_P (dC, dI) classes [] s.heap := fun k q h => absurd h (by simp)
  have hK0 := hK.sub (tys' := []) [] rfl
  have hFc : ∀ q, va_A ([] : va_W) s.heap.size q → va_A (cw9 S) s.heap.size q := fun q h => h.elim (fun ⟨k, e, w⟩ => absurd w (by simp)) (fun w => hA q (Nat.le_trans hS.1 w))
  refine va_calli (va_runS (As := [.int (nI m)]) (rest := []) ⟨hx, hb, hml, hown, hw⟩ (gen_OM_isModel l dC dI (nI m) s.heap.size) (cw_S 1 hw g_OM_isModel rfl rfl rfl (hw _ m_101) (hw _ m_465) (hw _ m_466) (by decide +kernel) ⟨by show _ ≤ (2 : Nat); (try dsimp only); omega, by show _ ≤ (100 : Nat); (try dsimp only); omega⟩) ⟨fun a U g mk q => by obtain ⟨q0, q1, qP, qK, qD, qN⟩ := q; exact ⟨q0, q1, qP, va_K.moved (u := U) (U := U.calling g mk a) (Vm.Alike.refl U.vm) qK, qD, nw_call qN⟩, fun U hU hW => ⟨rfl, by rw [hU], by rw [hU]; exact hP0, va_K.moved hW.alike hK0, vD0, nw_warm hW hn⟩⟩ rfl rfl hl.1 rfl (lv_room (Nat.le_of_ble_eq_true rfl)) d_OM_beyond_1 ⟨by show _ ≤ (0 : Nat); (try dsimp only); omega, by show _ ≤ (0 : Nat); (try dsimp only); omega⟩) hS (fun q _ h => hFc q h) hFc ?_
  intro r_1 u t9 H1 locs1 ht9 hvm hw1 hB hz1 hk1 hS1
  have hPn : va_P (dC, dI) classes (cw9 S) H1 := hP.kept (fun k q hk => hk1 q.1 (hP k q hk).lt (fun z => z.elim (fun ⟨k2, e, w⟩ => absurd w (by simp)) (fun w => absurd (hP k q hk).lt (Nat.not_lt.mpr w))))
  clear hB hz1 hk1 hFc hvm ht9 hP hS t9 hP0 hK0
  have hP := hPn
  clear hPn
  revert H1 locs1
  intro H locs hS hP
  refine tp_i (y := 1) (by rw [hw1, if_pos ⟨nI_pos (by omega), by rw [nI_clamp (by omega)]; exact hm⟩]) ?_
  refine tp_pc (pc' := 4) (by rfl) ?_
  refine lv_if_eq (tgt := 14) hx hb d_OM_beyond_4 (by decide) (fun c_2 => absurd c_2 (by decide)) (fun c_2 => ?_)
  refine tp_pc (pc' := 7) (by rfl) ?_
  refine lv_iload_n hx hb d_OM_beyond_7 rfl (lv_at hl 2 rfl) ?_
  have hP0 : va_P (dC, dI) classes [] H := fun k q h => absurd h (by simp)
  have hK0 := hK.sub (tys' := []) [] rfl
  have hFc : ∀ q, va_A ([] : va_W) H.size q → va_A (cw9 S) s.heap.size q := fun q h => h.elim (fun ⟨k, e, w⟩ => absurd w (by simp)) (fun w => hA q (Nat.le_trans hS.1 w))
  refine va_calli (va_runS (As := [.int (nI m)]) (rest := []) ⟨hx, hb, hml, hown, hw⟩ (gen_OM_isModel l dC dI (nI m) H.size) (cw_S 1 hw g_OM_isModel rfl rfl rfl (hw _ m_101) (hw _ m_465) (hw _ m_466) (by decide +kernel) ⟨by show _ ≤ (2 : Nat); (try dsimp only); omega, by show _ ≤ (100 : Nat); (try dsimp only); omega⟩) ⟨fun a U g mk q => by obtain ⟨q0, q1, qP, qK, qD, qN⟩ := q; exact ⟨q0, q1, qP, va_K.moved (u := U) (U := U.calling g mk a) (Vm.Alike.refl U.vm) qK, qD, nw_call qN⟩, fun U hU hW => ⟨rfl, by rw [hU], by rw [hU]; exact hP0, va_K.moved hW.alike hK0, vD0, nw_warm hW hn⟩⟩ rfl rfl hl.1 rfl (lv_room (Nat.le_of_ble_eq_true rfl)) d_OM_beyond_8 ⟨by show _ ≤ (0 : Nat); (try dsimp only); omega, by show _ ≤ (0 : Nat); (try dsimp only); omega⟩) hS (fun q _ h => hFc q h) hFc ?_
  intro r_3 u t9 H1 locs1 ht9 hvm hw1 hB hz1 hk1 hS1
  have hPn : va_P (dC, dI) classes (cw9 S) H1 := hP.kept (fun k q hk => hk1 q.1 (hP k q hk).lt (fun z => z.elim (fun ⟨k2, e, w⟩ => absurd w (by simp)) (fun w => absurd (hP k q hk).lt (Nat.not_lt.mpr w))))
  clear hB hz1 hk1 hFc hvm ht9 hP hS t9 hP0 hK0 locs H
  have hP := hPn
  clear hPn
  revert H1 locs1
  intro H locs hS hP
  refine tp_i (y := 1) (by rw [hw1, if_pos ⟨nI_pos (by omega), by rw [nI_clamp (by omega)]; exact hm⟩]) ?_
  refine tp_pc (pc' := 11) (by rfl) ?_
  refine lv_if_ne (tgt := 16) hx hb d_OM_beyond_11 (by decide) (fun c_4 => ?_) (fun c_4 => absurd c_4 (by decide))
  refine tp_pc (pc' := 16) (by rfl) ?_
  refine lv_iload_n hx hb d_OM_beyond_16 rfl (lv_at hl 1 rfl) ?_
  refine lv_iload_n hx hb d_OM_beyond_17 rfl (lv_at hl 2 rfl) ?_
  refine lv_icmp_ne (tgt := 25) hx hb d_OM_beyond_18 (by decide) (fun c9 => absurd rfl c9) (fun c9 => ?_)
  refine tp_pc (pc' := 21) (by rfl) ?_
  refine lv_iconst (v := 0) hx hb d_OM_beyond_21 (by decide) ?_
  refine lv_goto (tgt := 38) hx hb d_OM_beyond_22 (by decide) ?_
  refine tp_pc (pc' := 38) (by rfl) ?_
  refine W.widen (k := 0) (n := 0) (by omega) (by omega) ?_
  exact W.iret (v := 0) hx hb hr (fun t9 ht9 hW => ⟨⟨0, S, rfl, ⟨rfl, rfl⟩, by rw [ht9]; exact hP, ⟨ct9 S, va_K.moved hW.alike hK, fun q h => Or.inr h⟩, hD⟩, hS.F ht9⟩) hS.2.2 d_OM_beyond_38
