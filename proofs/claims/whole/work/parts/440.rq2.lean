set_option maxHeartbeats 4000000 in
set_option maxRecDepth 100000 in
theorem rRu9b (l : Launch) (dC : Nat → ClassId) (dI : Nat → Nat → Nat) (ra : Nat) (rA : Nat → Nat) (rK9 : Nat → ClassId) (S : RX9) (mx : Int32) (hb9 : ¬ (¬ mx < 0 ∧ mx.toNatClampNeg < 4)) (sz : Nat) : Met l y_Ref_runs w_Ref_runs ({ frames := 2, cells := 0, slots := 0, locals := 100 }) (va_Pc [.ref ra, .int mx] (SR9 dC dI ra rA rK9 S sz)) (va_Qi (fun (r : Int32) (S2 : RX9) => S2 = S ∧ r = -1) (fun S2 t9 => PR9 dC dI ra rA rK9 S sz S2 t9) (va_A (rw9 ra rA rK9 S) sz)) (0) (0) (va_A (rw9 ra rA rK9 S) sz) := by
  refine Met.ofW (cc := b_Ref_runs) (maxL := 2) (ret := (some .int)) (by decide) rfl ?_
  intro p e0 s m9 args below meth c s₁ B hml hv
  obtain ⟨rfl, hsz, hP, hK, hD0, hn⟩ := hv
  have hx := B.exec
  have hb := B.bytes
  have hr := B.returns
  have hw := fun w (h : w ∈ wt) => atoms_spec (ws := w_Ref_runs) B.pre w (List.mem_cons_of_mem _ h)
  have hown : s.vm.findClass R_Ref = some m9.cls := findClass_of_methodNamed B.named
  have hlocks := B.notSynchronized
  subst hsz
  have hD := hD0.self (sz := s.heap.size)
  have hA : ∀ q : Nat, s.heap.size ≤ q → va_A (rw9 ra rA rK9 S) s.heap.size q := fun q h => Or.inr h
  clear hD0
  have hS : va_S (va_A (rw9 ra rA rK9 S) s.heap.size) s.heap s.heap [] := va_S.rf
  have hl := lv_entry ([.ref ra, .int mx]) (n := 2) (Nat.le_of_ble_eq_true rfl)
  rw [lg_entry_eq]
  generalize (lg_sl ([.ref ra, .int mx]) ++ List.replicate (2 - (lg_sl ([.ref ra, .int mx])).length) Slot.unset).toArray = ls at hl ⊢
  replace hl : lv_has ls 2 [(0, .ref ra), (1, .int mx)] := hl
  refine lv_iload_n hx hb d_Ref_runs_0 rfl (lv_at hl 1 rfl) ?_
  have hP0 : va_P (dC, dI) classes [] s.heap := fun k q h => absurd h (by simp)
  have hK0 := hK.sub (tys' := []) [] rfl
  have hFc : ∀ q, va_A ([] : va_W) s.heap.size q → va_A (rw9 ra rA rK9 S) s.heap.size q := fun q h => h.elim (fun ⟨k, e, w⟩ => absurd w (by simp)) (fun w => hA q (Nat.le_trans hS.1 w))
  refine va_calli (va_runS (As := [.int mx]) (rest := []) ⟨hx, hb, hml, hown, hw⟩ (gen_Ref_isModel l dC dI mx s.heap.size) (cw_S 1 hw g_Ref_isModel rfl rfl rfl (hw _ m_109) (hw _ m_1066) (hw _ m_1067) (by decide +kernel) ⟨by show _ ≤ (2 : Nat); (try dsimp only); omega, by show _ ≤ (100 : Nat); (try dsimp only); omega⟩) ⟨fun a U g mk q => by obtain ⟨q0, q1, qP, qK, qD, qN⟩ := q; exact ⟨q0, q1, qP, va_K.moved (u := U) (U := U.calling g mk a) (Vm.Alike.refl U.vm) qK, qD, nw_call qN⟩, fun U hU hW => ⟨rfl, by rw [hU], by rw [hU]; exact hP0, va_K.moved hW.alike hK0, vD0, nw_warm hW hn⟩⟩ rfl rfl hl.1 rfl (lv_room (Nat.le_of_ble_eq_true rfl)) d_Ref_runs_1 ⟨by show _ ≤ (0 : Nat); (try dsimp only); omega, by show _ ≤ (0 : Nat); (try dsimp only); omega⟩) hS (fun q _ h => hFc q h) hFc ?_
  intro r_1 u t9 H1 locs1 ht9 hvm hw1 hB hz1 hk1 hS1
  have hPn : va_P (dC, dI) classes (rw9 ra rA rK9 S) H1 := hP.kept (fun k q hk => hk1 q.1 (hP k q hk).lt (fun z => z.elim (fun ⟨k2, e, w⟩ => absurd w (by simp)) (fun w => absurd (hP k q hk).lt (Nat.not_lt.mpr w))))
  clear hB hz1 hk1 hFc hvm ht9 hP hS t9 hP0 hK0
  have hP := hPn
  clear hPn
  revert H1 locs1
  intro H locs hS hP
  refine tp_i (y := 0) (by rw [hw1, if_neg hb9]) ?_
  refine tp_pc (pc' := 4) (by rfl) ?_
  refine lv_if_ne (tgt := 9) hx hb d_Ref_runs_4 (by decide) (fun c_2 => absurd c_2 (by decide)) (fun c_2 => ?_)
  refine tp_pc (pc' := 7) (by rfl) ?_
  refine lv_iconst (v := (-1)) hx hb d_Ref_runs_7 (by decide) ?_
  refine W.widen (k := 0) (n := 0) (by omega) (by omega) ?_
  exact W.iret (v := (-1)) hx hb hr (fun t9 ht9 hW => ⟨⟨(-1), S, rfl, ⟨rfl, rfl⟩, by rw [ht9]; exact hP, hD⟩, hS.F ht9⟩) hS.2.2 d_Ref_runs_8
set_option maxHeartbeats 4000000 in
set_option maxRecDepth 100000 in
theorem rOr9b (l : Launch) (dC : Nat → ClassId) (dI : Nat → Nat → Nat) (ra : Nat) (rA : Nat → Nat) (rK9 : Nat → ClassId) (S : RX9) (mx : Int32) (hb9 : ¬ (¬ mx < 0 ∧ mx.toNatClampNeg < 4)) (sz : Nat) : Met l y_Ref_orders w_Ref_orders ({ frames := 2, cells := 0, slots := 0, locals := 100 }) (va_Pc [.ref ra, .int mx] (SR9 dC dI ra rA rK9 S sz)) (va_Qi (fun (r : Int32) (S2 : RX9) => S2 = S ∧ r = -1) (fun S2 t9 => PR9 dC dI ra rA rK9 S sz S2 t9) (va_A (rw9 ra rA rK9 S) sz)) (0) (0) (va_A (rw9 ra rA rK9 S) sz) := by
  refine Met.ofW (cc := b_Ref_orders) (maxL := 2) (ret := (some .int)) (by decide) rfl ?_
  intro p e0 s m9 args below meth c s₁ B hml hv
  obtain ⟨rfl, hsz, hP, hK, hD0, hn⟩ := hv
  have hx := B.exec
  have hb := B.bytes
  have hr := B.returns
  have hw := fun w (h : w ∈ wt) => atoms_spec (ws := w_Ref_orders) B.pre w (List.mem_cons_of_mem _ h)
  have hown : s.vm.findClass R_Ref = some m9.cls := findClass_of_methodNamed B.named
  have hlocks := B.notSynchronized
  subst hsz
  have hD := hD0.self (sz := s.heap.size)
  have hA : ∀ q : Nat, s.heap.size ≤ q → va_A (rw9 ra rA rK9 S) s.heap.size q := fun q h => Or.inr h
  clear hD0
  have hS : va_S (va_A (rw9 ra rA rK9 S) s.heap.size) s.heap s.heap [] := va_S.rf
  have hl := lv_entry ([.ref ra, .int mx]) (n := 2) (Nat.le_of_ble_eq_true rfl)
  rw [lg_entry_eq]
  generalize (lg_sl ([.ref ra, .int mx]) ++ List.replicate (2 - (lg_sl ([.ref ra, .int mx])).length) Slot.unset).toArray = ls at hl ⊢
  replace hl : lv_has ls 2 [(0, .ref ra), (1, .int mx)] := hl
  refine lv_iload_n hx hb d_Ref_orders_0 rfl (lv_at hl 1 rfl) ?_
  have hP0 : va_P (dC, dI) classes [] s.heap := fun k q h => absurd h (by simp)
  have hK0 := hK.sub (tys' := []) [] rfl
  have hFc : ∀ q, va_A ([] : va_W) s.heap.size q → va_A (rw9 ra rA rK9 S) s.heap.size q := fun q h => h.elim (fun ⟨k, e, w⟩ => absurd w (by simp)) (fun w => hA q (Nat.le_trans hS.1 w))
  refine va_calli (va_runS (As := [.int mx]) (rest := []) ⟨hx, hb, hml, hown, hw⟩ (gen_Ref_isModel l dC dI mx s.heap.size) (cw_S 1 hw g_Ref_isModel rfl rfl rfl (hw _ m_109) (hw _ m_1066) (hw _ m_1067) (by decide +kernel) ⟨by show _ ≤ (2 : Nat); (try dsimp only); omega, by show _ ≤ (100 : Nat); (try dsimp only); omega⟩) ⟨fun a U g mk q => by obtain ⟨q0, q1, qP, qK, qD, qN⟩ := q; exact ⟨q0, q1, qP, va_K.moved (u := U) (U := U.calling g mk a) (Vm.Alike.refl U.vm) qK, qD, nw_call qN⟩, fun U hU hW => ⟨rfl, by rw [hU], by rw [hU]; exact hP0, va_K.moved hW.alike hK0, vD0, nw_warm hW hn⟩⟩ rfl rfl hl.1 rfl (lv_room (Nat.le_of_ble_eq_true rfl)) d_Ref_orders_1 ⟨by show _ ≤ (0 : Nat); (try dsimp only); omega, by show _ ≤ (0 : Nat); (try dsimp only); omega⟩) hS (fun q _ h => hFc q h) hFc ?_
  intro r_1 u t9 H1 locs1 ht9 hvm hw1 hB hz1 hk1 hS1
  have hPn : va_P (dC, dI) classes (rw9 ra rA rK9 S) H1 := hP.kept (fun k q hk => hk1 q.1 (hP k q hk).lt (fun z => z.elim (fun ⟨k2, e, w⟩ => absurd w (by simp)) (fun w => absurd (hP k q hk).lt (Nat.not_lt.mpr w))))
  clear hB hz1 hk1 hFc hvm ht9 hP hS t9 hP0 hK0
  have hP := hPn
  clear hPn
  revert H1 locs1
  intro H locs hS hP
  refine tp_i (y := 0) (by rw [hw1, if_neg hb9]) ?_
  refine tp_pc (pc' := 4) (by rfl) ?_
  refine lv_if_ne (tgt := 9) hx hb d_Ref_orders_4 (by decide) (fun c_2 => absurd c_2 (by decide)) (fun c_2 => ?_)
  refine tp_pc (pc' := 7) (by rfl) ?_
  refine lv_iconst (v := (-1)) hx hb d_Ref_orders_7 (by decide) ?_
  refine W.widen (k := 0) (n := 0) (by omega) (by omega) ?_
  exact W.iret (v := (-1)) hx hb hr (fun t9 ht9 hW => ⟨⟨(-1), S, rfl, ⟨rfl, rfl⟩, by rw [ht9]; exact hP, hD⟩, hS.F ht9⟩) hS.2.2 d_Ref_orders_8
set_option maxHeartbeats 4000000 in
set_option maxRecDepth 100000 in
theorem rGr9b (l : Launch) (dC : Nat → ClassId) (dI : Nat → Nat → Nat) (ra : Nat) (rA : Nat → Nat) (rK9 : Nat → ClassId) (S : RX9) (mx : Int32) (hb9 : ¬ (¬ mx < 0 ∧ mx.toNatClampNeg < 4)) (sz : Nat) : Met l y_Ref_graphs w_Ref_graphs ({ frames := 2, cells := 0, slots := 0, locals := 100 }) (va_Pc [.ref ra, .int mx] (SR9 dC dI ra rA rK9 S sz)) (va_Qi (fun (r : Int32) (S2 : RX9) => S2 = S ∧ r = -1) (fun S2 t9 => PR9 dC dI ra rA rK9 S sz S2 t9) (va_A (rw9 ra rA rK9 S) sz)) (0) (0) (va_A (rw9 ra rA rK9 S) sz) := by
  refine Met.ofW (cc := b_Ref_graphs) (maxL := 2) (ret := (some .int)) (by decide) rfl ?_
  intro p e0 s m9 args below meth c s₁ B hml hv
  obtain ⟨rfl, hsz, hP, hK, hD0, hn⟩ := hv
  have hx := B.exec
  have hb := B.bytes
  have hr := B.returns
  have hw := fun w (h : w ∈ wt) => atoms_spec (ws := w_Ref_graphs) B.pre w (List.mem_cons_of_mem _ h)
  have hown : s.vm.findClass R_Ref = some m9.cls := findClass_of_methodNamed B.named
  have hlocks := B.notSynchronized
  subst hsz
  have hD := hD0.self (sz := s.heap.size)
  have hA : ∀ q : Nat, s.heap.size ≤ q → va_A (rw9 ra rA rK9 S) s.heap.size q := fun q h => Or.inr h
  clear hD0
  have hS : va_S (va_A (rw9 ra rA rK9 S) s.heap.size) s.heap s.heap [] := va_S.rf
  have hl := lv_entry ([.ref ra, .int mx]) (n := 2) (Nat.le_of_ble_eq_true rfl)
  rw [lg_entry_eq]
  generalize (lg_sl ([.ref ra, .int mx]) ++ List.replicate (2 - (lg_sl ([.ref ra, .int mx])).length) Slot.unset).toArray = ls at hl ⊢
  replace hl : lv_has ls 2 [(0, .ref ra), (1, .int mx)] := hl
  refine lv_iload_n hx hb d_Ref_graphs_0 rfl (lv_at hl 1 rfl) ?_
  have hP0 : va_P (dC, dI) classes [] s.heap := fun k q h => absurd h (by simp)
  have hK0 := hK.sub (tys' := []) [] rfl
  have hFc : ∀ q, va_A ([] : va_W) s.heap.size q → va_A (rw9 ra rA rK9 S) s.heap.size q := fun q h => h.elim (fun ⟨k, e, w⟩ => absurd w (by simp)) (fun w => hA q (Nat.le_trans hS.1 w))
  refine va_calli (va_runS (As := [.int mx]) (rest := []) ⟨hx, hb, hml, hown, hw⟩ (gen_Ref_isModel l dC dI mx s.heap.size) (cw_S 1 hw g_Ref_isModel rfl rfl rfl (hw _ m_109) (hw _ m_1066) (hw _ m_1067) (by decide +kernel) ⟨by show _ ≤ (2 : Nat); (try dsimp only); omega, by show _ ≤ (100 : Nat); (try dsimp only); omega⟩) ⟨fun a U g mk q => by obtain ⟨q0, q1, qP, qK, qD, qN⟩ := q; exact ⟨q0, q1, qP, va_K.moved (u := U) (U := U.calling g mk a) (Vm.Alike.refl U.vm) qK, qD, nw_call qN⟩, fun U hU hW => ⟨rfl, by rw [hU], by rw [hU]; exact hP0, va_K.moved hW.alike hK0, vD0, nw_warm hW hn⟩⟩ rfl rfl hl.1 rfl (lv_room (Nat.le_of_ble_eq_true rfl)) d_Ref_graphs_1 ⟨by show _ ≤ (0 : Nat); (try dsimp only); omega, by show _ ≤ (0 : Nat); (try dsimp only); omega⟩) hS (fun q _ h => hFc q h) hFc ?_
  intro r_1 u t9 H1 locs1 ht9 hvm hw1 hB hz1 hk1 hS1
  have hPn : va_P (dC, dI) classes (rw9 ra rA rK9 S) H1 := hP.kept (fun k q hk => hk1 q.1 (hP k q hk).lt (fun z => z.elim (fun ⟨k2, e, w⟩ => absurd w (by simp)) (fun w => absurd (hP k q hk).lt (Nat.not_lt.mpr w))))
  clear hB hz1 hk1 hFc hvm ht9 hP hS t9 hP0 hK0
  have hP := hPn
  clear hPn
  revert H1 locs1
  intro H locs hS hP
  refine tp_i (y := 0) (by rw [hw1, if_neg hb9]) ?_
  refine tp_pc (pc' := 4) (by rfl) ?_
  refine lv_if_ne (tgt := 9) hx hb d_Ref_graphs_4 (by decide) (fun c_2 => absurd c_2 (by decide)) (fun c_2 => ?_)
  refine tp_pc (pc' := 7) (by rfl) ?_
  refine lv_iconst (v := (-1)) hx hb d_Ref_graphs_7 (by decide) ?_
  refine W.widen (k := 0) (n := 0) (by omega) (by omega) ?_
  exact W.iret (v := (-1)) hx hb hr (fun t9 ht9 hW => ⟨⟨(-1), S, rfl, ⟨rfl, rfl⟩, by rw [ht9]; exact hP, hD⟩, hS.F ht9⟩) hS.2.2 d_Ref_graphs_8
set_option maxHeartbeats 4000000 in
set_option maxRecDepth 100000 in
theorem rOut9b (l : Launch) (dC : Nat → ClassId) (dI : Nat → Nat → Nat) (ra : Nat) (rA : Nat → Nat) (rK9 : Nat → ClassId) (S : RX9) (mx i9 w9 : Int32) (hb9 : ¬ (¬ mx < 0 ∧ mx.toNatClampNeg < 4)) (sz : Nat) : Met l y_Ref_outcome w_Ref_outcome ({ frames := 2, cells := 0, slots := 0, locals := 100 }) (va_Pc [.ref ra, .int mx, .int i9, .int w9] (SR9 dC dI ra rA rK9 S sz)) (va_Qi (fun (r : Int32) (S2 : RX9) => S2 = S ∧ r = -1000) (fun S2 t9 => PR9 dC dI ra rA rK9 S sz S2 t9) (va_A (rw9 ra rA rK9 S) sz)) (0) (0) (va_A (rw9 ra rA rK9 S) sz) := by
  refine Met.ofW (cc := b_Ref_outcome) (maxL := 4) (ret := (some .int)) (by decide) rfl ?_
  intro p e0 s m9 args below meth c s₁ B hml hv
  obtain ⟨rfl, hsz, hP, hK, hD0, hn⟩ := hv
  have hx := B.exec
  have hb := B.bytes
  have hr := B.returns
  have hw := fun w (h : w ∈ wt) => atoms_spec (ws := w_Ref_outcome) B.pre w (List.mem_cons_of_mem _ h)
  have hown : s.vm.findClass R_Ref = some m9.cls := findClass_of_methodNamed B.named
  have hlocks := B.notSynchronized
  subst hsz
  have hD := hD0.self (sz := s.heap.size)
  have hA : ∀ q : Nat, s.heap.size ≤ q → va_A (rw9 ra rA rK9 S) s.heap.size q := fun q h => Or.inr h
  clear hD0
  have hS : va_S (va_A (rw9 ra rA rK9 S) s.heap.size) s.heap s.heap [] := va_S.rf
  have hl := lv_entry ([.ref ra, .int mx, .int i9, .int w9]) (n := 4) (Nat.le_of_ble_eq_true rfl)
  rw [lg_entry_eq]
  generalize (lg_sl ([.ref ra, .int mx, .int i9, .int w9]) ++ List.replicate (4 - (lg_sl ([.ref ra, .int mx, .int i9, .int w9])).length) Slot.unset).toArray = ls at hl ⊢
  replace hl : lv_has ls 4 [(0, .ref ra), (1, .int mx), (2, .int i9), (3, .int w9)] := hl
  refine lv_iload_n hx hb d_Ref_outcome_0 rfl (lv_at hl 1 rfl) ?_
  have hP0 : va_P (dC, dI) classes [] s.heap := fun k q h => absurd h (by simp)
  have hK0 := hK.sub (tys' := []) [] rfl
  have hFc : ∀ q, va_A ([] : va_W) s.heap.size q → va_A (rw9 ra rA rK9 S) s.heap.size q := fun q h => h.elim (fun ⟨k, e, w⟩ => absurd w (by simp)) (fun w => hA q (Nat.le_trans hS.1 w))
  refine va_calli (va_runS (As := [.int mx]) (rest := []) ⟨hx, hb, hml, hown, hw⟩ (gen_Ref_isModel l dC dI mx s.heap.size) (cw_S 1 hw g_Ref_isModel rfl rfl rfl (hw _ m_109) (hw _ m_1066) (hw _ m_1067) (by decide +kernel) ⟨by show _ ≤ (2 : Nat); (try dsimp only); omega, by show _ ≤ (100 : Nat); (try dsimp only); omega⟩) ⟨fun a U g mk q => by obtain ⟨q0, q1, qP, qK, qD, qN⟩ := q; exact ⟨q0, q1, qP, va_K.moved (u := U) (U := U.calling g mk a) (Vm.Alike.refl U.vm) qK, qD, nw_call qN⟩, fun U hU hW => ⟨rfl, by rw [hU], by rw [hU]; exact hP0, va_K.moved hW.alike hK0, vD0, nw_warm hW hn⟩⟩ rfl rfl hl.1 rfl (lv_room (Nat.le_of_ble_eq_true rfl)) d_Ref_outcome_1 ⟨by show _ ≤ (0 : Nat); (try dsimp only); omega, by show _ ≤ (0 : Nat); (try dsimp only); omega⟩) hS (fun q _ h => hFc q h) hFc ?_
  intro r_1 u t9 H1 locs1 ht9 hvm hw1 hB hz1 hk1 hS1
  have hPn : va_P (dC, dI) classes (rw9 ra rA rK9 S) H1 := hP.kept (fun k q hk => hk1 q.1 (hP k q hk).lt (fun z => z.elim (fun ⟨k2, e, w⟩ => absurd w (by simp)) (fun w => absurd (hP k q hk).lt (Nat.not_lt.mpr w))))
  clear hB hz1 hk1 hFc hvm ht9 hP hS t9 hP0 hK0
  have hP := hPn
  clear hPn
  revert H1 locs1
  intro H locs hS hP
  refine tp_i (y := 0) (by rw [hw1, if_neg hb9]) ?_
  refine tp_pc (pc' := 4) (by rfl) ?_
  refine lv_if_ne (tgt := 11) hx hb d_Ref_outcome_4 (by decide) (fun c_2 => absurd c_2 (by decide)) (fun c_2 => ?_)
  refine tp_pc (pc' := 7) (by rfl) ?_
  refine lv_sipush (v := (-1000)) hx hb d_Ref_outcome_7 (by decide) ?_
  refine W.widen (k := 0) (n := 0) (by omega) (by omega) ?_
  exact W.iret (v := (-1000)) hx hb hr (fun t9 ht9 hW => ⟨⟨(-1000), S, rfl, ⟨rfl, rfl⟩, by rw [ht9]; exact hP, hD⟩, hS.F ht9⟩) hS.2.2 d_Ref_outcome_10
set_option maxHeartbeats 4000000 in
set_option maxRecDepth 100000 in
theorem rWit9b (l : Launch) (dC : Nat → ClassId) (dI : Nat → Nat → Nat) (ra : Nat) (rA : Nat → Nat) (rK9 : Nat → ClassId) (S : RX9) (mx i9 w9 : Int32) (hb9 : ¬ (¬ mx < 0 ∧ mx.toNatClampNeg < 4)) (sz : Nat) : Met l y_Ref_witness w_Ref_witness ({ frames := 2, cells := 0, slots := 0, locals := 100 }) (va_Pc [.ref ra, .int mx, .int i9, .int w9] (SR9 dC dI ra rA rK9 S sz)) (va_Qi (fun (r : Int32) (S2 : RX9) => S2 = S ∧ r = -1) (fun S2 t9 => PR9 dC dI ra rA rK9 S sz S2 t9) (va_A (rw9 ra rA rK9 S) sz)) (0) (0) (va_A (rw9 ra rA rK9 S) sz) := by
  refine Met.ofW (cc := b_Ref_witness) (maxL := 5) (ret := (some .int)) (by decide) rfl ?_
  intro p e0 s m9 args below meth c s₁ B hml hv
  obtain ⟨rfl, hsz, hP, hK, hD0, hn⟩ := hv
  have hx := B.exec
  have hb := B.bytes
  have hr := B.returns
  have hw := fun w (h : w ∈ wt) => atoms_spec (ws := w_Ref_witness) B.pre w (List.mem_cons_of_mem _ h)
  have hown : s.vm.findClass R_Ref = some m9.cls := findClass_of_methodNamed B.named
  have hlocks := B.notSynchronized
  subst hsz
  have hD := hD0.self (sz := s.heap.size)
  have hA : ∀ q : Nat, s.heap.size ≤ q → va_A (rw9 ra rA rK9 S) s.heap.size q := fun q h => Or.inr h
  clear hD0
  have hS : va_S (va_A (rw9 ra rA rK9 S) s.heap.size) s.heap s.heap [] := va_S.rf
  have hl := lv_entry ([.ref ra, .int mx, .int i9, .int w9]) (n := 5) (Nat.le_of_ble_eq_true rfl)
  rw [lg_entry_eq]
  generalize (lg_sl ([.ref ra, .int mx, .int i9, .int w9]) ++ List.replicate (5 - (lg_sl ([.ref ra, .int mx, .int i9, .int w9])).length) Slot.unset).toArray = ls at hl ⊢
  replace hl : lv_has ls 5 [(0, .ref ra), (1, .int mx), (2, .int i9), (3, .int w9)] := hl
  refine lv_iload_n hx hb d_Ref_witness_0 rfl (lv_at hl 1 rfl) ?_
  have hP0 : va_P (dC, dI) classes [] s.heap := fun k q h => absurd h (by simp)
  have hK0 := hK.sub (tys' := []) [] rfl
  have hFc : ∀ q, va_A ([] : va_W) s.heap.size q → va_A (rw9 ra rA rK9 S) s.heap.size q := fun q h => h.elim (fun ⟨k, e, w⟩ => absurd w (by simp)) (fun w => hA q (Nat.le_trans hS.1 w))
  refine va_calli (va_runS (As := [.int mx]) (rest := []) ⟨hx, hb, hml, hown, hw⟩ (gen_Ref_isModel l dC dI mx s.heap.size) (cw_S 1 hw g_Ref_isModel rfl rfl rfl (hw _ m_109) (hw _ m_1066) (hw _ m_1067) (by decide +kernel) ⟨by show _ ≤ (2 : Nat); (try dsimp only); omega, by show _ ≤ (100 : Nat); (try dsimp only); omega⟩) ⟨fun a U g mk q => by obtain ⟨q0, q1, qP, qK, qD, qN⟩ := q; exact ⟨q0, q1, qP, va_K.moved (u := U) (U := U.calling g mk a) (Vm.Alike.refl U.vm) qK, qD, nw_call qN⟩, fun U hU hW => ⟨rfl, by rw [hU], by rw [hU]; exact hP0, va_K.moved hW.alike hK0, vD0, nw_warm hW hn⟩⟩ rfl rfl hl.1 rfl (lv_room (Nat.le_of_ble_eq_true rfl)) d_Ref_witness_1 ⟨by show _ ≤ (0 : Nat); (try dsimp only); omega, by show _ ≤ (0 : Nat); (try dsimp only); omega⟩) hS (fun q _ h => hFc q h) hFc ?_
  intro r_1 u t9 H1 locs1 ht9 hvm hw1 hB hz1 hk1 hS1
  have hPn : va_P (dC, dI) classes (rw9 ra rA rK9 S) H1 := hP.kept (fun k q hk => hk1 q.1 (hP k q hk).lt (fun z => z.elim (fun ⟨k2, e, w⟩ => absurd w (by simp)) (fun w => absurd (hP k q hk).lt (Nat.not_lt.mpr w))))
  clear hB hz1 hk1 hFc hvm ht9 hP hS t9 hP0 hK0
  have hP := hPn
  clear hPn
  revert H1 locs1
  intro H locs hS hP
  refine tp_i (y := 0) (by rw [hw1, if_neg hb9]) ?_
  refine tp_pc (pc' := 4) (by rfl) ?_
  refine lv_if_ne (tgt := 9) hx hb d_Ref_witness_4 (by decide) (fun c_2 => absurd c_2 (by decide)) (fun c_2 => ?_)
  refine tp_pc (pc' := 7) (by rfl) ?_
  refine lv_iconst (v := (-1)) hx hb d_Ref_witness_7 (by decide) ?_
  refine W.widen (k := 0) (n := 0) (by omega) (by omega) ?_
  exact W.iret (v := (-1)) hx hb hr (fun t9 ht9 hW => ⟨⟨(-1), S, rfl, ⟨rfl, rfl⟩, by rw [ht9]; exact hP, hD⟩, hS.F ht9⟩) hS.2.2 d_Ref_witness_8
set_option maxHeartbeats 4000000 in
set_option maxRecDepth 100000 in
theorem rOrd9b (l : Launch) (dC : Nat → ClassId) (dI : Nat → Nat → Nat) (ra : Nat) (rA : Nat → Nat) (rK9 : Nat → ClassId) (S : RX9) (mx i9 w9 : Int32) (hb9 : ¬ (¬ mx < 0 ∧ mx.toNatClampNeg < 4)) (sz : Nat) : Met l y_Ref_ordered w_Ref_ordered ({ frames := 2, cells := 0, slots := 0, locals := 100 }) (va_Pc [.ref ra, .int mx, .int i9, .int w9] (SR9 dC dI ra rA rK9 S sz)) (va_Qi (fun (r : Int32) (S2 : RX9) => S2 = S ∧ r = -1000) (fun S2 t9 => PR9 dC dI ra rA rK9 S sz S2 t9) (va_A (rw9 ra rA rK9 S) sz)) (0) (0) (va_A (rw9 ra rA rK9 S) sz) := by
  refine Met.ofW (cc := b_Ref_ordered) (maxL := 4) (ret := (some .int)) (by decide) rfl ?_
  intro p e0 s m9 args below meth c s₁ B hml hv
  obtain ⟨rfl, hsz, hP, hK, hD0, hn⟩ := hv
  have hx := B.exec
  have hb := B.bytes
  have hr := B.returns
  have hw := fun w (h : w ∈ wt) => atoms_spec (ws := w_Ref_ordered) B.pre w (List.mem_cons_of_mem _ h)
  have hown : s.vm.findClass R_Ref = some m9.cls := findClass_of_methodNamed B.named
  have hlocks := B.notSynchronized
  subst hsz
  have hD := hD0.self (sz := s.heap.size)
  have hA : ∀ q : Nat, s.heap.size ≤ q → va_A (rw9 ra rA rK9 S) s.heap.size q := fun q h => Or.inr h
  clear hD0
  have hS : va_S (va_A (rw9 ra rA rK9 S) s.heap.size) s.heap s.heap [] := va_S.rf
  have hl := lv_entry ([.ref ra, .int mx, .int i9, .int w9]) (n := 4) (Nat.le_of_ble_eq_true rfl)
  rw [lg_entry_eq]
  generalize (lg_sl ([.ref ra, .int mx, .int i9, .int w9]) ++ List.replicate (4 - (lg_sl ([.ref ra, .int mx, .int i9, .int w9])).length) Slot.unset).toArray = ls at hl ⊢
  replace hl : lv_has ls 4 [(0, .ref ra), (1, .int mx), (2, .int i9), (3, .int w9)] := hl
  refine lv_iload_n hx hb d_Ref_ordered_0 rfl (lv_at hl 1 rfl) ?_
  have hP0 : va_P (dC, dI) classes [] s.heap := fun k q h => absurd h (by simp)
  have hK0 := hK.sub (tys' := []) [] rfl
  have hFc : ∀ q, va_A ([] : va_W) s.heap.size q → va_A (rw9 ra rA rK9 S) s.heap.size q := fun q h => h.elim (fun ⟨k, e, w⟩ => absurd w (by simp)) (fun w => hA q (Nat.le_trans hS.1 w))
  refine va_calli (va_runS (As := [.int mx]) (rest := []) ⟨hx, hb, hml, hown, hw⟩ (gen_Ref_isModel l dC dI mx s.heap.size) (cw_S 1 hw g_Ref_isModel rfl rfl rfl (hw _ m_109) (hw _ m_1066) (hw _ m_1067) (by decide +kernel) ⟨by show _ ≤ (2 : Nat); (try dsimp only); omega, by show _ ≤ (100 : Nat); (try dsimp only); omega⟩) ⟨fun a U g mk q => by obtain ⟨q0, q1, qP, qK, qD, qN⟩ := q; exact ⟨q0, q1, qP, va_K.moved (u := U) (U := U.calling g mk a) (Vm.Alike.refl U.vm) qK, qD, nw_call qN⟩, fun U hU hW => ⟨rfl, by rw [hU], by rw [hU]; exact hP0, va_K.moved hW.alike hK0, vD0, nw_warm hW hn⟩⟩ rfl rfl hl.1 rfl (lv_room (Nat.le_of_ble_eq_true rfl)) d_Ref_ordered_1 ⟨by show _ ≤ (0 : Nat); (try dsimp only); omega, by show _ ≤ (0 : Nat); (try dsimp only); omega⟩) hS (fun q _ h => hFc q h) hFc ?_
  intro r_1 u t9 H1 locs1 ht9 hvm hw1 hB hz1 hk1 hS1
  have hPn : va_P (dC, dI) classes (rw9 ra rA rK9 S) H1 := hP.kept (fun k q hk => hk1 q.1 (hP k q hk).lt (fun z => z.elim (fun ⟨k2, e, w⟩ => absurd w (by simp)) (fun w => absurd (hP k q hk).lt (Nat.not_lt.mpr w))))
  clear hB hz1 hk1 hFc hvm ht9 hP hS t9 hP0 hK0
  have hP := hPn
  clear hPn
  revert H1 locs1
  intro H locs hS hP
  refine tp_i (y := 0) (by rw [hw1, if_neg hb9]) ?_
  refine tp_pc (pc' := 4) (by rfl) ?_
  refine lv_if_ne (tgt := 11) hx hb d_Ref_ordered_4 (by decide) (fun c_2 => absurd c_2 (by decide)) (fun c_2 => ?_)
  refine tp_pc (pc' := 7) (by rfl) ?_
  refine lv_sipush (v := (-1000)) hx hb d_Ref_ordered_7 (by decide) ?_
  refine W.widen (k := 0) (n := 0) (by omega) (by omega) ?_
  exact W.iret (v := (-1000)) hx hb hr (fun t9 ht9 hW => ⟨⟨(-1000), S, rfl, ⟨rfl, rfl⟩, by rw [ht9]; exact hP, hD⟩, hS.F ht9⟩) hS.2.2 d_Ref_ordered_10
set_option maxHeartbeats 4000000 in
set_option maxRecDepth 100000 in
theorem rBey9b (l : Launch) (dC : Nat → ClassId) (dI : Nat → Nat → Nat) (ra : Nat) (rA : Nat → Nat) (rK9 : Nat → ClassId) (S : RX9) (mx ox : Int32) (hb9 : ¬ ((¬ mx < 0 ∧ mx.toNatClampNeg < 4) ∧ (¬ ox < 0 ∧ ox.toNatClampNeg < 4))) (sz : Nat) : Met l y_Ref_beyond w_Ref_beyond ({ frames := 2, cells := 0, slots := 0, locals := 100 }) (va_Pc [.ref ra, .int mx, .int ox] (SR9 dC dI ra rA rK9 S sz)) (va_Qi (fun (r : Int32) (S2 : RX9) => S2 = S ∧ r = -1) (fun S2 t9 => PR9 dC dI ra rA rK9 S sz S2 t9) (va_A (rw9 ra rA rK9 S) sz)) (0) (0) (va_A (rw9 ra rA rK9 S) sz) := by
  refine Met.ofW (cc := b_Ref_beyond) (maxL := 9) (ret := (some .int)) (by decide) rfl ?_
  intro p e0 s m9 args below meth c s₁ B hml hv
  obtain ⟨rfl, hsz, hP, hK, hD0, hn⟩ := hv
  have hx := B.exec
  have hb := B.bytes
  have hr := B.returns
  have hw := fun w (h : w ∈ wt) => atoms_spec (ws := w_Ref_beyond) B.pre w (List.mem_cons_of_mem _ h)
  have hown : s.vm.findClass R_Ref = some m9.cls := findClass_of_methodNamed B.named
  have hlocks := B.notSynchronized
  subst hsz
  have hD := hD0.self (sz := s.heap.size)
  have hA : ∀ q : Nat, s.heap.size ≤ q → va_A (rw9 ra rA rK9 S) s.heap.size q := fun q h => Or.inr h
  clear hD0
  have hS : va_S (va_A (rw9 ra rA rK9 S) s.heap.size) s.heap s.heap [] := va_S.rf
  have hl := lv_entry ([.ref ra, .int mx, .int ox]) (n := 9) (Nat.le_of_ble_eq_true rfl)
  rw [lg_entry_eq]
  generalize (lg_sl ([.ref ra, .int mx, .int ox]) ++ List.replicate (9 - (lg_sl ([.ref ra, .int mx, .int ox])).length) Slot.unset).toArray = ls at hl ⊢
  replace hl : lv_has ls 9 [(0, .ref ra), (1, .int mx), (2, .int ox)] := hl
  refine lv_iload_n hx hb d_Ref_beyond_0 rfl (lv_at hl 1 rfl) ?_
  by_cases cA : ¬ mx < 0 ∧ mx.toNatClampNeg < 4
  · skip
    have hP0 : va_P (dC, dI) classes [] s.heap := fun k q h => absurd h (by simp)
    have hK0 := hK.sub (tys' := []) [] rfl
    have hFc : ∀ q, va_A ([] : va_W) s.heap.size q → va_A (rw9 ra rA rK9 S) s.heap.size q := fun q h => h.elim (fun ⟨k, e, w⟩ => absurd w (by simp)) (fun w => hA q (Nat.le_trans hS.1 w))
    refine va_calli (va_runS (As := [.int mx]) (rest := []) ⟨hx, hb, hml, hown, hw⟩ (gen_Ref_isModel l dC dI mx s.heap.size) (cw_S 1 hw g_Ref_isModel rfl rfl rfl (hw _ m_109) (hw _ m_1066) (hw _ m_1067) (by decide +kernel) ⟨by show _ ≤ (2 : Nat); (try dsimp only); omega, by show _ ≤ (100 : Nat); (try dsimp only); omega⟩) ⟨fun a U g mk q => by obtain ⟨q0, q1, qP, qK, qD, qN⟩ := q; exact ⟨q0, q1, qP, va_K.moved (u := U) (U := U.calling g mk a) (Vm.Alike.refl U.vm) qK, qD, nw_call qN⟩, fun U hU hW => ⟨rfl, by rw [hU], by rw [hU]; exact hP0, va_K.moved hW.alike hK0, vD0, nw_warm hW hn⟩⟩ rfl rfl hl.1 rfl (lv_room (Nat.le_of_ble_eq_true rfl)) d_Ref_beyond_1 ⟨by show _ ≤ (0 : Nat); (try dsimp only); omega, by show _ ≤ (0 : Nat); (try dsimp only); omega⟩) hS (fun q _ h => hFc q h) hFc ?_
    intro r_1 u t9 H1 locs1 ht9 hvm hw1 hB hz1 hk1 hS1
    have hPn : va_P (dC, dI) classes (rw9 ra rA rK9 S) H1 := hP.kept (fun k q hk => hk1 q.1 (hP k q hk).lt (fun z => z.elim (fun ⟨k2, e, w⟩ => absurd w (by simp)) (fun w => absurd (hP k q hk).lt (Nat.not_lt.mpr w))))
    clear hB hz1 hk1 hFc hvm ht9 hP hS t9 hP0 hK0
    have hP := hPn
    clear hPn
    revert H1 locs1
    intro H locs hS hP
    refine tp_i (y := 1) (by rw [hw1, if_pos cA]) ?_
    refine tp_pc (pc' := 4) (by rfl) ?_
    refine lv_if_eq (tgt := 14) hx hb d_Ref_beyond_4 (by decide) (fun c_2 => absurd c_2 (by decide)) (fun c_2 => ?_)
    refine tp_pc (pc' := 7) (by rfl) ?_
    refine lv_iload_n hx hb d_Ref_beyond_7 rfl (lv_at hl 2 rfl) ?_
    have hP0 : va_P (dC, dI) classes [] H := fun k q h => absurd h (by simp)
    have hK0 := hK.sub (tys' := []) [] rfl
    have hFc : ∀ q, va_A ([] : va_W) H.size q → va_A (rw9 ra rA rK9 S) s.heap.size q := fun q h => h.elim (fun ⟨k, e, w⟩ => absurd w (by simp)) (fun w => hA q (Nat.le_trans hS.1 w))
    refine va_calli (va_runS (As := [.int ox]) (rest := []) ⟨hx, hb, hml, hown, hw⟩ (gen_Ref_isModel l dC dI ox H.size) (cw_S 1 hw g_Ref_isModel rfl rfl rfl (hw _ m_109) (hw _ m_1066) (hw _ m_1067) (by decide +kernel) ⟨by show _ ≤ (2 : Nat); (try dsimp only); omega, by show _ ≤ (100 : Nat); (try dsimp only); omega⟩) ⟨fun a U g mk q => by obtain ⟨q0, q1, qP, qK, qD, qN⟩ := q; exact ⟨q0, q1, qP, va_K.moved (u := U) (U := U.calling g mk a) (Vm.Alike.refl U.vm) qK, qD, nw_call qN⟩, fun U hU hW => ⟨rfl, by rw [hU], by rw [hU]; exact hP0, va_K.moved hW.alike hK0, vD0, nw_warm hW hn⟩⟩ rfl rfl hl.1 rfl (lv_room (Nat.le_of_ble_eq_true rfl)) d_Ref_beyond_8 ⟨by show _ ≤ (0 : Nat); (try dsimp only); omega, by show _ ≤ (0 : Nat); (try dsimp only); omega⟩) hS (fun q _ h => hFc q h) hFc ?_
    intro r_3 u t9 H1 locs1 ht9 hvm hw1 hB hz1 hk1 hS1
    have hPn : va_P (dC, dI) classes (rw9 ra rA rK9 S) H1 := hP.kept (fun k q hk => hk1 q.1 (hP k q hk).lt (fun z => z.elim (fun ⟨k2, e, w⟩ => absurd w (by simp)) (fun w => absurd (hP k q hk).lt (Nat.not_lt.mpr w))))
    clear hB hz1 hk1 hFc hvm ht9 hP hS t9 hP0 hK0 locs H
    have hP := hPn
    clear hPn
    revert H1 locs1
    intro H locs hS hP
    refine tp_i (y := 0) (by rw [hw1, if_neg (fun cB => hb9 ⟨cA, cB⟩)]) ?_
    refine tp_pc (pc' := 11) (by rfl) ?_
    refine lv_if_ne (tgt := 16) hx hb d_Ref_beyond_11 (by decide) (fun c_4 => absurd c_4 (by decide)) (fun c_4 => ?_)
    refine tp_pc (pc' := 14) (by rfl) ?_
    refine lv_iconst (v := (-1)) hx hb d_Ref_beyond_14 (by decide) ?_
    refine W.widen (k := 0) (n := 0) (by omega) (by omega) ?_
    exact W.iret (v := (-1)) hx hb hr (fun t9 ht9 hW => ⟨⟨(-1), S, rfl, ⟨rfl, rfl⟩, by rw [ht9]; exact hP, hD⟩, hS.F ht9⟩) hS.2.2 d_Ref_beyond_15
  · skip
    have hP0 : va_P (dC, dI) classes [] s.heap := fun k q h => absurd h (by simp)
    have hK0 := hK.sub (tys' := []) [] rfl
    have hFc : ∀ q, va_A ([] : va_W) s.heap.size q → va_A (rw9 ra rA rK9 S) s.heap.size q := fun q h => h.elim (fun ⟨k, e, w⟩ => absurd w (by simp)) (fun w => hA q (Nat.le_trans hS.1 w))
    refine va_calli (va_runS (As := [.int mx]) (rest := []) ⟨hx, hb, hml, hown, hw⟩ (gen_Ref_isModel l dC dI mx s.heap.size) (cw_S 1 hw g_Ref_isModel rfl rfl rfl (hw _ m_109) (hw _ m_1066) (hw _ m_1067) (by decide +kernel) ⟨by show _ ≤ (2 : Nat); (try dsimp only); omega, by show _ ≤ (100 : Nat); (try dsimp only); omega⟩) ⟨fun a U g mk q => by obtain ⟨q0, q1, qP, qK, qD, qN⟩ := q; exact ⟨q0, q1, qP, va_K.moved (u := U) (U := U.calling g mk a) (Vm.Alike.refl U.vm) qK, qD, nw_call qN⟩, fun U hU hW => ⟨rfl, by rw [hU], by rw [hU]; exact hP0, va_K.moved hW.alike hK0, vD0, nw_warm hW hn⟩⟩ rfl rfl hl.1 rfl (lv_room (Nat.le_of_ble_eq_true rfl)) d_Ref_beyond_1 ⟨by show _ ≤ (0 : Nat); (try dsimp only); omega, by show _ ≤ (0 : Nat); (try dsimp only); omega⟩) hS (fun q _ h => hFc q h) hFc ?_
    intro r_5 u t9 H1 locs1 ht9 hvm hw1 hB hz1 hk1 hS1
    have hPn : va_P (dC, dI) classes (rw9 ra rA rK9 S) H1 := hP.kept (fun k q hk => hk1 q.1 (hP k q hk).lt (fun z => z.elim (fun ⟨k2, e, w⟩ => absurd w (by simp)) (fun w => absurd (hP k q hk).lt (Nat.not_lt.mpr w))))
    clear hB hz1 hk1 hFc hvm ht9 hP hS t9 hP0 hK0
    have hP := hPn
    clear hPn
    revert H1 locs1
    intro H locs hS hP
    refine tp_i (y := 0) (by rw [hw1, if_neg cA]) ?_
    refine tp_pc (pc' := 4) (by rfl) ?_
    refine lv_if_eq (tgt := 14) hx hb d_Ref_beyond_4 (by decide) (fun c_6 => ?_) (fun c_6 => absurd c_6 (by decide))
    refine tp_pc (pc' := 14) (by rfl) ?_
    refine lv_iconst (v := (-1)) hx hb d_Ref_beyond_14 (by decide) ?_
    refine W.widen (k := 0) (n := 0) (by omega) (by omega) ?_
    exact W.iret (v := (-1)) hx hb hr (fun t9 ht9 hW => ⟨⟨(-1), S, rfl, ⟨rfl, rfl⟩, by rw [ht9]; exact hP, hD⟩, hS.F ht9⟩) hS.2.2 d_Ref_beyond_15
