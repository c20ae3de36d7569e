set_option maxHeartbeats 4000000 in
set_option maxRecDepth 100000 in
theorem cRac9 (l : Launch) (dC : Nat → ClassId) (dI : Nat → Nat → Nat) (S : CX9) (ld : Nat) (zs kd vx rr li : Nat → Nat) (vv : Nat → Int32) (hO : OkC9 ld zs kd vx rr li vv S) (sz : Nat) : Met l y_OM_races w_OM_races ({ frames := 84, cells := mcR9 S 0, slots := msR9 S 0, locals := 4200 }) (va_Pc [.ref (x_oa S)] (SW9 dC dI S sz)) (va_Qi (fun (r : Int32) (S2 : CX9) => sRn9 S 0 S2 ∧ r = nI (rcS (x_rc S2) (x_Ac S2) / 2)) (fun S2 t9 => PW9 l dC dI S sz S2 t9) (va_A (cw9 S) sz)) (mcR9 S 0) (msR9 S 0) (va_A (cw9 S) sz) := by
  refine Met.ofW (cc := b_OM_races) (maxL := 3) (ret := (some .int)) (by decide) rfl ?_
  intro p e0 s m9 args below meth c s₁ B hml hv
  obtain ⟨rfl, hsz, hP, hK, hD0, hn⟩ := hv
  have hx := B.exec
  have hb := B.bytes
  have hr := B.returns
  have hw := fun w (h : w ∈ wt) => atoms_spec (ws := w_OM_races) B.pre w (List.mem_cons_of_mem _ h)
  have hown : s.vm.findClass R_OM = some m9.cls := findClass_of_methodNamed B.named
  have hlocks := B.notSynchronized
  subst hsz
  have hD := hD0.self (sz := s.heap.size)
  have hA : ∀ q : Nat, s.heap.size ≤ q → va_A (cw9 S) s.heap.size q := fun q h => Or.inr h
  clear hD0
  have hS : va_S (va_A (cw9 S) s.heap.size) s.heap s.heap [] := va_S.rf
  have hl := lv_entry ([.ref (x_oa S)]) (n := 3) (Nat.le_of_ble_eq_true rfl)
  rw [lg_entry_eq]
  generalize (lg_sl ([.ref (x_oa S)]) ++ List.replicate (3 - (lg_sl ([.ref (x_oa S)])).length) Slot.unset).toArray = ls at hl ⊢
  replace hl : lv_has ls 3 [(0, .ref (x_oa S))] := hl
  refine lv_aload_n hx hb d_OM_races_0 rfl (lv_at hl 0 rfl) ?_
  refine lv_iconst (v := 0) hx hb d_OM_races_1 (by decide) ?_
  refine tp_i (y := nI 0) (rfl) ?_
  have hFc := oF9 hD hS hA
  refine va_callr (va_runV (As := [.int (nI 0)]) (rest := []) ⟨hx, hb, hml, hown, hw⟩ (FR9 l dC dI S 0 (by decide) (ok_B9 hO) s.heap.size) (cw_V 1 hw g_OM_foundByRuns rfl rfl rfl (hw _ m_101) (hw _ m_468) (hw _ m_470) (hw _ m_1) (by decide +kernel) ⟨by show _ ≤ (84 : Nat); (try dsimp only); omega, by show _ ≤ (4200 : Nat); (try dsimp only); omega⟩) ⟨fun a U g mk q => by obtain ⟨q0, q1, qP, qK, qD, qN⟩ := q; exact ⟨q0, q1, qP, va_K.moved (u := U) (U := U.calling g mk a) (Vm.Alike.refl U.vm) qK, qD, nw_call qN⟩, va_recv hK hP (ci := 7) (q0 := 0) rfl rfl, fun U hU hW => ⟨rfl, by rw [hU], by rw [hU]; exact hP, va_K.moved hW.alike hK, hD.weaken (fun _ _ _ _ => trivial), nw_warm hW hn⟩⟩ rfl rfl hl.1 rfl (lv_room (Nat.le_of_ble_eq_true rfl)) d_OM_races_2 ⟨by show _ ≤ (mcR9 S 0 : Nat); (try dsimp only); omega, by show _ ≤ (msR9 S 0 : Nat); (try dsimp only); omega⟩) hS (fun q _ h => hFc q h) hFc ?_
  intro u r_1 t9 H1 locs1 ht9 hvm hw1 hB hz1 hk1 hS1
  obtain ⟨S2, hra, hst, hB⟩ := hB
  obtain ⟨hPn, hKn, hDn⟩ := oN9 hK hFc hB ht9 hvm
  clear hB hz1 hk1 hFc hvm ht9 hP hS hK hD t9
  have hP := hPn
  have hK := hKn
  have hD := hDn
  clear hPn hKn hDn
  revert H1 locs1
  intro H locs hS hP
  refine tp_r (y := (x_fA S2 0)) (by rw [(stR_f hst).1]; exact hra) ?_
  obtain ⟨hO2, hr2, -, -, -, -, -, -⟩ := sRn_ok hO (by decide) hst
  have hrc := hO2.2.2.2.1
  have hA7 := hO2.1.1.2.1
  have ho9 := (stR_f hst).2
  rw [← ho9] at hl
  replace hl : lv_has ls 3 [(0, .ref (x_oa S2))] := hl
  refine tp_pc (pc' := 5) (by rfl) ?_
  refine lv_pop hx hb d_OM_races_5 rfl ?_
  refine lv_iconst (v := 0) hx hb d_OM_races_6 (by decide) ?_
  refine lv_istore_n (lv' := [(1, .int 0), (0, .ref (x_oa S2))]) hx hb d_OM_races_7 rfl hl (by decide) rfl ?_
  clear hl ls
  intro ls hl
  refine lv_iconst (v := 0) hx hb d_OM_races_8 (by decide) ?_
  refine lv_istore_n (lv' := [(2, .int 0), (1, .int 0), (0, .ref (x_oa S2))]) hx hb d_OM_races_9 rfl hl (by decide) rfl ?_
  clear hl ls
  intro ls hl
  replace hl : lv_has ls 3 [(2, .int (nI 0)), (1, .int (nI (rcS (x_rc S2) 0))), (0, .ref (x_oa S2))] := hl
  refine lp_n (x_Ac S2) (fun i1 H locs ls => va_P (dC, dI) classes (cw9 S2) H ∧ va_S (va_A (cw9 S) s.heap.size) s.heap H locs ∧ lv_has ls 3 [(2, .int (nI i1)), (1, .int (nI (rcS (x_rc S2) i1))), (0, .ref (x_oa S2))]) ⟨hP, hS, hl⟩ ?_ ?_
  · intro i1 H locs ls hi1 hI ih_i1
    obtain ⟨hP, hS, hl⟩ := hI
    have hb8 := hrc i1
    refine lv_iload_n hx hb d_OM_races_10 rfl (lv_at hl 0 rfl) ?_
    refine lv_aload_n hx hb d_OM_races_11 rfl (lv_at hl 2 rfl) ?_
    refine va_get (D := (dC, dI)) (ci := 7) (v := .ref (x_pa S2)) (C := R_OM) (T := F_OM) (N := 6) hx hb hw i_OM hown hK hP 0 rfl rfl 0 (by decide) (hw _ m_408) (fun _ h9 => h9) rfl d_OM_races_12 ?_
    refine va_get (D := (dC, dI)) (ci := 0) (v := .int (nI (x_Ac S2))) (C := R_Program) (T := F_Program) (N := 13) hx hb hw i_Program hown hK hP 29 rfl rfl 12 (by decide) (hw _ m_167) (fun _ h9 => h9) rfl d_OM_races_15 ?_
    refine lv_icmp_ge (tgt := 42) hx hb d_OM_races_18 (by decide) (fun c9 => absurd c9 (nI_ge hi1 (by omega))) (fun c9 => ?_)
    refine tp_pc (pc' := 21) (by rfl) ?_
    refine lv_iload_n hx hb d_OM_races_21 rfl (lv_at hl 1 rfl) ?_
    refine lv_aload_n hx hb d_OM_races_22 rfl (lv_at hl 2 rfl) ?_
    refine va_get (D := (dC, dI)) (ci := 7) (v := .ref (x_ba S2)) (C := R_OM) (T := F_OM) (N := 6) hx hb hw i_OM hown hK hP 0 rfl rfl 1 (by decide) (hw _ m_409) (fun _ h9 => h9) rfl d_OM_races_23 ?_
    refine va_get (D := (dC, dI)) (ci := 4) (v := .ref (x_b2 S2)) (C := R_BufferWalk) (T := F_BufferWalk) (N := 9) hx hb hw i_BufferWalk hown hK hP 3 rfl rfl 4 (by decide) (hw _ m_255) (fun _ h9 => h9) rfl d_OM_races_26 ?_
    refine lv_iload_n hx hb d_OM_races_29 rfl (lv_at hl 0 rfl) ?_
    refine va_iald (D := (dC, dI)) hx hb hK hP 5 3 rfl rfl (i := nI i1) (pk_in i1 7 (by omega)) d_OM_races_30 ?_
    refine tp_i (y := nI ((x_rc S2) i1)) (by rw [show (nI i1 : Int32).toNatClampNeg = i1 from pk_cl i1]) ?_
    have hP0 : va_P (dC, dI) classes [] H := fun k q h => absurd h (by simp)
    have hK0 := hK.sub (tys' := []) [] rfl
    have hFc : ∀ q, va_A ([] : va_W) H.size q → va_A (cw9 S) s.heap.size q := fun q h => h.elim (fun ⟨k, e, w⟩ => absurd w (by simp)) (fun w => hA q (Nat.le_trans hS.1 w))
    refine va_calli (va_runS (As := [.int (nI ((x_rc S2) i1))]) (rest := [.int (nI (rcS (x_rc S2) i1))]) ⟨hx, hb, hml, hown, hw⟩ (gen_bitCount l dC dI (x_rc S2 i1) hb8 H.size) (cw_S 1 hw g_Integer_bitCount rfl rfl rfl (hw _ m_113) (hw _ m_881) (hw _ m_708) (by decide +kernel) ⟨by show _ ≤ (84 : Nat); (try dsimp only); omega, by show _ ≤ (4200 : Nat); (try dsimp only); omega⟩) ⟨fun a U g mk q => by obtain ⟨q0, q1, qP, qK, qD, qN⟩ := q; exact ⟨q0, q1, qP, va_K.moved (u := U) (U := U.calling g mk a) (Vm.Alike.refl U.vm) qK, qD, nw_call qN⟩, fun U hU hW => ⟨rfl, by rw [hU], by rw [hU]; exact hP0, va_K.moved hW.alike hK0, vD0, nw_warm hW hn⟩⟩ rfl rfl hl.1 rfl (lv_room (Nat.le_of_ble_eq_true rfl)) d_OM_races_31 ⟨by show _ ≤ (mcR9 S 0 : Nat); (try dsimp only); omega, by show _ ≤ (msR9 S 0 : Nat); (try dsimp only); omega⟩) hS (fun q _ h => hFc q h) hFc ?_
    intro r_2 u t9 H1 locs1 ht9 hvm hw1 hB hz1 hk1 hS1
    have hPn : va_P (dC, dI) classes (cw9 S2) H1 := hP.kept (fun k q hk => hk1 q.1 (hP k q hk).lt (fun z => z.elim (fun ⟨k2, e, w⟩ => absurd w (by simp)) (fun w => absurd (hP k q hk).lt (Nat.not_lt.mpr w))))
    clear hB hz1 hk1 hFc hvm ht9 hP hS t9 hP0 hK0 locs H
    have hP := hPn
    clear hPn
    revert H1 locs1
    intro H locs hS hP
    refine tp_i (y := nI (pop7 (x_rc S2 i1))) (hw1) ?_
    refine tp_pc (pc' := 34) (by rfl) ?_
    refine lv_iadd hx hb d_OM_races_34 ?_
    refine tp_i (y := nI (rcS (x_rc S2) i1 + (pop7 (x_rc S2 i1)))) (by exact nI_add (rcS (x_rc S2) i1) (pop7 (x_rc S2 i1))) ?_
    refine tp_i (y := nI (rcS (x_rc S2) (i1 + 1))) rfl ?_
    refine lv_istore_n (lv' := [(1, .int (nI (rcS (x_rc S2) (i1 + 1)))), (2, .int (nI i1)), (0, .ref (x_oa S2))]) hx hb d_OM_races_35 rfl hl (by decide) rfl ?_
    clear hl ls
    intro ls hl
    refine lv_iinc (v := nI (i1 + 1)) (lv' := [(2, .int (nI (i1 + 1))), (1, .int (nI (rcS (x_rc S2) (i1 + 1)))), (0, .ref (x_oa S2))]) hx hb d_OM_races_36 hl (k := 1) rfl (by exact nI_1 i1) (by decide) rfl ?_
    clear hl ls
    intro ls hl
    refine lv_goto (tgt := 10) hx hb d_OM_races_39 (by decide) ?_
    refine tp_pc (pc' := 10) (by rfl) ?_
    exact ih_i1 _ _ _ ⟨hP, hS, lv_sub hl [0, 1, 2] rfl⟩
  · intro H locs ls hI
    obtain ⟨hP, hS, hl⟩ := hI
    have hrl := rcS_le hrc (x_Ac S2)
    refine lv_iload_n hx hb d_OM_races_10 rfl (lv_at hl 0 rfl) ?_
    refine lv_aload_n hx hb d_OM_races_11 rfl (lv_at hl 2 rfl) ?_
    refine va_get (D := (dC, dI)) (ci := 7) (v := .ref (x_pa S2)) (C := R_OM) (T := F_OM) (N := 6) hx hb hw i_OM hown hK hP 0 rfl rfl 0 (by decide) (hw _ m_408) (fun _ h9 => h9) rfl d_OM_races_12 ?_
    refine va_get (D := (dC, dI)) (ci := 0) (v := .int (nI (x_Ac S2))) (C := R_Program) (T := F_Program) (N := 13) hx hb hw i_Program hown hK hP 29 rfl rfl 12 (by decide) (hw _ m_167) (fun _ h9 => h9) rfl d_OM_races_15 ?_
    refine lv_icmp_ge (tgt := 42) hx hb d_OM_races_18 (by decide) (fun c9 => ?_) (fun c9 => absurd (nI_le (Nat.le_refl _) (by omega)) c9)
    refine tp_pc (pc' := 42) (by rfl) ?_
    refine lv_iload_n hx hb d_OM_races_42 rfl (lv_at hl 1 rfl) ?_
    refine lv_iconst (v := 1) hx hb d_OM_races_43 (by decide) ?_
    refine lv_ishr hx hb d_OM_races_44 ?_
    refine tp_i (y := (nI (rcS (x_rc S2) (x_Ac S2))) >>> (1 &&& 31)) rfl ?_
    refine tp_i (y := nI (rcS (x_rc S2) (x_Ac S2) / 2)) (pk_shrN (by omega) _ 1 (by decide)) ?_
    refine W.widen (k := mcR9 S 0) (n := msR9 S 0) (by omega) (by omega) ?_
    exact W.iret (v := (nI (rcS (x_rc S2) (x_Ac S2) / 2))) hx hb hr (fun t9 ht9 hW => ⟨⟨nI (rcS (x_rc S2) (x_Ac S2) / 2), S2, rfl, ⟨hst, rfl⟩, by rw [ht9]; exact hP, ⟨ct9 S2, va_K.moved hW.alike hK, fun q h => Or.inr h⟩, hD⟩, hS.F ht9⟩) hS.2.2 d_OM_races_45
