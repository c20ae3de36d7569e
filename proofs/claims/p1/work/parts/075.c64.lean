set_option maxHeartbeats 4000000 in
set_option maxRecDepth 100000 in
theorem c_Ref_outcome (l : Launch) (dC : Nat → ClassId) (dI : Nat → Nat → Nat) (h0 : Nat) (p0 : Int32) (p1 : Int32) (p2 : Int32) (p4 : Int32) (h1 : Nat) (h2 : Nat) (h3 : Nat) (h4 : Nat) (h5 : Nat) (h6 : Nat) (h7 : Nat) (h8 : Nat) (h9 : Nat) (h10 : Nat) (h11 : Nat) (h12 : Nat) (p5 : Int32) (h13 : Nat) (h14 : Nat) (h15 : Nat) (h16 : Nat) (p6 : Int32) (p7 : Int32) (h17 : Nat) (h18 : Nat) (h19 : Nat) (p8 : Int32) (h20 : Nat) (p9 : Int32) (p10 : Int32) (h21 : Nat) (h22 : Nat) (h23 : Nat) (h24 : Nat) (h25 : Nat) (h26 : Nat) (h27 : Nat) (h28 : Nat) (p11 : Int32) (p12 : Int32) (h29 : Nat) (h30 : Nat) (h31 : Nat) (h32 : Nat) (h33 : Nat) (h34 : Nat) (h35 : Nat) (h36 : Nat) (p13 : Int32) (h37 : Nat) (k5 : ClassId) (k6 : ClassId) (k7 : ClassId) (k9 : ClassId) (f9 : Nat → Int32) (k10 : ClassId) (k13 : ClassId) (f13 : Nat → Int32) (k14 : ClassId) (f14 : Nat → Int32) (k16 : ClassId) (f16 : Nat → Int64) (k17 : ClassId) (f17 : Nat → Int32) (k18 : ClassId) (f18 : Nat → Int32) (k19 : ClassId) (f19 : Nat → Int64) (k20 : ClassId) (sz : Nat) : Met l y_Ref_outcome w_Ref_outcome ({ frames := 7, cells := 0, slots := 0, locals := 169 }) (va_Pc [.ref h0, .int p0, .int p1, .int p2] (fun U => U.heap.size = sz ∧ va_P (dC, dI) classes [oc h0 8 [.int 0, .int p4, .ref h1, .ref h2, .ref h3, .ref h4, .ref h5, .ref h6, .ref h7, .ref h8, .ref h9, .ref h10, .ref h11, .ref h12, .int p5, .ref h13, .ref h14, .ref h15, .ref h16, .int p6, .int p7, .ref h17, .ref h18, .ref h19, .int p8, .ref h20, .int p9, .int p10, .ref h21, .ref h22, .ref h23, .ref h24, .ref h25, .ref h26, .ref h27, .ref h28, .int p11, .int p12, .ref h29, .ref h30, .ref h31, .ref h32, .ref h33, .ref h34, .ref h35, .ref h36, .int p13, .ref h37], ia h6 k5 8 (fun _ => 0), ia h7 k6 8 (fun _ => 0), ia h8 k7 352000 (fun _ => 0), ia h10 k9 16000 f9, ia h11 k10 32000 (fun _ => 0), ia h14 k13 155 f13, ia h15 k14 2635 f14, la h17 k16 1200000 f16, ia h18 k17 240000 f17, ia h19 k18 65536 f18, la h20 k19 5 f19, ia h21 k20 11 (fun _ => 0)] U.heap ∧ va_K (dC, dI) classes [(k5, .boolean), (k6, .int), (k7, .short), (k9, .int), (k10, .int), (k13, .int), (k14, .int), (k16, .long), (k17, .int), (k18, .int), (k19, .long), (k20, .int)] U ∧ va_D (fun _ => True) [oc h0 8 [.int 0, .int p4, .ref h1, .ref h2, .ref h3, .ref h4, .ref h5, .ref h6, .ref h7, .ref h8, .ref h9, .ref h10, .ref h11, .ref h12, .int p5, .ref h13, .ref h14, .ref h15, .ref h16, .int p6, .int p7, .ref h17, .ref h18, .ref h19, .int p8, .ref h20, .int p9, .int p10, .ref h21, .ref h22, .ref h23, .ref h24, .ref h25, .ref h26, .ref h27, .ref h28, .int p11, .int p12, .ref h29, .ref h30, .ref h31, .ref h32, .ref h33, .ref h34, .ref h35, .ref h36, .int p13, .ref h37], ia h6 k5 8 (fun _ => 0), ia h7 k6 8 (fun _ => 0), ia h8 k7 352000 (fun _ => 0), ia h10 k9 16000 f9, ia h11 k10 32000 (fun _ => 0), ia h14 k13 155 f13, ia h15 k14 2635 f14, la h17 k16 1200000 f16, ia h18 k17 240000 f17, ia h19 k18 65536 f18, la h20 k19 5 f19, ia h21 k20 11 (fun _ => 0)] ∧ nw U)) (va_Qi (fun (r : Int32) (_ : Unit) => r = (fo p0 p1 p2)) (fun _ t => va_P (dC, dI) classes [] t.heap ∧ va_K (dC, dI) classes [] t ∧ va_D (va_A [oc h0 8 [.int 0, .int p4, .ref h1, .ref h2, .ref h3, .ref h4, .ref h5, .ref h6, .ref h7, .ref h8, .ref h9, .ref h10, .ref h11, .ref h12, .int p5, .ref h13, .ref h14, .ref h15, .ref h16, .int p6, .int p7, .ref h17, .ref h18, .ref h19, .int p8, .ref h20, .int p9, .int p10, .ref h21, .ref h22, .ref h23, .ref h24, .ref h25, .ref h26, .ref h27, .ref h28, .int p11, .int p12, .ref h29, .ref h30, .ref h31, .ref h32, .ref h33, .ref h34, .ref h35, .ref h36, .int p13, .ref h37], ia h6 k5 8 (fun _ => 0), ia h7 k6 8 (fun _ => 0), ia h8 k7 352000 (fun _ => 0), ia h10 k9 16000 f9, ia h11 k10 32000 (fun _ => 0), ia h14 k13 155 f13, ia h15 k14 2635 f14, la h17 k16 1200000 f16, ia h18 k17 240000 f17, ia h19 k18 65536 f18, la h20 k19 5 f19, ia h21 k20 11 (fun _ => 0)] sz) []) (va_A [oc h0 8 [.int 0, .int p4, .ref h1, .ref h2, .ref h3, .ref h4, .ref h5, .ref h6, .ref h7, .ref h8, .ref h9, .ref h10, .ref h11, .ref h12, .int p5, .ref h13, .ref h14, .ref h15, .ref h16, .int p6, .int p7, .ref h17, .ref h18, .ref h19, .int p8, .ref h20, .int p9, .int p10, .ref h21, .ref h22, .ref h23, .ref h24, .ref h25, .ref h26, .ref h27, .ref h28, .int p11, .int p12, .ref h29, .ref h30, .ref h31, .ref h32, .ref h33, .ref h34, .ref h35, .ref h36, .int p13, .ref h37], ia h6 k5 8 (fun _ => 0), ia h7 k6 8 (fun _ => 0), ia h8 k7 352000 (fun _ => 0), ia h10 k9 16000 f9, ia h11 k10 32000 (fun _ => 0), ia h14 k13 155 f13, ia h15 k14 2635 f14, la h17 k16 1200000 f16, ia h18 k17 240000 f17, ia h19 k18 65536 f18, la h20 k19 5 f19, ia h21 k20 11 (fun _ => 0)] sz)) 0 0 (va_A [oc h0 8 [.int 0, .int p4, .ref h1, .ref h2, .ref h3, .ref h4, .ref h5, .ref h6, .ref h7, .ref h8, .ref h9, .ref h10, .ref h11, .ref h12, .int p5, .ref h13, .ref h14, .ref h15, .ref h16, .int p6, .int p7, .ref h17, .ref h18, .ref h19, .int p8, .ref h20, .int p9, .int p10, .ref h21, .ref h22, .ref h23, .ref h24, .ref h25, .ref h26, .ref h27, .ref h28, .int p11, .int p12, .ref h29, .ref h30, .ref h31, .ref h32, .ref h33, .ref h34, .ref h35, .ref h36, .int p13, .ref h37], ia h6 k5 8 (fun _ => 0), ia h7 k6 8 (fun _ => 0), ia h8 k7 352000 (fun _ => 0), ia h10 k9 16000 f9, ia h11 k10 32000 (fun _ => 0), ia h14 k13 155 f13, ia h15 k14 2635 f14, la h17 k16 1200000 f16, ia h18 k17 240000 f17, ia h19 k18 65536 f18, la h20 k19 5 f19, ia h21 k20 11 (fun _ => 0)] sz) := by
  refine Met.ofW (cc := b_Ref_outcome) (maxL := 4) (ret := (some .int)) (by decide) rfl ?_
  intro p e s m args below meth c s₁ B hml hv
  obtain ⟨rfl, hsz, hP, hK, hD0, hn⟩ := hv
  have hx := B.exec
  have hb := B.bytes
  have hr := B.returns
  have hw := fun w (h : w ∈ wt) => atoms_spec (ws := w_Ref_outcome) B.pre w (List.mem_cons_of_mem _ h)
  have hown : s.vm.findClass R_Ref = some m.cls := findClass_of_methodNamed B.named
  have hlocks := B.notSynchronized
  subst hsz
  have hD1 := hD0.self (sz := s.heap.size)
  generalize hAe : va_A [oc h0 8 [.int 0, .int p4, .ref h1, .ref h2, .ref h3, .ref h4, .ref h5, .ref h6, .ref h7, .ref h8, .ref h9, .ref h10, .ref h11, .ref h12, .int p5, .ref h13, .ref h14, .ref h15, .ref h16, .int p6, .int p7, .ref h17, .ref h18, .ref h19, .int p8, .ref h20, .int p9, .int p10, .ref h21, .ref h22, .ref h23, .ref h24, .ref h25, .ref h26, .ref h27, .ref h28, .int p11, .int p12, .ref h29, .ref h30, .ref h31, .ref h32, .ref h33, .ref h34, .ref h35, .ref h36, .int p13, .ref h37], ia h6 k5 8 (fun _ => 0), ia h7 k6 8 (fun _ => 0), ia h8 k7 352000 (fun _ => 0), ia h10 k9 16000 f9, ia h11 k10 32000 (fun _ => 0), ia h14 k13 155 f13, ia h15 k14 2635 f14, la h17 k16 1200000 f16, ia h18 k17 240000 f17, ia h19 k18 65536 f18, la h20 k19 5 f19, ia h21 k20 11 (fun _ => 0)] s.heap.size = A at hD1 ⊢
  have hA : ∀ q : Nat, s.heap.size ≤ q → A q := fun q h => by rw [← hAe]; exact Or.inr h
  have hD : dd A [h0, h6, h7, h8, h10, h11, h14, h15, h17, h18, h19, h20, h21] := dd_of hD1 rfl
  clear hAe hD0 hD1
  have hS : va_S A s.heap s.heap [] := va_S.rf
  replace hP : va_P (dC, dI) classes [oc h0 8 [.int 0, .int p4, .ref h1, .ref h2, .ref h3, .ref h4, .ref h5, .ref h6, .ref h7, .ref h8, .ref h9, .ref h10, .ref h11, .ref h12, .int p5, .ref h13, .ref h14, .ref h15, .ref h16, .int p6, .int p7, .ref h17, .ref h18, .ref h19, .int p8, .ref h20, .int p9, .int p10, .ref h21, .ref h22, .ref h23, .ref h24, .ref h25, .ref h26, .ref h27, .ref h28, .int p11, .int p12, .ref h29, .ref h30, .ref h31, .ref h32, .ref h33, .ref h34, .ref h35, .ref h36, .int p13, .ref h37], ia h6 k5 8 (fun _ => 0), ia h7 k6 8 (fun _ => 0), ia h8 k7 352000 (fun _ => 0), ia h10 k9 16000 f9, ia h11 k10 32000 (fun _ => 0), ia h14 k13 155 f13, ia h15 k14 2635 f14, la h17 k16 1200000 f16, ia h18 k17 240000 f17, ia h19 k18 65536 f18, la h20 k19 5 f19, ia h21 k20 11 (fun _ => 0)] s.heap := hP
  have hl := lv_entry ([.ref h0, .int p0, .int p1, .int p2]) (n := 4) (Nat.le_of_ble_eq_true rfl)
  rw [lg_entry_eq]
  generalize (lg_sl ([.ref h0, .int p0, .int p1, .int p2]) ++ List.replicate (4 - (lg_sl ([.ref h0, .int p0, .int p1, .int p2])).length) Slot.unset).toArray = ls at hl ⊢
  replace hl : lv_has ls 4 [(0, .ref h0), (1, .int p0), (2, .int p1), (3, .int p2)] := hl
  rcases sw_0_3 p0 with rfl | rfl | rfl | rfl | hs_1
  · skip
    refine lv_iload_n hx hb d_Ref_outcome_0 rfl (lv_at hl 1 rfl) ?_
    obtain ⟨hPc, hDc, hFc⟩ := cut3 (wc := []) hP hD rfl hS hA [] (by decide +kernel) rfl
    have hKc := hK.sub (tys' := []) [] rfl
    refine va_calli (va_runS (As := [.int 0]) (rest := []) ⟨hx, hb, hml, hown, hw⟩ (c_Ref_isModel l dC dI  s.heap.size) (cw_S 1 hw g_Ref_isModel rfl rfl rfl (hw _ m_109) (hw _ m_1066) (hw _ m_1067) (by decide +kernel) ⟨Nat.le_of_ble_eq_true rfl, Nat.le_of_ble_eq_true rfl⟩) ⟨fun a U g mk q => by obtain ⟨q0, q1, qP, qK, qD, qN⟩ := q; exact ⟨q0, q1, qP, va_K.moved (u := U) (U := U.calling g mk a) (Vm.Alike.refl U.vm) qK, qD, nw_call qN⟩, fun U hU hW => ⟨rfl, by rw [hU], by rw [hU]; exact hPc, va_K.moved hW.alike hKc, hDc.weaken (fun _ _ _ _ => trivial), nw_warm hW hn⟩⟩ rfl rfl hl.1 rfl (lv_room (Nat.le_of_ble_eq_true rfl)) d_Ref_outcome_1 ⟨Nat.le_of_ble_eq_true rfl, Nat.le_of_ble_eq_true rfl⟩) hS (fun q _ h => hFc q h) hFc ?_
    intro r_2 u t H1 locs1 ht hvm hw1 hB hz1 hk1 hS1
    obtain ⟨hP1, hK1, hD1⟩ := hB
    rw [ht] at hP1
    replace hK1 := va_K.moved hvm.symm hK1
    have hPD := join3 hP hD rfl [] [0, 1, 2, 3, 4, 5, 6, 7, 8, 9, 10, 11, 12] rfl (by rfl) (by decide +kernel) (by decide +kernel) hk1 hFc hP1 hD1
    replace hK : va_K (dC, dI) classes [(k5, .boolean), (k6, .int), (k7, .short), (k9, .int), (k10, .int), (k13, .int), (k14, .int), (k16, .long), (k17, .int), (k18, .int), (k19, .long), (k20, .int)] s := hK.app hK1
    clear hP1 hK1 hD1 hk1 hz1 hFc hKc hDc hPc hvm ht hP hS t
    have hP : va_P (dC, dI) classes [oc h0 8 [.int 0, .int p4, .ref h1, .ref h2, .ref h3, .ref h4, .ref h5, .ref h6, .ref h7, .ref h8, .ref h9, .ref h10, .ref h11, .ref h12, .int p5, .ref h13, .ref h14, .ref h15, .ref h16, .int p6, .int p7, .ref h17, .ref h18, .ref h19, .int p8, .ref h20, .int p9, .int p10, .ref h21, .ref h22, .ref h23, .ref h24, .ref h25, .ref h26, .ref h27, .ref h28, .int p11, .int p12, .ref h29, .ref h30, .ref h31, .ref h32, .ref h33, .ref h34, .ref h35, .ref h36, .int p13, .ref h37], ia h6 k5 8 (fun _ => 0), ia h7 k6 8 (fun _ => 0), ia h8 k7 352000 (fun _ => 0), ia h10 k9 16000 f9, ia h11 k10 32000 (fun _ => 0), ia h14 k13 155 f13, ia h15 k14 2635 f14, la h17 k16 1200000 f16, ia h18 k17 240000 f17, ia h19 k18 65536 f18, la h20 k19 5 f19, ia h21 k20 11 (fun _ => 0)] H1 := hPD.1
    replace hD : dd A [h0, h6, h7, h8, h10, h11, h14, h15, h17, h18, h19, h20, h21] := dd_of hPD.2 rfl
    clear hPD
    revert H1 locs1
    intro H locs hS hP
    refine tp_i (y := 1) hw1 ?_
    clear hw1 r_2 u
    refine tp_pc (pc' := 4) (by rfl) ?_
    refine lv_if_ne (tgt := 11) hx hb d_Ref_outcome_4 (by decide) (fun c_3 => ?_) (fun c_3 => absurd c_3 (by decide))
    refine tp_pc (pc' := 11) (by rfl) ?_
    refine lv_aload_n hx hb d_Ref_outcome_11 rfl (lv_at hl 0 rfl) ?_
    refine lv_iload_n hx hb d_Ref_outcome_12 rfl (lv_at hl 1 rfl) ?_
    obtain ⟨hPc, hDc, hFc⟩ := cut3 (wc := [oc h0 8 [.int 0, .int p4, .ref h1, .ref h2, .ref h3, .ref h4, .ref h5, .ref h6, .ref h7, .ref h8, .ref h9, .ref h10, .ref h11, .ref h12, .int p5, .ref h13, .ref h14, .ref h15, .ref h16, .int p6, .int p7, .ref h17, .ref h18, .ref h19, .int p8, .ref h20, .int p9, .int p10, .ref h21, .ref h22, .ref h23, .ref h24, .ref h25, .ref h26, .ref h27, .ref h28, .int p11, .int p12, .ref h29, .ref h30, .ref h31, .ref h32, .ref h33, .ref h34, .ref h35, .ref h36, .int p13, .ref h37], ia h6 k5 8 (fun _ => 0), ia h7 k6 8 (fun _ => 0), ia h8 k7 352000 (fun _ => 0), ia h10 k9 16000 f9, ia h11 k10 32000 (fun _ => 0), ia h14 k13 155 f13, ia h15 k14 2635 f14, la h17 k16 1200000 f16, ia h18 k17 240000 f17, ia h19 k18 65536 f18, la h20 k19 5 f19, ia h21 k20 11 (fun _ => 0)]) hP hD rfl hS hA [0, 1, 2, 3, 4, 5, 6, 7, 8, 9, 10, 11, 12] (by decide +kernel) rfl
    have hKc := hK.sub (tys' := [(k5, .boolean), (k6, .int), (k7, .short), (k9, .int), (k10, .int), (k13, .int), (k14, .int), (k16, .long), (k17, .int), (k18, .int), (k19, .long), (k20, .int)]) [0, 1, 2, 3, 4, 5, 6, 7, 8, 9, 10, 11] rfl
    refine va_callv (va_runV (As := [.int 0]) (rest := []) ⟨hx, hb, hml, hown, hw⟩ (c_Ref_find l dC dI h0 p4 h1 h2 h3 h4 h5 h6 h7 h8 h9 h10 h11 h12 p5 h13 h14 h15 h16 p6 p7 h17 h18 h19 p8 h20 p9 p10 h21 h22 h23 h24 h25 h26 h27 h28 p11 p12 h29 h30 h31 h32 h33 h34 h35 h36 p13 h37 k5 k6 k7 (fun _ => 0) k9 f9 k10 (fun _ => 0) k13 f13 k14 f14 k16 f16 k17 f17 k18 f18 k19 f19 k20 H.size) (cw_V 1 hw g_Ref_find rfl rfl rfl (hw _ m_109) (hw _ m_1069) (hw _ m_1071) (hw _ m_52) (by decide +kernel) ⟨Nat.le_of_ble_eq_true rfl, Nat.le_of_ble_eq_true rfl⟩) ⟨fun a U g mk q => by obtain ⟨q0, q1, qP, qK, qD, qN⟩ := q; exact ⟨q0, q1, qP, va_K.moved (u := U) (U := U.calling g mk a) (Vm.Alike.refl U.vm) qK, qD, nw_call qN⟩, va_recv hKc hPc (ci := 8) (q0 := 0) rfl rfl, fun U hU hW => ⟨rfl, by rw [hU], by rw [hU]; exact hPc, va_K.moved hW.alike hKc, hDc.weaken (fun _ _ _ _ => trivial), nw_warm hW hn⟩⟩ rfl rfl hl.1 rfl (lv_room (Nat.le_of_ble_eq_true rfl)) d_Ref_outcome_13 ⟨Nat.le_of_ble_eq_true rfl, Nat.le_of_ble_eq_true rfl⟩) hS (fun q _ h => hFc q h) hFc ?_
    intro u t H1 locs1 ht hvm hw1 hB hz1 hk1 hS1
    obtain ⟨g_4, hP1, hK1, hD1⟩ := hB
    rw [ht] at hP1
    replace hK1 := va_K.moved hvm.symm hK1
    have hPD := join3 hP hD rfl [0, 1, 2, 3, 4, 5, 6, 7, 8, 9, 10, 11, 12] [] rfl (by rfl) (by decide +kernel) (by decide +kernel) hk1 hFc hP1 hD1
    replace hK : va_K (dC, dI) classes [(k5, .boolean), (k6, .int), (k7, .short), (k9, .int), (k10, .int), (k13, .int), (k14, .int), (k16, .long), (k17, .int), (k18, .int), (k19, .long), (k20, .int)] s := hK.app hK1
    clear hP1 hK1 hD1 hk1 hz1 hFc hKc hDc hPc hvm ht hP hS t locs H
    have hP : va_P (dC, dI) classes [oc h0 8 [.int 0, .int p4, .ref h1, .ref h2, .ref h3, .ref h4, .ref h5, .ref h6, .ref h7, .ref h8, .ref h9, .ref h10, .ref h11, .ref h12, .int p5, .ref h13, .ref h14, .ref h15, .ref h16, .int 0, .int 37, .ref h17, .ref h18, .ref h19, .int 1, .ref h20, .int 89, .int 0, .ref h21, .ref h22, .ref h23, .ref h24, .ref h25, .ref h26, .ref h27, .ref h28, .int p11, .int p12, .ref h29, .ref h30, .ref h31, .ref h32, .ref h33, .ref h34, .ref h35, .ref h36, .int p13, .ref h37], ia h6 k5 8 (upd (fun _ => 0) 0 1), ia h7 k6 8 (upd (fun _ => 0) 0 1), ia h8 k7 352000 (upd (upd (upd (upd (upd (upd (upd (upd (upd (upd (upd (fun _ => 0) 0 0) 1 0) 2 0) 3 0) 4 0) 5 0) 6 0) 7 0) 8 0) 9 0) 10 0), ia h10 k9 16000 (upd f9 0 0), ia h11 k10 32000 (upd (fun _ => 0) 0 0), ia h14 k13 155 (fun _ => 0), ia h15 k14 2635 g_4, la h17 k16 1200000 (vp_updL (vp_updL (vp_updL (vp_updL (vp_updL f16 0 1161999626690363392) 1 16909320) 2 0) 3 0) 4 0), ia h18 k17 240000 (upd f17 0 (-1)), ia h19 k18 65536 (upd (fun _ => (-1)) 22162 0), la h20 k19 5 (vp_updL (vp_updL (vp_updL (vp_updL (vp_updL (vp_updL (vp_updL (vp_updL (vp_updL (vp_updL (vp_updL (vp_updL (vp_updL (vp_updL (vp_updL (vp_updL (vp_updL (vp_updL (vp_updL (vp_updL (vp_updL f19 0 0) 1 0) 2 0) 3 0) 4 0) 0 0) 0 0) 0 0) 0 0) 0 262144) 0 33816576) 0 4328783872) 0 554084597760) 0 70922828775424) 0 9078122083516416) 0 1161999626690363392) 0 1161999626690363392) 1 8) 1 1032) 1 132104) 1 16909320), ia h21 k20 11 (fun _ => 0)] H1 := hPD.1
    replace hD : dd A [h0, h6, h7, h8, h10, h11, h14, h15, h17, h18, h19, h20, h21] := dd_of hPD.2 rfl
    clear hPD
    revert H1 locs1
    intro H locs hS hP
    clear hw1 u
    refine tp_pc (pc' := 16) (by rfl) ?_
    refine lv_aload_n hx hb d_Ref_outcome_16 rfl (lv_at hl 0 rfl) ?_
    refine lv_iload_n hx hb d_Ref_outcome_17 rfl (lv_at hl 1 rfl) ?_
    refine lv_iload_n hx hb d_Ref_outcome_18 rfl (lv_at hl 2 rfl) ?_
    refine lv_iload_n hx hb d_Ref_outcome_19 rfl (lv_at hl 3 rfl) ?_
    obtain ⟨hPc, hDc, hFc⟩ := cut3 (wc := [oc h0 8 [.int 0, .int p4, .ref h1, .ref h2, .ref h3, .ref h4, .ref h5, .ref h6, .ref h7, .ref h8, .ref h9, .ref h10, .ref h11, .ref h12, .int p5, .ref h13, .ref h14, .ref h15, .ref h16, .int 0, .int 37, .ref h17, .ref h18, .ref h19, .int 1, .ref h20, .int 89, .int 0, .ref h21, .ref h22, .ref h23, .ref h24, .ref h25, .ref h26, .ref h27, .ref h28, .int p11, .int p12, .ref h29, .ref h30, .ref h31, .ref h32, .ref h33, .ref h34, .ref h35, .ref h36, .int p13, .ref h37], ia h7 k6 8 (upd (fun _ => 0) 0 1), ia h8 k7 352000 (upd (upd (upd (upd (upd (upd (upd (upd (upd (upd (upd (fun _ => 0) 0 0) 1 0) 2 0) 3 0) 4 0) 5 0) 6 0) 7 0) 8 0) 9 0) 10 0), ia h11 k10 32000 (upd (fun _ => 0) 0 0)]) hP hD rfl hS hA [0, 2, 3, 5] (by decide +kernel) rfl
    have hKc := hK.sub (tys' := [(k6, .int), (k7, .short), (k10, .int)]) [1, 2, 4] rfl
    refine va_calli (va_runV (As := [.int 0, .int p1, .int p2]) (rest := []) ⟨hx, hb, hml, hown, hw⟩ (c_Ref_told l dC dI h0 p1 p2 0 p4 h1 h2 h3 h4 h5 h6 h7 h8 h9 h10 h11 h12 p5 h13 h14 h15 h16 0 37 h17 h18 h19 1 h20 89 0 h21 h22 h23 h24 h25 h26 h27 h28 p11 p12 h29 h30 h31 h32 h33 h34 h35 h36 p13 h37 k6 k7 k10 H.size) (cw_V 3 hw g_Ref_told rfl rfl rfl (hw _ m_109) (hw _ m_1174) (hw _ m_1176) (hw _ m_77) (by decide +kernel) ⟨Nat.le_of_ble_eq_true rfl, Nat.le_of_ble_eq_true rfl⟩) ⟨fun a U g mk q => by obtain ⟨q0, q1, qP, qK, qD, qN⟩ := q; exact ⟨q0, q1, qP, va_K.moved (u := U) (U := U.calling g mk a) (Vm.Alike.refl U.vm) qK, qD, nw_call qN⟩, va_recv hKc hPc (ci := 8) (q0 := 0) rfl rfl, fun U hU hW => ⟨rfl, by rw [hU], by rw [hU]; exact hPc, va_K.moved hW.alike hKc, hDc.weaken (fun _ _ _ _ => trivial), nw_warm hW hn⟩⟩ rfl rfl hl.1 rfl (lv_room (Nat.le_of_ble_eq_true rfl)) d_Ref_outcome_20 ⟨Nat.le_of_ble_eq_true rfl, Nat.le_of_ble_eq_true rfl⟩) hS (fun q _ h => hFc q h) hFc ?_
    intro r_6 u t H1 locs1 ht hvm hw1 hB hz1 hk1 hS1
    obtain ⟨hP1, hK1, hD1⟩ := hB
    rw [ht] at hP1
    replace hK1 := va_K.moved hvm.symm hK1
    have hPD := join3 hP hD rfl [0, 2, 3, 5] [1, 4, 6, 7, 8, 9, 10, 11, 12] rfl (by rfl) (by decide +kernel) (by decide +kernel) hk1 hFc hP1 hD1
    replace hK : va_K (dC, dI) classes [(k5, .boolean), (k6, .int), (k7, .short), (k9, .int), (k10, .int), (k13, .int), (k14, .int), (k16, .long), (k17, .int), (k18, .int), (k19, .long), (k20, .int)] s := hK.app hK1
    clear hP1 hK1 hD1 hk1 hz1 hFc hKc hDc hPc hvm ht hP hS t locs H
    have hP : va_P (dC, dI) classes [ia h6 k5 8 (upd (fun _ => 0) 0 1), ia h10 k9 16000 (upd f9 0 0), ia h14 k13 155 (fun _ => 0), ia h15 k14 2635 g_4, la h17 k16 1200000 (vp_updL (vp_updL (vp_updL (vp_updL (vp_updL f16 0 1161999626690363392) 1 16909320) 2 0) 3 0) 4 0), ia h18 k17 240000 (upd f17 0 (-1)), ia h19 k18 65536 (upd (fun _ => (-1)) 22162 0), la h20 k19 5 (vp_updL (vp_updL (vp_updL (vp_updL (vp_updL (vp_updL (vp_updL (vp_updL (vp_updL (vp_updL (vp_updL (vp_updL (vp_updL (vp_updL (vp_updL (vp_updL (vp_updL (vp_updL (vp_updL (vp_updL (vp_updL f19 0 0) 1 0) 2 0) 3 0) 4 0) 0 0) 0 0) 0 0) 0 0) 0 262144) 0 33816576) 0 4328783872) 0 554084597760) 0 70922828775424) 0 9078122083516416) 0 1161999626690363392) 0 1161999626690363392) 1 8) 1 1032) 1 132104) 1 16909320), ia h21 k20 11 (fun _ => 0), oc h0 8 [.int 0, .int p4, .ref h1, .ref h2, .ref h3, .ref h4, .ref h5, .ref h6, .ref h7, .ref h8, .ref h9, .ref h10, .ref h11, .ref h12, .int p5, .ref h13, .ref h14, .ref h15, .ref h16, .int 0, .int 37, .ref h17, .ref h18, .ref h19, .int 1, .ref h20, .int 89, .int 0, .ref h21, .ref h22, .ref h23, .ref h24, .ref h25, .ref h26, .ref h27, .ref h28, .int p11, .int p12, .ref h29, .ref h30, .ref h31, .ref h32, .ref h33, .ref h34, .ref h35, .ref h36, .int p13, .ref h37], ia h7 k6 8 (upd (fun _ => 0) 0 1), ia h8 k7 352000 (upd (upd (upd (upd (upd (upd (upd (upd (upd (upd (upd (fun _ => 0) 0 0) 1 0) 2 0) 3 0) 4 0) 5 0) 6 0) 7 0) 8 0) 9 0) 10 0), ia h11 k10 32000 (upd (fun _ => 0) 0 0)] H1 := hPD.1
    replace hD : dd A [h6, h10, h14, h15, h17, h18, h19, h20, h21, h0, h7, h8, h11] := dd_of hPD.2 rfl
    clear hPD
    revert H1 locs1
    intro H locs hS hP
    refine tp_i (y := fv p1 p2) hw1 ?_
    clear hw1 r_6 u
    refine tp_pc (pc' := 23) (by rfl) ?_
    obtain ⟨hP9, hD9, -⟩ := cut3 (wc := []) hP hD rfl hS hA [] (by decide +kernel) rfl
    have hK9 := hK.sub (tys' := []) [] rfl
    refine W.widen (k := 0) (n := 0) (by exact Nat.le_of_ble_eq_true rfl) (by exact Nat.le_of_ble_eq_true rfl) ?_
    exact W.iret (v := (fv p1 p2)) hx hb hr (fun t ht hW => ⟨⟨fv p1 p2, (), rfl, (by first | exact (fo_0 _ _).symm | exact (fo_1 _ _).symm | exact (fo_2 _ _).symm | exact (fo_3 _ _).symm | exact (fo_o (by assumption)).symm), by rw [ht]; exact hP9, va_K.moved hW.alike hK9, hD9⟩, hS.F ht⟩) hS.2.2 d_Ref_outcome_23
  · skip
    refine lv_iload_n hx hb d_Ref_outcome_0 rfl (lv_at hl 1 rfl) ?_
    obtain ⟨hPc, hDc, hFc⟩ := cut3 (wc := []) hP hD rfl hS hA [] (by decide +kernel) rfl
    have hKc := hK.sub (tys' := []) [] rfl
    refine va_calli (va_runS (As := [.int 1]) (rest := []) ⟨hx, hb, hml, hown, hw⟩ (c_Ref_isModel_v2 l dC dI  s.heap.size) (cw_S 1 hw g_Ref_isModel rfl rfl rfl (hw _ m_109) (hw _ m_1066) (hw _ m_1067) (by decide +kernel) ⟨Nat.le_of_ble_eq_true rfl, Nat.le_of_ble_eq_true rfl⟩) ⟨fun a U g mk q => by obtain ⟨q0, q1, qP, qK, qD, qN⟩ := q; exact ⟨q0, q1, qP, va_K.moved (u := U) (U := U.calling g mk a) (Vm.Alike.refl U.vm) qK, qD, nw_call qN⟩, fun U hU hW => ⟨rfl, by rw [hU], by rw [hU]; exact hPc, va_K.moved hW.alike hKc, hDc.weaken (fun _ _ _ _ => trivial), nw_warm hW hn⟩⟩ rfl rfl hl.1 rfl (lv_room (Nat.le_of_ble_eq_true rfl)) d_Ref_outcome_1 ⟨Nat.le_of_ble_eq_true rfl, Nat.le_of_ble_eq_true rfl⟩) hS (fun q _ h => hFc q h) hFc ?_
    intro r_7 u t H1 locs1 ht hvm hw1 hB hz1 hk1 hS1
    obtain ⟨hP1, hK1, hD1⟩ := hB
    rw [ht] at hP1
    replace hK1 := va_K.moved hvm.symm hK1
    have hPD := join3 hP hD rfl [] [0, 1, 2, 3, 4, 5, 6, 7, 8, 9, 10, 11, 12] rfl (by rfl) (by decide +kernel) (by decide +kernel) hk1 hFc hP1 hD1
    replace hK : va_K (dC, dI) classes [(k5, .boolean), (k6, .int), (k7, .short), (k9, .int), (k10, .int), (k13, .int), (k14, .int), (k16, .long), (k17, .int), (k18, .int), (k19, .long), (k20, .int)] s := hK.app hK1
    clear hP1 hK1 hD1 hk1 hz1 hFc hKc hDc hPc hvm ht hP hS t
    have hP : va_P (dC, dI) classes [oc h0 8 [.int 0, .int p4, .ref h1, .ref h2, .ref h3, .ref h4, .ref h5, .ref h6, .ref h7, .ref h8, .ref h9, .ref h10, .ref h11, .ref h12, .int p5, .ref h13, .ref h14, .ref h15, .ref h16, .int p6, .int p7, .ref h17, .ref h18, .ref h19, .int p8, .ref h20, .int p9, .int p10, .ref h21, .ref h22, .ref h23, .ref h24, .ref h25, .ref h26, .ref h27, .ref h28, .int p11, .int p12, .ref h29, .ref h30, .ref h31, .ref h32, .ref h33, .ref h34, .ref h35, .ref h36, .int p13, .ref h37], ia h6 k5 8 (fun _ => 0), ia h7 k6 8 (fun _ => 0), ia h8 k7 352000 (fun _ => 0), ia h10 k9 16000 f9, ia h11 k10 32000 (fun _ => 0), ia h14 k13 155 f13, ia h15 k14 2635 f14, la h17 k16 1200000 f16, ia h18 k17 240000 f17, ia h19 k18 65536 f18, la h20 k19 5 f19, ia h21 k20 11 (fun _ => 0)] H1 := hPD.1
    replace hD : dd A [h0, h6, h7, h8, h10, h11, h14, h15, h17, h18, h19, h20, h21] := dd_of hPD.2 rfl
    clear hPD
    revert H1 locs1
    intro H locs hS hP
    refine tp_i (y := 1) hw1 ?_
    clear hw1 r_7 u
    refine tp_pc (pc' := 4) (by rfl) ?_
    refine lv_if_ne (tgt := 11) hx hb d_Ref_outcome_4 (by decide) (fun c_8 => ?_) (fun c_8 => absurd c_8 (by decide))
    refine tp_pc (pc' := 11) (by rfl) ?_
    refine lv_aload_n hx hb d_Ref_outcome_11 rfl (lv_at hl 0 rfl) ?_
    refine lv_iload_n hx hb d_Ref_outcome_12 rfl (lv_at hl 1 rfl) ?_
    obtain ⟨hPc, hDc, hFc⟩ := cut3 (wc := [oc h0 8 [.int 0, .int p4, .ref h1, .ref h2, .ref h3, .ref h4, .ref h5, .ref h6, .ref h7, .ref h8, .ref h9, .ref h10, .ref h11, .ref h12, .int p5, .ref h13, .ref h14, .ref h15, .ref h16, .int p6, .int p7, .ref h17, .ref h18, .ref h19, .int p8, .ref h20, .int p9, .int p10, .ref h21, .ref h22, .ref h23, .ref h24, .ref h25, .ref h26, .ref h27, .ref h28, .int p11, .int p12, .ref h29, .ref h30, .ref h31, .ref h32, .ref h33, .ref h34, .ref h35, .ref h36, .int p13, .ref h37], ia h6 k5 8 (fun _ => 0), ia h7 k6 8 (fun _ => 0), ia h8 k7 352000 (fun _ => 0), ia h10 k9 16000 f9, ia h11 k10 32000 (fun _ => 0), ia h14 k13 155 f13, ia h15 k14 2635 f14, la h17 k16 1200000 f16, ia h18 k17 240000 f17, ia h19 k18 65536 f18, la h20 k19 5 f19, ia h21 k20 11 (fun _ => 0)]) hP hD rfl hS hA [0, 1, 2, 3, 4, 5, 6, 7, 8, 9, 10, 11, 12] (by decide +kernel) rfl
    have hKc := hK.sub (tys' := [(k5, .boolean), (k6, .int), (k7, .short), (k9, .int), (k10, .int), (k13, .int), (k14, .int), (k16, .long), (k17, .int), (k18, .int), (k19, .long), (k20, .int)]) [0, 1, 2, 3, 4, 5, 6, 7, 8, 9, 10, 11] rfl
    refine va_callv (va_runV (As := [.int 1]) (rest := []) ⟨hx, hb, hml, hown, hw⟩ (c_Ref_find_v2 l dC dI h0 p4 h1 h2 h3 h4 h5 h6 h7 h8 h9 h10 h11 h12 p5 h13 h14 h15 h16 p6 p7 h17 h18 h19 p8 h20 p9 p10 h21 h22 h23 h24 h25 h26 h27 h28 p11 p12 h29 h30 h31 h32 h33 h34 h35 h36 p13 h37 k5 k6 k7 (fun _ => 0) k9 f9 k10 (fun _ => 0) k13 f13 k14 f14 k16 f16 k17 f17 k18 f18 k19 f19 k20 H.size) (cw_V 1 hw g_Ref_find rfl rfl rfl (hw _ m_109) (hw _ m_1069) (hw _ m_1071) (hw _ m_52) (by decide +kernel) ⟨Nat.le_of_ble_eq_true rfl, Nat.le_of_ble_eq_true rfl⟩) ⟨fun a U g mk q => by obtain ⟨q0, q1, qP, qK, qD, qN⟩ := q; exact ⟨q0, q1, qP, va_K.moved (u := U) (U := U.calling g mk a) (Vm.Alike.refl U.vm) qK, qD, nw_call qN⟩, va_recv hKc hPc (ci := 8) (q0 := 0) rfl rfl, fun U hU hW => ⟨rfl, by rw [hU], by rw [hU]; exact hPc, va_K.moved hW.alike hKc, hDc.weaken (fun _ _ _ _ => trivial), nw_warm hW hn⟩⟩ rfl rfl hl.1 rfl (lv_room (Nat.le_of_ble_eq_true rfl)) d_Ref_outcome_13 ⟨Nat.le_of_ble_eq_true rfl, Nat.le_of_ble_eq_true rfl⟩) hS (fun q _ h => hFc q h) hFc ?_
    intro u t H1 locs1 ht hvm hw1 hB hz1 hk1 hS1
    obtain ⟨g_9, hP1, hK1, hD1⟩ := hB
    rw [ht] at hP1
    replace hK1 := va_K.moved hvm.symm hK1
    have hPD := join3 hP hD rfl [0, 1, 2, 3, 4, 5, 6, 7, 8, 9, 10, 11, 12] [] rfl (by rfl) (by decide +kernel) (by decide +kernel) hk1 hFc hP1 hD1
    replace hK : va_K (dC, dI) classes [(k5, .boolean), (k6, .int), (k7, .short), (k9, .int), (k10, .int), (k13, .int), (k14, .int), (k16, .long), (k17, .int), (k18, .int), (k19, .long), (k20, .int)] s := hK.app hK1
    clear hP1 hK1 hD1 hk1 hz1 hFc hKc hDc hPc hvm ht hP hS t locs H
    have hP : va_P (dC, dI) classes [oc h0 8 [.int 0, .int p4, .ref h1, .ref h2, .ref h3, .ref h4, .ref h5, .ref h6, .ref h7, .ref h8, .ref h9, .ref h10, .ref h11, .ref h12, .int p5, .ref h13, .ref h14, .ref h15, .ref h16, .int 1, .int 37, .ref h17, .ref h18, .ref h19, .int 1, .ref h20, .int 101, .int 0, .ref h21, .ref h22, .ref h23, .ref h24, .ref h25, .ref h26, .ref h27, .ref h28, .int p11, .int p12, .ref h29, .ref h30, .ref h31, .ref h32, .ref h33, .ref h34, .ref h35, .ref h36, .int p13, .ref h37], ia h6 k5 8 (upd (fun _ => 0) 1 1), ia h7 k6 8 (upd (fun _ => 0) 1 1), ia h8 k7 352000 (upd (upd (upd (upd (upd (upd (upd (upd (upd (upd (upd (fun _ => 0) 44000 0) 44001 0) 44002 0) 44003 0) 44004 0) 44005 0) 44006 0) 44007 0) 44008 0) 44009 0) 44010 0), ia h10 k9 16000 (upd f9 4000 0), ia h11 k10 32000 (upd (fun _ => 0) 4000 0), ia h14 k13 155 (fun _ => 0), ia h15 k14 2635 g_9, la h17 k16 1200000 (vp_updL (vp_updL (vp_updL (vp_updL (vp_updL f16 0 1161999626690363392) 1 16909320) 2 0) 3 0) 4 0), ia h18 k17 240000 (upd f17 0 (-1)), ia h19 k18 65536 (upd (fun _ => (-1)) 22162 0), la h20 k19 5 (vp_updL (vp_updL (vp_updL (vp_updL (vp_updL (vp_updL (vp_updL (vp_updL (vp_updL (vp_updL (vp_updL (vp_updL (vp_updL (vp_updL (vp_updL (vp_updL (vp_updL (vp_updL (vp_updL (vp_updL (vp_updL (vp_updL (vp_updL (vp_updL (vp_updL f19 0 0) 1 0) 2 0) 3 0) 4 0) 0 0) 0 0) 0 0) 0 0) 0 262144) 0 33816576) 0 4328783872) 0 554084597760) 0 70922828775424) 0 9078122083516416) 0 1161999626690363392) 0 1161999626690363392) 1 8) 1 1032) 1 132104) 1 16909320) 1 16909320) 1 16909320) 1 16909320) 1 16909320), ia h21 k20 11 (fun _ => 0)] H1 := hPD.1
    replace hD : dd A [h0, h6, h7, h8, h10, h11, h14, h15, h17, h18, h19, h20, h21] := dd_of hPD.2 rfl
    clear hPD
    revert H1 locs1
    intro H locs hS hP
    clear hw1 u
    refine tp_pc (pc' := 16) (by rfl) ?_
    refine lv_aload_n hx hb d_Ref_outcome_16 rfl (lv_at hl 0 rfl) ?_
    refine lv_iload_n hx hb d_Ref_outcome_17 rfl (lv_at hl 1 rfl) ?_
    refine lv_iload_n hx hb d_Ref_outcome_18 rfl (lv_at hl 2 rfl) ?_
    refine lv_iload_n hx hb d_Ref_outcome_19 rfl (lv_at hl 3 rfl) ?_
    obtain ⟨hPc, hDc, hFc⟩ := cut3 (wc := [oc h0 8 [.int 0, .int p4, .ref h1, .ref h2, .ref h3, .ref h4, .ref h5, .ref h6, .ref h7, .ref h8, .ref h9, .ref h10, .ref h11, .ref h12, .int p5, .ref h13, .ref h14, .ref h15, .ref h16, .int 1, .int 37, .ref h17, .ref h18, .ref h19, .int 1, .ref h20, .int 101, .int 0, .ref h21, .ref h22, .ref h23, .ref h24, .ref h25, .ref h26, .ref h27, .ref h28, .int p11, .int p12, .ref h29, .ref h30, .ref h31, .ref h32, .ref h33, .ref h34, .ref h35, .ref h36, .int p13, .ref h37], ia h7 k6 8 (upd (fun _ => 0) 1 1), ia h8 k7 352000 (upd (upd (upd (upd (upd (upd (upd (upd (upd (upd (upd (fun _ => 0) 44000 0) 44001 0) 44002 0) 44003 0) 44004 0) 44005 0) 44006 0) 44007 0) 44008 0) 44009 0) 44010 0), ia h11 k10 32000 (upd (fun _ => 0) 4000 0)]) hP hD rfl hS hA [0, 2, 3, 5] (by decide +kernel) rfl
    have hKc := hK.sub (tys' := [(k6, .int), (k7, .short), (k10, .int)]) [1, 2, 4] rfl
    refine va_calli (va_runV (As := [.int 1, .int p1, .int p2]) (rest := []) ⟨hx, hb, hml, hown, hw⟩ (c_Ref_told_v2 l dC dI h0 p1 p2 0 p4 h1 h2 h3 h4 h5 h6 h7 h8 h9 h10 h11 h12 p5 h13 h14 h15 h16 1 37 h17 h18 h19 1 h20 101 0 h21 h22 h23 h24 h25 h26 h27 h28 p11 p12 h29 h30 h31 h32 h33 h34 h35 h36 p13 h37 k6 k7 k10 H.size) (cw_V 3 hw g_Ref_told rfl rfl rfl (hw _ m_109) (hw _ m_1174) (hw _ m_1176) (hw _ m_77) (by decide +kernel) ⟨Nat.le_of_ble_eq_true rfl, Nat.le_of_ble_eq_true rfl⟩) ⟨fun a U g mk q => by obtain ⟨q0, q1, qP, qK, qD, qN⟩ := q; exact ⟨q0, q1, qP, va_K.moved (u := U) (U := U.calling g mk a) (Vm.Alike.refl U.vm) qK, qD, nw_call qN⟩, va_recv hKc hPc (ci := 8) (q0 := 0) rfl rfl, fun U hU hW => ⟨rfl, by rw [hU], by rw [hU]; exact hPc, va_K.moved hW.alike hKc, hDc.weaken (fun _ _ _ _ => trivial), nw_warm hW hn⟩⟩ rfl rfl hl.1 rfl (lv_room (Nat.le_of_ble_eq_true rfl)) d_Ref_outcome_20 ⟨Nat.le_of_ble_eq_true rfl, Nat.le_of_ble_eq_true rfl⟩) hS (fun q _ h => hFc q h) hFc ?_
    intro r_11 u t H1 locs1 ht hvm hw1 hB hz1 hk1 hS1
    obtain ⟨hP1, hK1, hD1⟩ := hB
    rw [ht] at hP1
    replace hK1 := va_K.moved hvm.symm hK1
    have hPD := join3 hP hD rfl [0, 2, 3, 5] [1, 4, 6, 7, 8, 9, 10, 11, 12] rfl (by rfl) (by decide +kernel) (by decide +kernel) hk1 hFc hP1 hD1
    replace hK : va_K (dC, dI) classes [(k5, .boolean), (k6, .int), (k7, .short), (k9, .int), (k10, .int), (k13, .int), (k14, .int), (k16, .long), (k17, .int), (k18, .int), (k19, .long), (k20, .int)] s := hK.app hK1
    clear hP1 hK1 hD1 hk1 hz1 hFc hKc hDc hPc hvm ht hP hS t locs H
    have hP : va_P (dC, dI) classes [ia h6 k5 8 (upd (fun _ => 0) 1 1), ia h10 k9 16000 (upd f9 4000 0), ia h14 k13 155 (fun _ => 0), ia h15 k14 2635 g_9, la h17 k16 1200000 (vp_updL (vp_updL (vp_updL (vp_updL (vp_updL f16 0 1161999626690363392) 1 16909320) 2 0) 3 0) 4 0), ia h18 k17 240000 (upd f17 0 (-1)), ia h19 k18 65536 (upd (fun _ => (-1)) 22162 0), la h20 k19 5 (vp_updL (vp_updL (vp_updL (vp_updL (vp_updL (vp_updL (vp_updL (vp_updL (vp_updL (vp_updL (vp_updL (vp_updL (vp_updL (vp_updL (vp_updL (vp_updL (vp_updL (vp_updL (vp_updL (vp_updL (vp_updL (vp_updL (vp_updL (vp_updL (vp_updL f19 0 0) 1 0) 2 0) 3 0) 4 0) 0 0) 0 0) 0 0) 0 0) 0 262144) 0 33816576) 0 4328783872) 0 554084597760) 0 70922828775424) 0 9078122083516416) 0 1161999626690363392) 0 1161999626690363392) 1 8) 1 1032) 1 132104) 1 16909320) 1 16909320) 1 16909320) 1 16909320) 1 16909320), ia h21 k20 11 (fun _ => 0), oc h0 8 [.int 0, .int p4, .ref h1, .ref h2, .ref h3, .ref h4, .ref h5, .ref h6, .ref h7, .ref h8, .ref h9, .ref h10, .ref h11, .ref h12, .int p5, .ref h13, .ref h14, .ref h15, .ref h16, .int 1, .int 37, .ref h17, .ref h18, .ref h19, .int 1, .ref h20, .int 101, .int 0, .ref h21, .ref h22, .ref h23, .ref h24, .ref h25, .ref h26, .ref h27, .ref h28, .int p11, .int p12, .ref h29, .ref h30, .ref h31, .ref h32, .ref h33, .ref h34, .ref h35, .ref h36, .int p13, .ref h37], ia h7 k6 8 (upd (fun _ => 0) 1 1), ia h8 k7 352000 (upd (upd (upd (upd (upd (upd (upd (upd (upd (upd (upd (fun _ => 0) 44000 0) 44001 0) 44002 0) 44003 0) 44004 0) 44005 0) 44006 0) 44007 0) 44008 0) 44009 0) 44010 0), ia h11 k10 32000 (upd (fun _ => 0) 4000 0)] H1 := hPD.1
    replace hD : dd A [h6, h10, h14, h15, h17, h18, h19, h20, h21, h0, h7, h8, h11] := dd_of hPD.2 rfl
    clear hPD
    revert H1 locs1
    intro H locs hS hP
    refine tp_i (y := fv p1 p2) hw1 ?_
    clear hw1 r_11 u
    refine tp_pc (pc' := 23) (by rfl) ?_
    obtain ⟨hP9, hD9, -⟩ := cut3 (wc := []) hP hD rfl hS hA [] (by decide +kernel) rfl
    have hK9 := hK.sub (tys' := []) [] rfl
    refine W.widen (k := 0) (n := 0) (by exact Nat.le_of_ble_eq_true rfl) (by exact Nat.le_of_ble_eq_true rfl) ?_
    exact W.iret (v := (fv p1 p2)) hx hb hr (fun t ht hW => ⟨⟨fv p1 p2, (), rfl, (by first | exact (fo_0 _ _).symm | exact (fo_1 _ _).symm | exact (fo_2 _ _).symm | exact (fo_3 _ _).symm | exact (fo_o (by assumption)).symm), by rw [ht]; exact hP9, va_K.moved hW.alike hK9, hD9⟩, hS.F ht⟩) hS.2.2 d_Ref_outcome_23
  · skip
    refine lv_iload_n hx hb d_Ref_outcome_0 rfl (lv_at hl 1 rfl) ?_
    obtain ⟨hPc, hDc, hFc⟩ := cut3 (wc := []) hP hD rfl hS hA [] (by decide +kernel) rfl
    have hKc := hK.sub (tys' := []) [] rfl
    refine va_calli (va_runS (As := [.int 2]) (rest := []) ⟨hx, hb, hml, hown, hw⟩ (c_Ref_isModel_v3 l dC dI  s.heap.size) (cw_S 1 hw g_Ref_isModel rfl rfl rfl (hw _ m_109) (hw _ m_1066) (hw _ m_1067) (by decide +kernel) ⟨Nat.le_of_ble_eq_true rfl, Nat.le_of_ble_eq_true rfl⟩) ⟨fun a U g mk q => by obtain ⟨q0, q1, qP, qK, qD, qN⟩ := q; exact ⟨q0, q1, qP, va_K.moved (u := U) (U := U.calling g mk a) (Vm.Alike.refl U.vm) qK, qD, nw_call qN⟩, fun U hU hW => ⟨rfl, by rw [hU], by rw [hU]; exact hPc, va_K.moved hW.alike hKc, hDc.weaken (fun _ _ _ _ => trivial), nw_warm hW hn⟩⟩ rfl rfl hl.1 rfl (lv_room (Nat.le_of_ble_eq_true rfl)) d_Ref_outcome_1 ⟨Nat.le_of_ble_eq_true rfl, Nat.le_of_ble_eq_true rfl⟩) hS (fun q _ h => hFc q h) hFc ?_
    intro r_12 u t H1 locs1 ht hvm hw1 hB hz1 hk1 hS1
    obtain ⟨hP1, hK1, hD1⟩ := hB
    rw [ht] at hP1
    replace hK1 := va_K.moved hvm.symm hK1
    have hPD := join3 hP hD rfl [] [0, 1, 2, 3, 4, 5, 6, 7, 8, 9, 10, 11, 12] rfl (by rfl) (by decide +kernel) (by decide +kernel) hk1 hFc hP1 hD1
    replace hK : va_K (dC, dI) classes [(k5, .boolean), (k6, .int), (k7, .short), (k9, .int), (k10, .int), (k13, .int), (k14, .int), (k16, .long), (k17, .int), (k18, .int), (k19, .long), (k20, .int)] s := hK.app hK1
    clear hP1 hK1 hD1 hk1 hz1 hFc hKc hDc hPc hvm ht hP hS t
    have hP : va_P (dC, dI) classes [oc h0 8 [.int 0, .int p4, .ref h1, .ref h2, .ref h3, .ref h4, .ref h5, .ref h6, .ref h7, .ref h8, .ref h9, .ref h10, .ref h11, .ref h12, .int p5, .ref h13, .ref h14, .ref h15, .ref h16, .int p6, .int p7, .ref h17, .ref h18, .ref h19, .int p8, .ref h20, .int p9, .int p10, .ref h21, .ref h22, .ref h23, .ref h24, .ref h25, .ref h26, .ref h27, .ref h28, .int p11, .int p12, .ref h29, .ref h30, .ref h31, .ref h32, .ref h33, .ref h34, .ref h35, .ref h36, .int p13, .ref h37], ia h6 k5 8 (fun _ => 0), ia h7 k6 8 (fun _ => 0), ia h8 k7 352000 (fun _ => 0), ia h10 k9 16000 f9, ia h11 k10 32000 (fun _ => 0), ia h14 k13 155 f13, ia h15 k14 2635 f14, la h17 k16 1200000 f16, ia h18 k17 240000 f17, ia h19 k18 65536 f18, la h20 k19 5 f19, ia h21 k20 11 (fun _ => 0)] H1 := hPD.1
    replace hD : dd A [h0, h6, h7, h8, h10, h11, h14, h15, h17, h18, h19, h20, h21] := dd_of hPD.2 rfl
    clear hPD
    revert H1 locs1
    intro H locs hS hP
    refine tp_i (y := 1) hw1 ?_
    clear hw1 r_12 u
    refine tp_pc (pc' := 4) (by rfl) ?_
    refine lv_if_ne (tgt := 11) hx hb d_Ref_outcome_4 (by decide) (fun c_13 => ?_) (fun c_13 => absurd c_13 (by decide))
    refine tp_pc (pc' := 11) (by rfl) ?_
    refine lv_aload_n hx hb d_Ref_outcome_11 rfl (lv_at hl 0 rfl) ?_
    refine lv_iload_n hx hb d_Ref_outcome_12 rfl (lv_at hl 1 rfl) ?_
    obtain ⟨hPc, hDc, hFc⟩ := cut3 (wc := [oc h0 8 [.int 0, .int p4, .ref h1, .ref h2, .ref h3, .ref h4, .ref h5, .ref h6, .ref h7, .ref h8, .ref h9, .ref h10, .ref h11, .ref h12, .int p5, .ref h13, .ref h14, .ref h15, .ref h16, .int p6, .int p7, .ref h17, .ref h18, .ref h19, .int p8, .ref h20, .int p9, .int p10, .ref h21, .ref h22, .ref h23, .ref h24, .ref h25, .ref h26, .ref h27, .ref h28, .int p11, .int p12, .ref h29, .ref h30, .ref h31, .ref h32, .ref h33, .ref h34, .ref h35, .ref h36, .int p13, .ref h37], ia h6 k5 8 (fun _ => 0), ia h7 k6 8 (fun _ => 0), ia h8 k7 352000 (fun _ => 0), ia h10 k9 16000 f9, ia h11 k10 32000 (fun _ => 0), ia h14 k13 155 f13, ia h15 k14 2635 f14, la h17 k16 1200000 f16, ia h18 k17 240000 f17, ia h19 k18 65536 f18, la h20 k19 5 f19, ia h21 k20 11 (fun _ => 0)]) hP hD rfl hS hA [0, 1, 2, 3, 4, 5, 6, 7, 8, 9, 10, 11, 12] (by decide +kernel) rfl
    have hKc := hK.sub (tys' := [(k5, .boolean), (k6, .int), (k7, .short), (k9, .int), (k10, .int), (k13, .int), (k14, .int), (k16, .long), (k17, .int), (k18, .int), (k19, .long), (k20, .int)]) [0, 1, 2, 3, 4, 5, 6, 7, 8, 9, 10, 11] rfl
    refine va_callv (va_runV (As := [.int 2]) (rest := []) ⟨hx, hb, hml, hown, hw⟩ (c_Ref_find_v3 l dC dI h0 p4 h1 h2 h3 h4 h5 h6 h7 h8 h9 h10 h11 h12 p5 h13 h14 h15 h16 p6 p7 h17 h18 h19 p8 h20 p9 p10 h21 h22 h23 h24 h25 h26 h27 h28 p11 p12 h29 h30 h31 h32 h33 h34 h35 h36 p13 h37 k5 k6 k7 (fun _ => 0) k9 f9 k10 (fun _ => 0) k13 f13 k14 f14 k16 f16 k17 f17 k18 f18 k19 f19 k20 H.size) (cw_V 1 hw g_Ref_find rfl rfl rfl (hw _ m_109) (hw _ m_1069) (hw _ m_1071) (hw _ m_52) (by decide +kernel) ⟨Nat.le_of_ble_eq_true rfl, Nat.le_of_ble_eq_true rfl⟩) ⟨fun a U g mk q => by obtain ⟨q0, q1, qP, qK, qD, qN⟩ := q; exact ⟨q0, q1, qP, va_K.moved (u := U) (U := U.calling g mk a) (Vm.Alike.refl U.vm) qK, qD, nw_call qN⟩, va_recv hKc hPc (ci := 8) (q0 := 0) rfl rfl, fun U hU hW => ⟨rfl, by rw [hU], by rw [hU]; exact hPc, va_K.moved hW.alike hKc, hDc.weaken (fun _ _ _ _ => trivial), nw_warm hW hn⟩⟩ rfl rfl hl.1 rfl (lv_room (Nat.le_of_ble_eq_true rfl)) d_Ref_outcome_13 ⟨Nat.le_of_ble_eq_true rfl, Nat.le_of_ble_eq_true rfl⟩) hS (fun q _ h => hFc q h) hFc ?_
    intro u t H1 locs1 ht hvm hw1 hB hz1 hk1 hS1
    obtain ⟨g_14, hP1, hK1, hD1⟩ := hB
    rw [ht] at hP1
    replace hK1 := va_K.moved hvm.symm hK1
    have hPD := join3 hP hD rfl [0, 1, 2, 3, 4, 5, 6, 7, 8, 9, 10, 11, 12] [] rfl (by rfl) (by decide +kernel) (by decide +kernel) hk1 hFc hP1 hD1
    replace hK : va_K (dC, dI) classes [(k5, .boolean), (k6, .int), (k7, .short), (k9, .int), (k10, .int), (k13, .int), (k14, .int), (k16, .long), (k17, .int), (k18, .int), (k19, .long), (k20, .int)] s := hK.app hK1
    clear hP1 hK1 hD1 hk1 hz1 hFc hKc hDc hPc hvm ht hP hS t locs H
    have hP : va_P (dC, dI) classes [oc h0 8 [.int 0, .int p4, .ref h1, .ref h2, .ref h3, .ref h4, .ref h5, .ref h6, .ref h7, .ref h8, .ref h9, .ref h10, .ref h11, .ref h12, .int p5, .ref h13, .ref h14, .ref h15, .ref h16, .int 2, .int 37, .ref h17, .ref h18, .ref h19, .int 1, .ref h20, .int 125, .int 0, .ref h21, .ref h22, .ref h23, .ref h24, .ref h25, .ref h26, .ref h27, .ref h28, .int p11, .int p12, .ref h29, .ref h30, .ref h31, .ref h32, .ref h33, .ref h34, .ref h35, .ref h36, .int p13, .ref h37], ia h6 k5 8 (upd (fun _ => 0) 2 1), ia h7 k6 8 (upd (fun _ => 0) 2 1), ia h8 k7 352000 (upd (upd (upd (upd (upd (upd (upd (upd (upd (upd (upd (fun _ => 0) 88000 0) 88001 0) 88002 0) 88003 0) 88004 0) 88005 0) 88006 0) 88007 0) 88008 0) 88009 0) 88010 0), ia h10 k9 16000 (upd f9 8000 0), ia h11 k10 32000 (upd (fun _ => 0) 8000 0), ia h14 k13 155 (fun _ => 0), ia h15 k14 2635 g_14, la h17 k16 1200000 (vp_updL (vp_updL (vp_updL (vp_updL (vp_updL f16 0 1161999626690363392) 1 16909320) 2 0) 3 0) 4 0), ia h18 k17 240000 (upd f17 0 (-1)), ia h19 k18 65536 (upd (fun _ => (-1)) 22162 0), la h20 k19 5 (vp_updL (vp_updL (vp_updL (vp_updL (vp_updL (vp_updL (vp_updL (vp_updL (vp_updL (vp_updL (vp_updL (vp_updL (vp_updL (vp_updL (vp_updL (vp_updL (vp_updL (vp_updL (vp_updL (vp_updL (vp_updL (vp_updL (vp_updL (vp_updL (vp_updL (vp_updL (vp_updL (vp_updL (vp_updL (vp_updL (vp_updL (vp_updL (vp_updL f19 0 0) 1 0) 2 0) 3 0) 4 0) 0 0) 0 0) 0 0) 0 0) 0 262144) 0 33816576) 0 4328783872) 0 554084597760) 0 70922828775424) 0 9078122083516416) 0 1161999626690363392) 0 1161999626690363392) 1 8) 1 1032) 1 132104) 1 16909320) 1 16909320) 1 16909320) 1 16909320) 1 16909320) 1 16909320) 1 16909320) 1 16909320) 1 16909320) 1 16909320) 1 16909320) 1 16909320) 1 16909320), ia h21 k20 11 (fun _ => 0)] H1 := hPD.1
    replace hD : dd A [h0, h6, h7, h8, h10, h11, h14, h15, h17, h18, h19, h20, h21] := dd_of hPD.2 rfl
    clear hPD
    revert H1 locs1
    intro H locs hS hP
    clear hw1 u
    refine tp_pc (pc' := 16) (by rfl) ?_
    refine lv_aload_n hx hb d_Ref_outcome_16 rfl (lv_at hl 0 rfl) ?_
    refine lv_iload_n hx hb d_Ref_outcome_17 rfl (lv_at hl 1 rfl) ?_
    refine lv_iload_n hx hb d_Ref_outcome_18 rfl (lv_at hl 2 rfl) ?_
    refine lv_iload_n hx hb d_Ref_outcome_19 rfl (lv_at hl 3 rfl) ?_
    obtain ⟨hPc, hDc, hFc⟩ := cut3 (wc := [oc h0 8 [.int 0, .int p4, .ref h1, .ref h2, .ref h3, .ref h4, .ref h5, .ref h6, .ref h7, .ref h8, .ref h9, .ref h10, .ref h11, .ref h12, .int p5, .ref h13, .ref h14, .ref h15, .ref h16, .int 2, .int 37, .ref h17, .ref h18, .ref h19, .int 1, .ref h20, .int 125, .int 0, .ref h21, .ref h22, .ref h23, .ref h24, .ref h25, .ref h26, .ref h27, .ref h28, .int p11, .int p12, .ref h29, .ref h30, .ref h31, .ref h32, .ref h33, .ref h34, .ref h35, .ref h36, .int p13, .ref h37], ia h7 k6 8 (upd (fun _ => 0) 2 1), ia h8 k7 352000 (upd (upd (upd (upd (upd (upd (upd (upd (upd (upd (upd (fun _ => 0) 88000 0) 88001 0) 88002 0) 88003 0) 88004 0) 88005 0) 88006 0) 88007 0) 88008 0) 88009 0) 88010 0), ia h11 k10 32000 (upd (fun _ => 0) 8000 0)]) hP hD rfl hS hA [0, 2, 3, 5] (by decide +kernel) rfl
    have hKc := hK.sub (tys' := [(k6, .int), (k7, .short), (k10, .int)]) [1, 2, 4] rfl
    refine va_calli (va_runV (As := [.int 2, .int p1, .int p2]) (rest := []) ⟨hx, hb, hml, hown, hw⟩ (c_Ref_told_v3 l dC dI h0 p1 p2 0 p4 h1 h2 h3 h4 h5 h6 h7 h8 h9 h10 h11 h12 p5 h13 h14 h15 h16 2 37 h17 h18 h19 1 h20 125 0 h21 h22 h23 h24 h25 h26 h27 h28 p11 p12 h29 h30 h31 h32 h33 h34 h35 h36 p13 h37 k6 k7 k10 H.size) (cw_V 3 hw g_Ref_told rfl rfl rfl (hw _ m_109) (hw _ m_1174) (hw _ m_1176) (hw _ m_77) (by decide +kernel) ⟨Nat.le_of_ble_eq_true rfl, Nat.le_of_ble_eq_true rfl⟩) ⟨fun a U g mk q => by obtain ⟨q0, q1, qP, qK, qD, qN⟩ := q; exact ⟨q0, q1, qP, va_K.moved (u := U) (U := U.calling g mk a) (Vm.Alike.refl U.vm) qK, qD, nw_call qN⟩, va_recv hKc hPc (ci := 8) (q0 := 0) rfl rfl, fun U hU hW => ⟨rfl, by rw [hU], by rw [hU]; exact hPc, va_K.moved hW.alike hKc, hDc.weaken (fun _ _ _ _ => trivial), nw_warm hW hn⟩⟩ rfl rfl hl.1 rfl (lv_room (Nat.le_of_ble_eq_true rfl)) d_Ref_outcome_20 ⟨Nat.le_of_ble_eq_true rfl, Nat.le_of_ble_eq_true rfl⟩) hS (fun q _ h => hFc q h) hFc ?_
    intro r_16 u t H1 locs1 ht hvm hw1 hB hz1 hk1 hS1
    obtain ⟨hP1, hK1, hD1⟩ := hB
    rw [ht] at hP1
    replace hK1 := va_K.moved hvm.symm hK1
    have hPD := join3 hP hD rfl [0, 2, 3, 5] [1, 4, 6, 7, 8, 9, 10, 11, 12] rfl (by rfl) (by decide +kernel) (by decide +kernel) hk1 hFc hP1 hD1
    replace hK : va_K (dC, dI) classes [(k5, .boolean), (k6, .int), (k7, .short), (k9, .int), (k10, .int), (k13, .int), (k14, .int), (k16, .long), (k17, .int), (k18, .int), (k19, .long), (k20, .int)] s := hK.app hK1
    clear hP1 hK1 hD1 hk1 hz1 hFc hKc hDc hPc hvm ht hP hS t locs H
    have hP : va_P (dC, dI) classes [ia h6 k5 8 (upd (fun _ => 0) 2 1), ia h10 k9 16000 (upd f9 8000 0), ia h14 k13 155 (fun _ => 0), ia h15 k14 2635 g_14, la h17 k16 1200000 (vp_updL (vp_updL (vp_updL (vp_updL (vp_updL f16 0 1161999626690363392) 1 16909320) 2 0) 3 0) 4 0), ia h18 k17 240000 (upd f17 0 (-1)), ia h19 k18 65536 (upd (fun _ => (-1)) 22162 0), la h20 k19 5 (vp_updL (vp_updL (vp_updL (vp_updL (vp_updL (vp_updL (vp_updL (vp_updL (vp_updL (vp_updL (vp_updL (vp_updL (vp_updL (vp_updL (vp_updL (vp_updL (vp_updL (vp_updL (vp_updL (vp_updL (vp_updL (vp_updL (vp_updL (vp_updL (vp_updL (vp_updL (vp_updL (vp_updL (vp_updL (vp_updL (vp_updL (vp_updL (vp_updL f19 0 0) 1 0) 2 0) 3 0) 4 0) 0 0) 0 0) 0 0) 0 0) 0 262144) 0 33816576) 0 4328783872) 0 554084597760) 0 70922828775424) 0 9078122083516416) 0 1161999626690363392) 0 1161999626690363392) 1 8) 1 1032) 1 132104) 1 16909320) 1 16909320) 1 16909320) 1 16909320) 1 16909320) 1 16909320) 1 16909320) 1 16909320) 1 16909320) 1 16909320) 1 16909320) 1 16909320) 1 16909320), ia h21 k20 11 (fun _ => 0), oc h0 8 [.int 0, .int p4, .ref h1, .ref h2, .ref h3, .ref h4, .ref h5, .ref h6, .ref h7, .ref h8, .ref h9, .ref h10, .ref h11, .ref h12, .int p5, .ref h13, .ref h14, .ref h15, .ref h16, .int 2, .int 37, .ref h17, .ref h18, .ref h19, .int 1, .ref h20, .int 125, .int 0, .ref h21, .ref h22, .ref h23, .ref h24, .ref h25, .ref h26, .ref h27, .ref h28, .int p11, .int p12, .ref h29, .ref h30, .ref h31, .ref h32, .ref h33, .ref h34, .ref h35, .ref h36, .int p13, .ref h37], ia h7 k6 8 (upd (fun _ => 0) 2 1), ia h8 k7 352000 (upd (upd (upd (upd (upd (upd (upd (upd (upd (upd (upd (fun _ => 0) 88000 0) 88001 0) 88002 0) 88003 0) 88004 0) 88005 0) 88006 0) 88007 0) 88008 0) 88009 0) 88010 0), ia h11 k10 32000 (upd (fun _ => 0) 8000 0)] H1 := hPD.1
    replace hD : dd A [h6, h10, h14, h15, h17, h18, h19, h20, h21, h0, h7, h8, h11] := dd_of hPD.2 rfl
    clear hPD
    revert H1 locs1
    intro H locs hS hP
    refine tp_i (y := fv p1 p2) hw1 ?_
    clear hw1 r_16 u
    refine tp_pc (pc' := 23) (by rfl) ?_
    obtain ⟨hP9, hD9, -⟩ := cut3 (wc := []) hP hD rfl hS hA [] (by decide +kernel) rfl
    have hK9 := hK.sub (tys' := []) [] rfl
    refine W.widen (k := 0) (n := 0) (by exact Nat.le_of_ble_eq_true rfl) (by exact Nat.le_of_ble_eq_true rfl) ?_
    exact W.iret (v := (fv p1 p2)) hx hb hr (fun t ht hW => ⟨⟨fv p1 p2, (), rfl, (by first | exact (fo_0 _ _).symm | exact (fo_1 _ _).symm | exact (fo_2 _ _).symm | exact (fo_3 _ _).symm | exact (fo_o (by assumption)).symm), by rw [ht]; exact hP9, va_K.moved hW.alike hK9, hD9⟩, hS.F ht⟩) hS.2.2 d_Ref_outcome_23
  · skip
    refine lv_iload_n hx hb d_Ref_outcome_0 rfl (lv_at hl 1 rfl) ?_
    obtain ⟨hPc, hDc, hFc⟩ := cut3 (wc := []) hP hD rfl hS hA [] (by decide +kernel) rfl
    have hKc := hK.sub (tys' := []) [] rfl
    refine va_calli (va_runS (As := [.int 3]) (rest := []) ⟨hx, hb, hml, hown, hw⟩ (c_Ref_isModel_v4 l dC dI  s.heap.size) (cw_S 1 hw g_Ref_isModel rfl rfl rfl (hw _ m_109) (hw _ m_1066) (hw _ m_1067) (by decide +kernel) ⟨Nat.le_of_ble_eq_true rfl, Nat.le_of_ble_eq_true rfl⟩) ⟨fun a U g mk q => by obtain ⟨q0, q1, qP, qK, qD, qN⟩ := q; exact ⟨q0, q1, qP, va_K.moved (u := U) (U := U.calling g mk a) (Vm.Alike.refl U.vm) qK, qD, nw_call qN⟩, fun U hU hW => ⟨rfl, by rw [hU], by rw [hU]; exact hPc, va_K.moved hW.alike hKc, hDc.weaken (fun _ _ _ _ => trivial), nw_warm hW hn⟩⟩ rfl rfl hl.1 rfl (lv_room (Nat.le_of_ble_eq_true rfl)) d_Ref_outcome_1 ⟨Nat.le_of_ble_eq_true rfl, Nat.le_of_ble_eq_true rfl⟩) hS (fun q _ h => hFc q h) hFc ?_
    intro r_17 u t H1 locs1 ht hvm hw1 hB hz1 hk1 hS1
    obtain ⟨hP1, hK1, hD1⟩ := hB
    rw [ht] at hP1
    replace hK1 := va_K.moved hvm.symm hK1
    have hPD := join3 hP hD rfl [] [0, 1, 2, 3, 4, 5, 6, 7, 8, 9, 10, 11, 12] rfl (by rfl) (by decide +kernel) (by decide +kernel) hk1 hFc hP1 hD1
    replace hK : va_K (dC, dI) classes [(k5, .boolean), (k6, .int), (k7, .short), (k9, .int), (k10, .int), (k13, .int), (k14, .int), (k16, .long), (k17, .int), (k18, .int), (k19, .long), (k20, .int)] s := hK.app hK1
    clear hP1 hK1 hD1 hk1 hz1 hFc hKc hDc hPc hvm ht hP hS t
    have hP : va_P (dC, dI) classes [oc h0 8 [.int 0, .int p4, .ref h1, .ref h2, .ref h3, .ref h4, .ref h5, .ref h6, .ref h7, .ref h8, .ref h9, .ref h10, .ref h11, .ref h12, .int p5, .ref h13, .ref h14, .ref h15, .ref h16, .int p6, .int p7, .ref h17, .ref h18, .ref h19, .int p8, .ref h20, .int p9, .int p10, .ref h21, .ref h22, .ref h23, .ref h24, .ref h25, .ref h26, .ref h27, .ref h28, .int p11, .int p12, .ref h29, .ref h30, .ref h31, .ref h32, .ref h33, .ref h34, .ref h35, .ref h36, .int p13, .ref h37], ia h6 k5 8 (fun _ => 0), ia h7 k6 8 (fun _ => 0), ia h8 k7 352000 (fun _ => 0), ia h10 k9 16000 f9, ia h11 k10 32000 (fun _ => 0), ia h14 k13 155 f13, ia h15 k14 2635 f14, la h17 k16 1200000 f16, ia h18 k17 240000 f17, ia h19 k18 65536 f18, la h20 k19 5 f19, ia h21 k20 11 (fun _ => 0)] H1 := hPD.1
    replace hD : dd A [h0, h6, h7, h8, h10, h11, h14, h15, h17, h18, h19, h20, h21] := dd_of hPD.2 rfl
    clear hPD
    revert H1 locs1
    intro H locs hS hP
    refine tp_i (y := 1) hw1 ?_
    clear hw1 r_17 u
    refine tp_pc (pc' := 4) (by rfl) ?_
    refine lv_if_ne (tgt := 11) hx hb d_Ref_outcome_4 (by decide) (fun c_18 => ?_) (fun c_18 => absurd c_18 (by decide))
    refine tp_pc (pc' := 11) (by rfl) ?_
    refine lv_aload_n hx hb d_Ref_outcome_11 rfl (lv_at hl 0 rfl) ?_
    refine lv_iload_n hx hb d_Ref_outcome_12 rfl (lv_at hl 1 rfl) ?_
    obtain ⟨hPc, hDc, hFc⟩ := cut3 (wc := [oc h0 8 [.int 0, .int p4, .ref h1, .ref h2, .ref h3, .ref h4, .ref h5, .ref h6, .ref h7, .ref h8, .ref h9, .ref h10, .ref h11, .ref h12, .int p5, .ref h13, .ref h14, .ref h15, .ref h16, .int p6, .int p7, .ref h17, .ref h18, .ref h19, .int p8, .ref h20, .int p9, .int p10, .ref h21, .ref h22, .ref h23, .ref h24, .ref h25, .ref h26, .ref h27, .ref h28, .int p11, .int p12, .ref h29, .ref h30, .ref h31, .ref h32, .ref h33, .ref h34, .ref h35, .ref h36, .int p13, .ref h37], ia h6 k5 8 (fun _ => 0), ia h7 k6 8 (fun _ => 0), ia h8 k7 352000 (fun _ => 0), ia h10 k9 16000 f9, ia h11 k10 32000 (fun _ => 0), ia h14 k13 155 f13, ia h15 k14 2635 f14, la h17 k16 1200000 f16, ia h18 k17 240000 f17, ia h19 k18 65536 f18, la h20 k19 5 f19, ia h21 k20 11 (fun _ => 0)]) hP hD rfl hS hA [0, 1, 2, 3, 4, 5, 6, 7, 8, 9, 10, 11, 12] (by decide +kernel) rfl
    have hKc := hK.sub (tys' := [(k5, .boolean), (k6, .int), (k7, .short), (k9, .int), (k10, .int), (k13, .int), (k14, .int), (k16, .long), (k17, .int), (k18, .int), (k19, .long), (k20, .int)]) [0, 1, 2, 3, 4, 5, 6, 7, 8, 9, 10, 11] rfl
    refine va_callv (va_runV (As := [.int 3]) (rest := []) ⟨hx, hb, hml, hown, hw⟩ (c_Ref_find_v4 l dC dI h0 p4 h1 h2 h3 h4 h5 h6 h7 h8 h9 h10 h11 h12 p5 h13 h14 h15 h16 p6 p7 h17 h18 h19 p8 h20 p9 p10 h21 h22 h23 h24 h25 h26 h27 h28 p11 p12 h29 h30 h31 h32 h33 h34 h35 h36 p13 h37 k5 k6 k7 (fun _ => 0) k9 f9 k10 (fun _ => 0) k13 f13 k14 f14 k16 f16 k17 f17 k18 f18 k19 f19 k20 H.size) (cw_V 1 hw g_Ref_find rfl rfl rfl (hw _ m_109) (hw _ m_1069) (hw _ m_1071) (hw _ m_52) (by decide +kernel) ⟨Nat.le_of_ble_eq_true rfl, Nat.le_of_ble_eq_true rfl⟩) ⟨fun a U g mk q => by obtain ⟨q0, q1, qP, qK, qD, qN⟩ := q; exact ⟨q0, q1, qP, va_K.moved (u := U) (U := U.calling g mk a) (Vm.Alike.refl U.vm) qK, qD, nw_call qN⟩, va_recv hKc hPc (ci := 8) (q0 := 0) rfl rfl, fun U hU hW => ⟨rfl, by rw [hU], by rw [hU]; exact hPc, va_K.moved hW.alike hKc, hDc.weaken (fun _ _ _ _ => trivial), nw_warm hW hn⟩⟩ rfl rfl hl.1 rfl (lv_room (Nat.le_of_ble_eq_true rfl)) d_Ref_outcome_13 ⟨Nat.le_of_ble_eq_true rfl, Nat.le_of_ble_eq_true rfl⟩) hS (fun q _ h => hFc q h) hFc ?_
    intro u t H1 locs1 ht hvm hw1 hB hz1 hk1 hS1
    obtain ⟨g_19, hP1, hK1, hD1⟩ := hB
    rw [ht] at hP1
    replace hK1 := va_K.moved hvm.symm hK1
    have hPD := join3 hP hD rfl [0, 1, 2, 3, 4, 5, 6, 7, 8, 9, 10, 11, 12] [] rfl (by rfl) (by decide +kernel) (by decide +kernel) hk1 hFc hP1 hD1
    replace hK : va_K (dC, dI) classes [(k5, .boolean), (k6, .int), (k7, .short), (k9, .int), (k10, .int), (k13, .int), (k14, .int), (k16, .long), (k17, .int), (k18, .int), (k19, .long), (k20, .int)] s := hK.app hK1
    clear hP1 hK1 hD1 hk1 hz1 hFc hKc hDc hPc hvm ht hP hS t locs H
    have hP : va_P (dC, dI) classes [oc h0 8 [.int 0, .int p4, .ref h1, .ref h2, .ref h3, .ref h4, .ref h5, .ref h6, .ref h7, .ref h8, .ref h9, .ref h10, .ref h11, .ref h12, .int p5, .ref h13, .ref h14, .ref h15, .ref h16, .int 3, .int 155, .ref h17, .ref h18, .ref h19, .int 1, .ref h20, .int 84, .int 0, .ref h21, .ref h22, .ref h23, .ref h24, .ref h25, .ref h26, .ref h27, .ref h28, .int p11, .int p12, .ref h29, .ref h30, .ref h31, .ref h32, .ref h33, .ref h34, .ref h35, .ref h36, .int p13, .ref h37], ia h6 k5 8 (upd (fun _ => 0) 3 1), ia h7 k6 8 (upd (fun _ => 0) 3 1), ia h8 k7 352000 (upd (upd (upd (upd (upd (upd (upd (upd (upd (upd (upd (fun _ => 0) 132000 0) 132001 0) 132002 0) 132003 0) 132004 0) 132005 0) 132006 0) 132007 0) 132008 0) 132009 0) 132010 0), ia h10 k9 16000 (upd f9 12000 0), ia h11 k10 32000 (upd (fun _ => 0) 12000 0), ia h14 k13 155 (upd (upd (upd (upd (upd (upd (upd (upd (upd (upd (upd (upd (upd (upd (upd (upd (upd (upd (upd (upd (upd (upd (upd (upd (upd (upd (upd (upd (upd (upd (upd (upd (fun _ => 0) 37 1) 96 1) 97 2) 98 3) 38 1) 49 1) 140 1) 100 1) 144 1) 101 2) 148 1) 102 3) 152 1) 39 1) 57 2) 141 2) 104 1) 145 2) 105 2) 149 2) 106 3) 153 2) 40 1) 65 3) 142 3) 108 1) 146 3) 109 2) 150 3) 110 3) 154 3) 15 4), ia h15 k14 2635 g_19, la h17 k16 1200000 (vp_updL (vp_updL (vp_updL (vp_updL (vp_updL f16 0 1161999626690363392) 1 69912) 2 0) 3 0) 4 0), ia h18 k17 240000 (upd f17 0 (-1)), ia h19 k18 65536 (upd (fun _ => (-1)) 50652 0), la h20 k19 5 (vp_updL (vp_updL (vp_updL (vp_updL (vp_updL (vp_updL (vp_updL (vp_updL (vp_updL (vp_updL (vp_updL (vp_updL (vp_updL (vp_updL (vp_updL (vp_updL (vp_updL (vp_updL (vp_updL (vp_updL (vp_updL (vp_updL f19 0 0) 1 0) 2 0) 3 0) 4 0) 0 0) 0 0) 0 0) 0 0) 0 262144) 0 33816576) 0 4328783872) 0 554084597760) 0 70922828775424) 0 9078122083516416) 0 1161999626690363392) 0 1161999626690363392) 1 8) 1 24) 1 280) 1 4376) 1 69912), ia h21 k20 11 (fun _ => 0)] H1 := hPD.1
    replace hD : dd A [h0, h6, h7, h8, h10, h11, h14, h15, h17, h18, h19, h20, h21] := dd_of hPD.2 rfl
    clear hPD
    revert H1 locs1
    intro H locs hS hP
    clear hw1 u
    refine tp_pc (pc' := 16) (by rfl) ?_
    refine lv_aload_n hx hb d_Ref_outcome_16 rfl (lv_at hl 0 rfl) ?_
    refine lv_iload_n hx hb d_Ref_outcome_17 rfl (lv_at hl 1 rfl) ?_
    refine lv_iload_n hx hb d_Ref_outcome_18 rfl (lv_at hl 2 rfl) ?_
    refine lv_iload_n hx hb d_Ref_outcome_19 rfl (lv_at hl 3 rfl) ?_
    obtain ⟨hPc, hDc, hFc⟩ := cut3 (wc := [oc h0 8 [.int 0, .int p4, .ref h1, .ref h2, .ref h3, .ref h4, .ref h5, .ref h6, .ref h7, .ref h8, .ref h9, .ref h10, .ref h11, .ref h12, .int p5, .ref h13, .ref h14, .ref h15, .ref h16, .int 3, .int 155, .ref h17, .ref h18, .ref h19, .int 1, .ref h20, .int 84, .int 0, .ref h21, .ref h22, .ref h23, .ref h24, .ref h25, .ref h26, .ref h27, .ref h28, .int p11, .int p12, .ref h29, .ref h30, .ref h31, .ref h32, .ref h33, .ref h34, .ref h35, .ref h36, .int p13, .ref h37], ia h7 k6 8 (upd (fun _ => 0) 3 1), ia h8 k7 352000 (upd (upd (upd (upd (upd (upd (upd (upd (upd (upd (upd (fun _ => 0) 132000 0) 132001 0) 132002 0) 132003 0) 132004 0) 132005 0) 132006 0) 132007 0) 132008 0) 132009 0) 132010 0), ia h11 k10 32000 (upd (fun _ => 0) 12000 0)]) hP hD rfl hS hA [0, 2, 3, 5] (by decide +kernel) rfl
    have hKc := hK.sub (tys' := [(k6, .int), (k7, .short), (k10, .int)]) [1, 2, 4] rfl
    refine va_calli (va_runV (As := [.int 3, .int p1, .int p2]) (rest := []) ⟨hx, hb, hml, hown, hw⟩ (c_Ref_told_v4 l dC dI h0 p1 p2 0 p4 h1 h2 h3 h4 h5 h6 h7 h8 h9 h10 h11 h12 p5 h13 h14 h15 h16 3 155 h17 h18 h19 1 h20 84 0 h21 h22 h23 h24 h25 h26 h27 h28 p11 p12 h29 h30 h31 h32 h33 h34 h35 h36 p13 h37 k6 k7 k10 H.size) (cw_V 3 hw g_Ref_told rfl rfl rfl (hw _ m_109) (hw _ m_1174) (hw _ m_1176) (hw _ m_77) (by decide +kernel) ⟨Nat.le_of_ble_eq_true rfl, Nat.le_of_ble_eq_true rfl⟩) ⟨fun a U g mk q => by obtain ⟨q0, q1, qP, qK, qD, qN⟩ := q; exact ⟨q0, q1, qP, va_K.moved (u := U) (U := U.calling g mk a) (Vm.Alike.refl U.vm) qK, qD, nw_call qN⟩, va_recv hKc hPc (ci := 8) (q0 := 0) rfl rfl, fun U hU hW => ⟨rfl, by rw [hU], by rw [hU]; exact hPc, va_K.moved hW.alike hKc, hDc.weaken (fun _ _ _ _ => trivial), nw_warm hW hn⟩⟩ rfl rfl hl.1 rfl (lv_room (Nat.le_of_ble_eq_true rfl)) d_Ref_outcome_20 ⟨Nat.le_of_ble_eq_true rfl, Nat.le_of_ble_eq_true rfl⟩) hS (fun q _ h => hFc q h) hFc ?_
    intro r_21 u t H1 locs1 ht hvm hw1 hB hz1 hk1 hS1
    obtain ⟨hP1, hK1, hD1⟩ := hB
    rw [ht] at hP1
    replace hK1 := va_K.moved hvm.symm hK1
    have hPD := join3 hP hD rfl [0, 2, 3, 5] [1, 4, 6, 7, 8, 9, 10, 11, 12] rfl (by rfl) (by decide +kernel) (by decide +kernel) hk1 hFc hP1 hD1
    replace hK : va_K (dC, dI) classes [(k5, .boolean), (k6, .int), (k7, .short), (k9, .int), (k10, .int), (k13, .int), (k14, .int), (k16, .long), (k17, .int), (k18, .int), (k19, .long), (k20, .int)] s := hK.app hK1
    clear hP1 hK1 hD1 hk1 hz1 hFc hKc hDc hPc hvm ht hP hS t locs H
    have hP : va_P (dC, dI) classes [ia h6 k5 8 (upd (fun _ => 0) 3 1), ia h10 k9 16000 (upd f9 12000 0), ia h14 k13 155 (upd (upd (upd (upd (upd (upd (upd (upd (upd (upd (upd (upd (upd (upd (upd (upd (upd (upd (upd (upd (upd (upd (upd (upd (upd (upd (upd (upd (upd (upd (upd (upd (fun _ => 0) 37 1) 96 1) 97 2) 98 3) 38 1) 49 1) 140 1) 100 1) 144 1) 101 2) 148 1) 102 3) 152 1) 39 1) 57 2) 141 2) 104 1) 145 2) 105 2) 149 2) 106 3) 153 2) 40 1) 65 3) 142 3) 108 1) 146 3) 109 2) 150 3) 110 3) 154 3) 15 4), ia h15 k14 2635 g_19, la h17 k16 1200000 (vp_updL (vp_updL (vp_updL (vp_updL (vp_updL f16 0 1161999626690363392) 1 69912) 2 0) 3 0) 4 0), ia h18 k17 240000 (upd f17 0 (-1)), ia h19 k18 65536 (upd (fun _ => (-1)) 50652 0), la h20 k19 5 (vp_updL (vp_updL (vp_updL (vp_updL (vp_updL (vp_updL (vp_updL (vp_updL (vp_updL (vp_updL (vp_updL (vp_updL (vp_updL (vp_updL (vp_updL (vp_updL (vp_updL (vp_updL (vp_updL (vp_updL (vp_updL (vp_updL f19 0 0) 1 0) 2 0) 3 0) 4 0) 0 0) 0 0) 0 0) 0 0) 0 262144) 0 33816576) 0 4328783872) 0 554084597760) 0 70922828775424) 0 9078122083516416) 0 1161999626690363392) 0 1161999626690363392) 1 8) 1 24) 1 280) 1 4376) 1 69912), ia h21 k20 11 (fun _ => 0), oc h0 8 [.int 0, .int p4, .ref h1, .ref h2, .ref h3, .ref h4, .ref h5, .ref h6, .ref h7, .ref h8, .ref h9, .ref h10, .ref h11, .ref h12, .int p5, .ref h13, .ref h14, .ref h15, .ref h16, .int 3, .int 155, .ref h17, .ref h18, .ref h19, .int 1, .ref h20, .int 84, .int 0, .ref h21, .ref h22, .ref h23, .ref h24, .ref h25, .ref h26, .ref h27, .ref h28, .int p11, .int p12, .ref h29, .ref h30, .ref h31, .ref h32, .ref h33, .ref h34, .ref h35, .ref h36, .int p13, .ref h37], ia h7 k6 8 (upd (fun _ => 0) 3 1), ia h8 k7 352000 (upd (upd (upd (upd (upd (upd (upd (upd (upd (upd (upd (fun _ => 0) 132000 0) 132001 0) 132002 0) 132003 0) 132004 0) 132005 0) 132006 0) 132007 0) 132008 0) 132009 0) 132010 0), ia h11 k10 32000 (upd (fun _ => 0) 12000 0)] H1 := hPD.1
    replace hD : dd A [h6, h10, h14, h15, h17, h18, h19, h20, h21, h0, h7, h8, h11] := dd_of hPD.2 rfl
    clear hPD
    revert H1 locs1
    intro H locs hS hP
    refine tp_i (y := fv p1 p2) hw1 ?_
    clear hw1 r_21 u
    refine tp_pc (pc' := 23) (by rfl) ?_
    obtain ⟨hP9, hD9, -⟩ := cut3 (wc := []) hP hD rfl hS hA [] (by decide +kernel) rfl
    have hK9 := hK.sub (tys' := []) [] rfl
    refine W.widen (k := 0) (n := 0) (by exact Nat.le_of_ble_eq_true rfl) (by exact Nat.le_of_ble_eq_true rfl) ?_
    exact W.iret (v := (fv p1 p2)) hx hb hr (fun t ht hW => ⟨⟨fv p1 p2, (), rfl, (by first | exact (fo_0 _ _).symm | exact (fo_1 _ _).symm | exact (fo_2 _ _).symm | exact (fo_3 _ _).symm | exact (fo_o (by assumption)).symm), by rw [ht]; exact hP9, va_K.moved hW.alike hK9, hD9⟩, hS.F ht⟩) hS.2.2 d_Ref_outcome_23
  · skip
    refine lv_iload_n hx hb d_Ref_outcome_0 rfl (lv_at hl 1 rfl) ?_
    obtain ⟨hPc, hDc, hFc⟩ := cut3 (wc := []) hP hD rfl hS hA [] (by decide +kernel) rfl
    have hKc := hK.sub (tys' := []) [] rfl
    refine va_calli (va_runS (As := [.int p0]) (rest := []) ⟨hx, hb, hml, hown, hw⟩ (c_Ref_isModel_v5 l dC dI p0 hs_1 s.heap.size) (cw_S 1 hw g_Ref_isModel rfl rfl rfl (hw _ m_109) (hw _ m_1066) (hw _ m_1067) (by decide +kernel) ⟨Nat.le_of_ble_eq_true rfl, Nat.le_of_ble_eq_true rfl⟩) ⟨fun a U g mk q => by obtain ⟨q0, q1, qP, qK, qD, qN⟩ := q; exact ⟨q0, q1, qP, va_K.moved (u := U) (U := U.calling g mk a) (Vm.Alike.refl U.vm) qK, qD, nw_call qN⟩, fun U hU hW => ⟨rfl, by rw [hU], by rw [hU]; exact hPc, va_K.moved hW.alike hKc, hDc.weaken (fun _ _ _ _ => trivial), nw_warm hW hn⟩⟩ rfl rfl hl.1 rfl (lv_room (Nat.le_of_ble_eq_true rfl)) d_Ref_outcome_1 ⟨Nat.le_of_ble_eq_true rfl, Nat.le_of_ble_eq_true rfl⟩) hS (fun q _ h => hFc q h) hFc ?_
    intro r_22 u t H1 locs1 ht hvm hw1 hB hz1 hk1 hS1
    obtain ⟨hP1, hK1, hD1⟩ := hB
    rw [ht] at hP1
    replace hK1 := va_K.moved hvm.symm hK1
    have hPD := join3 hP hD rfl [] [0, 1, 2, 3, 4, 5, 6, 7, 8, 9, 10, 11, 12] rfl (by rfl) (by decide +kernel) (by decide +kernel) hk1 hFc hP1 hD1
    replace hK : va_K (dC, dI) classes [(k5, .boolean), (k6, .int), (k7, .short), (k9, .int), (k10, .int), (k13, .int), (k14, .int), (k16, .long), (k17, .int), (k18, .int), (k19, .long), (k20, .int)] s := hK.app hK1
    clear hP1 hK1 hD1 hk1 hz1 hFc hKc hDc hPc hvm ht hP hS t
    have hP : va_P (dC, dI) classes [oc h0 8 [.int 0, .int p4, .ref h1, .ref h2, .ref h3, .ref h4, .ref h5, .ref h6, .ref h7, .ref h8, .ref h9, .ref h10, .ref h11, .ref h12, .int p5, .ref h13, .ref h14, .ref h15, .ref h16, .int p6, .int p7, .ref h17, .ref h18, .ref h19, .int p8, .ref h20, .int p9, .int p10, .ref h21, .ref h22, .ref h23, .ref h24, .ref h25, .ref h26, .ref h27, .ref h28, .int p11, .int p12, .ref h29, .ref h30, .ref h31, .ref h32, .ref h33, .ref h34, .ref h35, .ref h36, .int p13, .ref h37], ia h6 k5 8 (fun _ => 0), ia h7 k6 8 (fun _ => 0), ia h8 k7 352000 (fun _ => 0), ia h10 k9 16000 f9, ia h11 k10 32000 (fun _ => 0), ia h14 k13 155 f13, ia h15 k14 2635 f14, la h17 k16 1200000 f16, ia h18 k17 240000 f17, ia h19 k18 65536 f18, la h20 k19 5 f19, ia h21 k20 11 (fun _ => 0)] H1 := hPD.1
    replace hD : dd A [h0, h6, h7, h8, h10, h11, h14, h15, h17, h18, h19, h20, h21] := dd_of hPD.2 rfl
    clear hPD
    revert H1 locs1
    intro H locs hS hP
    refine tp_i (y := 0) hw1 ?_
    clear hw1 r_22 u
    refine tp_pc (pc' := 4) (by rfl) ?_
    refine lv_if_ne (tgt := 11) hx hb d_Ref_outcome_4 (by decide) (fun c_23 => absurd c_23 (by decide)) (fun c_23 => ?_)
    refine tp_pc (pc' := 7) (by rfl) ?_
    refine lv_sipush (v := (-1000)) hx hb d_Ref_outcome_7 (by decide) ?_
    obtain ⟨hP9, hD9, -⟩ := cut3 (wc := []) hP hD rfl hS hA [] (by decide +kernel) rfl
    have hK9 := hK.sub (tys' := []) [] rfl
    refine W.widen (k := 0) (n := 0) (by exact Nat.le_of_ble_eq_true rfl) (by exact Nat.le_of_ble_eq_true rfl) ?_
    exact W.iret (v := (-1000)) hx hb hr (fun t ht hW => ⟨⟨(-1000), (), rfl, (by first | exact (fo_0 _ _).symm | exact (fo_1 _ _).symm | exact (fo_2 _ _).symm | exact (fo_3 _ _).symm | exact (fo_o (by assumption)).symm), by rw [ht]; exact hP9, va_K.moved hW.alike hK9, hD9⟩, hS.F ht⟩) hS.2.2 d_Ref_outcome_10
