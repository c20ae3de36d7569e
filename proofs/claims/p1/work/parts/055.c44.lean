set_option maxHeartbeats 4000000 in
set_option maxRecDepth 100000 in
theorem c_Ref_find (l : Launch) (dC : Nat → ClassId) (dI : Nat → Nat → Nat) (h0 : Nat) (p2 : Int32) (h1 : Nat) (h2 : Nat) (h3 : Nat) (h4 : Nat) (h5 : Nat) (h6 : Nat) (h7 : Nat) (h8 : Nat) (h9 : Nat) (h10 : Nat) (h11 : Nat) (h12 : Nat) (p3 : Int32) (h13 : Nat) (h14 : Nat) (h15 : Nat) (h16 : Nat) (p4 : Int32) (p5 : Int32) (h17 : Nat) (h18 : Nat) (h19 : Nat) (p6 : Int32) (h20 : Nat) (p7 : Int32) (p8 : Int32) (h21 : Nat) (h22 : Nat) (h23 : Nat) (h24 : Nat) (h25 : Nat) (h26 : Nat) (h27 : Nat) (h28 : Nat) (p9 : Int32) (p10 : Int32) (h29 : Nat) (h30 : Nat) (h31 : Nat) (h32 : Nat) (h33 : Nat) (h34 : Nat) (h35 : Nat) (h36 : Nat) (p11 : Int32) (h37 : Nat) (k5 : ClassId) (k6 : ClassId) (k7 : ClassId) (f7 : Nat → Int32) (k9 : ClassId) (f9 : Nat → Int32) (k10 : ClassId) (f10 : Nat → Int32) (k13 : ClassId) (f13 : Nat → Int32) (k14 : ClassId) (f14 : Nat → Int32) (k16 : ClassId) (f16 : Nat → Int64) (k17 : ClassId) (f17 : Nat → Int32) (k18 : ClassId) (f18 : Nat → Int32) (k19 : ClassId) (f19 : Nat → Int64) (k20 : ClassId) (sz : Nat) : Met l y_Ref_find w_Ref_find ({ frames := 5, cells := 0, slots := 0, locals := 124 }) (va_Pc [.ref h0, .int 0] (fun U => U.heap.size = sz ∧ va_P (dC, dI) classes [oc h0 8 [.int 0, .int p2, .ref h1, .ref h2, .ref h3, .ref h4, .ref h5, .ref h6, .ref h7, .ref h8, .ref h9, .ref h10, .ref h11, .ref h12, .int p3, .ref h13, .ref h14, .ref h15, .ref h16, .int p4, .int p5, .ref h17, .ref h18, .ref h19, .int p6, .ref h20, .int p7, .int p8, .ref h21, .ref h22, .ref h23, .ref h24, .ref h25, .ref h26, .ref h27, .ref h28, .int p9, .int p10, .ref h29, .ref h30, .ref h31, .ref h32, .ref h33, .ref h34, .ref h35, .ref h36, .int p11, .ref h37], ia h6 k5 8 (fun _ => 0), ia h7 k6 8 (fun _ => 0), ia h8 k7 352000 f7, ia h10 k9 16000 f9, ia h11 k10 32000 f10, ia h14 k13 155 f13, ia h15 k14 2635 f14, la h17 k16 1200000 f16, ia h18 k17 240000 f17, ia h19 k18 65536 f18, la h20 k19 5 f19, ia h21 k20 11 (fun _ => 0)] U.heap ∧ va_K (dC, dI) classes [(k5, .boolean), (k6, .int), (k7, .short), (k9, .int), (k10, .int), (k13, .int), (k14, .int), (k16, .long), (k17, .int), (k18, .int), (k19, .long), (k20, .int)] U ∧ va_D (fun _ => True) [oc h0 8 [.int 0, .int p2, .ref h1, .ref h2, .ref h3, .ref h4, .ref h5, .ref h6, .ref h7, .ref h8, .ref h9, .ref h10, .ref h11, .ref h12, .int p3, .ref h13, .ref h14, .ref h15, .ref h16, .int p4, .int p5, .ref h17, .ref h18, .ref h19, .int p6, .ref h20, .int p7, .int p8, .ref h21, .ref h22, .ref h23, .ref h24, .ref h25, .ref h26, .ref h27, .ref h28, .int p9, .int p10, .ref h29, .ref h30, .ref h31, .ref h32, .ref h33, .ref h34, .ref h35, .ref h36, .int p11, .ref h37], ia h6 k5 8 (fun _ => 0), ia h7 k6 8 (fun _ => 0), ia h8 k7 352000 f7, ia h10 k9 16000 f9, ia h11 k10 32000 f10, ia h14 k13 155 f13, ia h15 k14 2635 f14, la h17 k16 1200000 f16, ia h18 k17 240000 f17, ia h19 k18 65536 f18, la h20 k19 5 f19, ia h21 k20 11 (fun _ => 0)] ∧ nw U)) (va_Qv (fun _ : Unit => True) (fun _ t => ∃ (g_2 : Nat → Int32), va_P (dC, dI) classes [oc h0 8 [.int 0, .int p2, .ref h1, .ref h2, .ref h3, .ref h4, .ref h5, .ref h6, .ref h7, .ref h8, .ref h9, .ref h10, .ref h11, .ref h12, .int p3, .ref h13, .ref h14, .ref h15, .ref h16, .int 0, .int 37, .ref h17, .ref h18, .ref h19, .int 1, .ref h20, .int 89, .int 0, .ref h21, .ref h22, .ref h23, .ref h24, .ref h25, .ref h26, .ref h27, .ref h28, .int p9, .int p10, .ref h29, .ref h30, .ref h31, .ref h32, .ref h33, .ref h34, .ref h35, .ref h36, .int p11, .ref h37], ia h6 k5 8 (upd (fun _ => 0) 0 1), ia h7 k6 8 (upd (fun _ => 0) 0 1), ia h8 k7 352000 (upd (upd (upd (upd (upd (upd (upd (upd (upd (upd (upd f7 0 0) 1 0) 2 0) 3 0) 4 0) 5 0) 6 0) 7 0) 8 0) 9 0) 10 0), ia h10 k9 16000 (upd f9 0 0), ia h11 k10 32000 (upd f10 0 0), ia h14 k13 155 (fun _ => 0), ia h15 k14 2635 g_2, la h17 k16 1200000 (vp_updL (vp_updL (vp_updL (vp_updL (vp_updL f16 0 1161999626690363392) 1 16909320) 2 0) 3 0) 4 0), ia h18 k17 240000 (upd f17 0 (-1)), ia h19 k18 65536 (upd (fun _ => (-1)) 22162 0), la h20 k19 5 (vp_updL (vp_updL (vp_updL (vp_updL (vp_updL (vp_updL (vp_updL (vp_updL (vp_updL (vp_updL (vp_updL (vp_updL (vp_updL (vp_updL (vp_updL (vp_updL (vp_updL (vp_updL (vp_updL (vp_updL (vp_updL f19 0 0) 1 0) 2 0) 3 0) 4 0) 0 0) 0 0) 0 0) 0 0) 0 262144) 0 33816576) 0 4328783872) 0 554084597760) 0 70922828775424) 0 9078122083516416) 0 1161999626690363392) 0 1161999626690363392) 1 8) 1 1032) 1 132104) 1 16909320), ia h21 k20 11 (fun _ => 0)] t.heap ∧ va_K (dC, dI) classes [] t ∧ va_D (va_A [oc h0 8 [.int 0, .int p2, .ref h1, .ref h2, .ref h3, .ref h4, .ref h5, .ref h6, .ref h7, .ref h8, .ref h9, .ref h10, .ref h11, .ref h12, .int p3, .ref h13, .ref h14, .ref h15, .ref h16, .int p4, .int p5, .ref h17, .ref h18, .ref h19, .int p6, .ref h20, .int p7, .int p8, .ref h21, .ref h22, .ref h23, .ref h24, .ref h25, .ref h26, .ref h27, .ref h28, .int p9, .int p10, .ref h29, .ref h30, .ref h31, .ref h32, .ref h33, .ref h34, .ref h35, .ref h36, .int p11, .ref h37], ia h6 k5 8 (fun _ => 0), ia h7 k6 8 (fun _ => 0), ia h8 k7 352000 f7, ia h10 k9 16000 f9, ia h11 k10 32000 f10, ia h14 k13 155 f13, ia h15 k14 2635 f14, la h17 k16 1200000 f16, ia h18 k17 240000 f17, ia h19 k18 65536 f18, la h20 k19 5 f19, ia h21 k20 11 (fun _ => 0)] sz) [oc h0 8 [.int 0, .int p2, .ref h1, .ref h2, .ref h3, .ref h4, .ref h5, .ref h6, .ref h7, .ref h8, .ref h9, .ref h10, .ref h11, .ref h12, .int p3, .ref h13, .ref h14, .ref h15, .ref h16, .int 0, .int 37, .ref h17, .ref h18, .ref h19, .int 1, .ref h20, .int 89, .int 0, .ref h21, .ref h22, .ref h23, .ref h24, .ref h25, .ref h26, .ref h27, .ref h28, .int p9, .int p10, .ref h29, .ref h30, .ref h31, .ref h32, .ref h33, .ref h34, .ref h35, .ref h36, .int p11, .ref h37], ia h6 k5 8 (upd (fun _ => 0) 0 1), ia h7 k6 8 (upd (fun _ => 0) 0 1), ia h8 k7 352000 (upd (upd (upd (upd (upd (upd (upd (upd (upd (upd (upd f7 0 0) 1 0) 2 0) 3 0) 4 0) 5 0) 6 0) 7 0) 8 0) 9 0) 10 0), ia h10 k9 16000 (upd f9 0 0), ia h11 k10 32000 (upd f10 0 0), ia h14 k13 155 (fun _ => 0), ia h15 k14 2635 g_2, la h17 k16 1200000 (vp_updL (vp_updL (vp_updL (vp_updL (vp_updL f16 0 1161999626690363392) 1 16909320) 2 0) 3 0) 4 0), ia h18 k17 240000 (upd f17 0 (-1)), ia h19 k18 65536 (upd (fun _ => (-1)) 22162 0), la h20 k19 5 (vp_updL (vp_updL (vp_updL (vp_updL (vp_updL (vp_updL (vp_updL (vp_updL (vp_updL (vp_updL (vp_updL (vp_updL (vp_updL (vp_updL (vp_updL (vp_updL (vp_updL (vp_updL (vp_updL (vp_updL (vp_updL f19 0 0) 1 0) 2 0) 3 0) 4 0) 0 0) 0 0) 0 0) 0 0) 0 262144) 0 33816576) 0 4328783872) 0 554084597760) 0 70922828775424) 0 9078122083516416) 0 1161999626690363392) 0 1161999626690363392) 1 8) 1 1032) 1 132104) 1 16909320), ia h21 k20 11 (fun _ => 0)]) (va_A [oc h0 8 [.int 0, .int p2, .ref h1, .ref h2, .ref h3, .ref h4, .ref h5, .ref h6, .ref h7, .ref h8, .ref h9, .ref h10, .ref h11, .ref h12, .int p3, .ref h13, .ref h14, .ref h15, .ref h16, .int p4, .int p5, .ref h17, .ref h18, .ref h19, .int p6, .ref h20, .int p7, .int p8, .ref h21, .ref h22, .ref h23, .ref h24, .ref h25, .ref h26, .ref h27, .ref h28, .int p9, .int p10, .ref h29, .ref h30, .ref h31, .ref h32, .ref h33, .ref h34, .ref h35, .ref h36, .int p11, .ref h37], ia h6 k5 8 (fun _ => 0), ia h7 k6 8 (fun _ => 0), ia h8 k7 352000 f7, ia h10 k9 16000 f9, ia h11 k10 32000 f10, ia h14 k13 155 f13, ia h15 k14 2635 f14, la h17 k16 1200000 f16, ia h18 k17 240000 f17, ia h19 k18 65536 f18, la h20 k19 5 f19, ia h21 k20 11 (fun _ => 0)] sz)) 0 0 (va_A [oc h0 8 [.int 0, .int p2, .ref h1, .ref h2, .ref h3, .ref h4, .ref h5, .ref h6, .ref h7, .ref h8, .ref h9, .ref h10, .ref h11, .ref h12, .int p3, .ref h13, .ref h14, .ref h15, .ref h16, .int p4, .int p5, .ref h17, .ref h18, .ref h19, .int p6, .ref h20, .int p7, .int p8, .ref h21, .ref h22, .ref h23, .ref h24, .ref h25, .ref h26, .ref h27, .ref h28, .int p9, .int p10, .ref h29, .ref h30, .ref h31, .ref h32, .ref h33, .ref h34, .ref h35, .ref h36, .int p11, .ref h37], ia h6 k5 8 (fun _ => 0), ia h7 k6 8 (fun _ => 0), ia h8 k7 352000 f7, ia h10 k9 16000 f9, ia h11 k10 32000 f10, ia h14 k13 155 f13, ia h15 k14 2635 f14, la h17 k16 1200000 f16, ia h18 k17 240000 f17, ia h19 k18 65536 f18, la h20 k19 5 f19, ia h21 k20 11 (fun _ => 0)] sz) := by
  refine Met.ofW (cc := b_Ref_find) (maxL := 2) (ret := none) (by decide) rfl ?_
  intro p e s m args below meth c s₁ B hml hv
  obtain ⟨rfl, hsz, hP, hK, hD0, hn⟩ := hv
  have hx := B.exec
  have hb := B.bytes
  have hr := B.returns
  have hw := fun w (h : w ∈ wt) => atoms_spec (ws := w_Ref_find) B.pre w (List.mem_cons_of_mem _ h)
  have hown : s.vm.findClass R_Ref = some m.cls := findClass_of_methodNamed B.named
  have hlocks := B.notSynchronized
  subst hsz
  have hD1 := hD0.self (sz := s.heap.size)
  generalize hAe : va_A [oc h0 8 [.int 0, .int p2, .ref h1, .ref h2, .ref h3, .ref h4, .ref h5, .ref h6, .ref h7, .ref h8, .ref h9, .ref h10, .ref h11, .ref h12, .int p3, .ref h13, .ref h14, .ref h15, .ref h16, .int p4, .int p5, .ref h17, .ref h18, .ref h19, .int p6, .ref h20, .int p7, .int p8, .ref h21, .ref h22, .ref h23, .ref h24, .ref h25, .ref h26, .ref h27, .ref h28, .int p9, .int p10, .ref h29, .ref h30, .ref h31, .ref h32, .ref h33, .ref h34, .ref h35, .ref h36, .int p11, .ref h37], ia h6 k5 8 (fun _ => 0), ia h7 k6 8 (fun _ => 0), ia h8 k7 352000 f7, ia h10 k9 16000 f9, ia h11 k10 32000 f10, ia h14 k13 155 f13, ia h15 k14 2635 f14, la h17 k16 1200000 f16, ia h18 k17 240000 f17, ia h19 k18 65536 f18, la h20 k19 5 f19, ia h21 k20 11 (fun _ => 0)] s.heap.size = A at hD1 ⊢
  have hA : ∀ q : Nat, s.heap.size ≤ q → A q := fun q h => by rw [← hAe]; exact Or.inr h
  have hD : dd A [h0, h6, h7, h8, h10, h11, h14, h15, h17, h18, h19, h20, h21] := dd_of hD1 rfl
  clear hAe hD0 hD1
  have hS : va_S A s.heap s.heap [] := va_S.rf
  replace hP : va_P (dC, dI) classes [oc h0 8 [.int 0, .int p2, .ref h1, .ref h2, .ref h3, .ref h4, .ref h5, .ref h6, .ref h7, .ref h8, .ref h9, .ref h10, .ref h11, .ref h12, .int p3, .ref h13, .ref h14, .ref h15, .ref h16, .int p4, .int p5, .ref h17, .ref h18, .ref h19, .int p6, .ref h20, .int p7, .int p8, .ref h21, .ref h22, .ref h23, .ref h24, .ref h25, .ref h26, .ref h27, .ref h28, .int p9, .int p10, .ref h29, .ref h30, .ref h31, .ref h32, .ref h33, .ref h34, .ref h35, .ref h36, .int p11, .ref h37], ia h6 k5 8 (fun _ => 0), ia h7 k6 8 (fun _ => 0), ia h8 k7 352000 f7, ia h10 k9 16000 f9, ia h11 k10 32000 f10, ia h14 k13 155 f13, ia h15 k14 2635 f14, la h17 k16 1200000 f16, ia h18 k17 240000 f17, ia h19 k18 65536 f18, la h20 k19 5 f19, ia h21 k20 11 (fun _ => 0)] s.heap := hP
  have hl := lv_entry ([.ref h0, .int 0]) (n := 2) (Nat.le_of_ble_eq_true rfl)
  rw [lg_entry_eq]
  generalize (lg_sl ([.ref h0, .int 0]) ++ List.replicate (2 - (lg_sl ([.ref h0, .int 0])).length) Slot.unset).toArray = ls at hl ⊢
  replace hl : lv_has ls 2 [(0, .ref h0), (1, .int 0)] := hl
  refine lv_aload_n hx hb d_Ref_find_0 rfl (lv_at hl 0 rfl) ?_
  refine va_get (D := (dC, dI)) (ci := 8) (v := .ref h6) (C := R_Ref) (T := F_Ref) (N := 48) hx hb hw i_Ref hown hK hP 0 rfl rfl 7 (by decide) (hw _ m_906) (fun _ h9 => h9) rfl d_Ref_find_1 ?_
  refine lv_iload_n hx hb d_Ref_find_4 rfl (lv_at hl 1 rfl) ?_
  refine va_zald (D := (dC, dI)) hx hb hK hP 1 0 rfl rfl (i := 0) (vp_c (by decide)) d_Ref_find_5 ?_
  refine tp_i (y := 0) (by first | rfl | decide) ?_
  refine lv_if_ne (tgt := 22) hx hb d_Ref_find_6 (by decide) (fun c_1 => absurd c_1 (by decide)) (fun c_1 => ?_)
  refine tp_pc (pc' := 9) (by rfl) ?_
  refine lv_aload_n hx hb d_Ref_find_9 rfl (lv_at hl 0 rfl) ?_
  refine lv_iload_n hx hb d_Ref_find_10 rfl (lv_at hl 1 rfl) ?_
  refine lv_iconst (v := 0) hx hb d_Ref_find_11 (by decide) ?_
  obtain ⟨hPc, hDc, hFc⟩ := cut3 (wc := [oc h0 8 [.int 0, .int p2, .ref h1, .ref h2, .ref h3, .ref h4, .ref h5, .ref h6, .ref h7, .ref h8, .ref h9, .ref h10, .ref h11, .ref h12, .int p3, .ref h13, .ref h14, .ref h15, .ref h16, .int p4, .int p5, .ref h17, .ref h18, .ref h19, .int p6, .ref h20, .int p7, .int p8, .ref h21, .ref h22, .ref h23, .ref h24, .ref h25, .ref h26, .ref h27, .ref h28, .int p9, .int p10, .ref h29, .ref h30, .ref h31, .ref h32, .ref h33, .ref h34, .ref h35, .ref h36, .int p11, .ref h37], ia h7 k6 8 (fun _ => 0), ia h8 k7 352000 f7, ia h10 k9 16000 f9, ia h11 k10 32000 f10, ia h14 k13 155 f13, ia h15 k14 2635 f14, la h17 k16 1200000 f16, ia h18 k17 240000 f17, ia h19 k18 65536 f18, la h20 k19 5 f19, ia h21 k20 11 (fun _ => 0)]) hP hD rfl hS hA [0, 2, 3, 4, 5, 6, 7, 8, 9, 10, 11, 12] (by decide +kernel) rfl
  have hKc := hK.sub (tys' := [(k6, .int), (k7, .short), (k9, .int), (k10, .int), (k13, .int), (k14, .int), (k16, .long), (k17, .int), (k18, .int), (k19, .long), (k20, .int)]) [1, 2, 3, 4, 5, 6, 7, 8, 9, 10, 11] rfl
  refine va_callv (va_runV (As := [.int 0, .int 0]) (rest := []) ⟨hx, hb, hml, hown, hw⟩ (c_Ref_search l dC dI h0 p2 h1 h2 h3 h4 h5 h6 h7 h8 h9 h10 h11 h12 p3 h13 h14 h15 h16 p4 p5 h17 h18 h19 p6 h20 p7 p8 h21 h22 h23 h24 h25 h26 h27 h28 p9 p10 h29 h30 h31 h32 h33 h34 h35 h36 p11 h37 k6 k7 f7 k9 f9 k10 f10 k13 f13 k14 f14 k16 f16 k17 f17 k18 f18 k19 f19 k20 s.heap.size) (cw_V 2 hw g_Ref_search rfl rfl rfl (hw _ m_109) (hw _ m_1073) (hw _ m_1075) (hw _ m_53) (by decide +kernel) ⟨Nat.le_of_ble_eq_true rfl, Nat.le_of_ble_eq_true rfl⟩) ⟨fun a U g mk q => by obtain ⟨q0, q1, qP, qK, qD, qN⟩ := q; exact ⟨q0, q1, qP, va_K.moved (u := U) (U := U.calling g mk a) (Vm.Alike.refl U.vm) qK, qD, nw_call qN⟩, va_recv hKc hPc (ci := 8) (q0 := 0) rfl rfl, fun U hU hW => ⟨rfl, by rw [hU], by rw [hU]; exact hPc, va_K.moved hW.alike hKc, hDc.weaken (fun _ _ _ _ => trivial), nw_warm hW hn⟩⟩ rfl rfl hl.1 rfl (lv_room (Nat.le_of_ble_eq_true rfl)) d_Ref_find_12 ⟨Nat.le_of_ble_eq_true rfl, Nat.le_of_ble_eq_true rfl⟩) hS (fun q _ h => hFc q h) hFc ?_
  intro u t H1 locs1 ht hvm hw1 hB hz1 hk1 hS1
  obtain ⟨g_2, hP1, hK1, hD1⟩ := hB
  rw [ht] at hP1
  replace hK1 := va_K.moved hvm.symm hK1
  have hPD := join3 hP hD rfl [0, 2, 3, 4, 5, 6, 7, 8, 9, 10, 11, 12] [1] rfl (by rfl) (by decide +kernel) (by decide +kernel) hk1 hFc hP1 hD1
  replace hK : va_K (dC, dI) classes [(k5, .boolean), (k6, .int), (k7, .short), (k9, .int), (k10, .int), (k13, .int), (k14, .int), (k16, .long), (k17, .int), (k18, .int), (k19, .long), (k20, .int)] s := hK.app hK1
  clear hP1 hK1 hD1 hk1 hz1 hFc hKc hDc hPc hvm ht hP hS t
  have hP : va_P (dC, dI) classes [ia h6 k5 8 (fun _ => 0), oc h0 8 [.int 0, .int p2, .ref h1, .ref h2, .ref h3, .ref h4, .ref h5, .ref h6, .ref h7, .ref h8, .ref h9, .ref h10, .ref h11, .ref h12, .int p3, .ref h13, .ref h14, .ref h15, .ref h16, .int 0, .int 37, .ref h17, .ref h18, .ref h19, .int 1, .ref h20, .int 89, .int 0, .ref h21, .ref h22, .ref h23, .ref h24, .ref h25, .ref h26, .ref h27, .ref h28, .int p9, .int p10, .ref h29, .ref h30, .ref h31, .ref h32, .ref h33, .ref h34, .ref h35, .ref h36, .int p11, .ref h37], ia h7 k6 8 (upd (fun _ => 0) 0 1), ia h8 k7 352000 (upd (upd (upd (upd (upd (upd (upd (upd (upd (upd (upd f7 0 0) 1 0) 2 0) 3 0) 4 0) 5 0) 6 0) 7 0) 8 0) 9 0) 10 0), ia h10 k9 16000 (upd f9 0 0), ia h11 k10 32000 (upd f10 0 0), ia h14 k13 155 (fun _ => 0), ia h15 k14 2635 g_2, la h17 k16 1200000 (vp_updL (vp_updL (vp_updL (vp_updL (vp_updL f16 0 1161999626690363392) 1 16909320) 2 0) 3 0) 4 0), ia h18 k17 240000 (upd f17 0 (-1)), ia h19 k18 65536 (upd (fun _ => (-1)) 22162 0), la h20 k19 5 (vp_updL (vp_updL (vp_updL (vp_updL (vp_updL (vp_updL (vp_updL (vp_updL (vp_updL (vp_updL (vp_updL (vp_updL (vp_updL (vp_updL (vp_updL (vp_updL (vp_updL (vp_updL (vp_updL (vp_updL (vp_updL f19 0 0) 1 0) 2 0) 3 0) 4 0) 0 0) 0 0) 0 0) 0 0) 0 262144) 0 33816576) 0 4328783872) 0 554084597760) 0 70922828775424) 0 9078122083516416) 0 1161999626690363392) 0 1161999626690363392) 1 8) 1 1032) 1 132104) 1 16909320), ia h21 k20 11 (fun _ => 0)] H1 := hPD.1
  replace hD : dd A [h6, h0, h7, h8, h10, h11, h14, h15, h17, h18, h19, h20, h21] := dd_of hPD.2 rfl
  clear hPD
  revert H1 locs1
  intro H locs hS hP
  clear hw1 u
  refine tp_pc (pc' := 15) (by rfl) ?_
  refine lv_aload_n hx hb d_Ref_find_15 rfl (lv_at hl 0 rfl) ?_
  refine va_get (D := (dC, dI)) (ci := 8) (v := .ref h6) (C := R_Ref) (T := F_Ref) (N := 48) hx hb hw i_Ref hown hK hP 1 rfl rfl 7 (by decide) (hw _ m_906) (fun _ h9 => h9) rfl d_Ref_find_16 ?_
  refine lv_iload_n hx hb d_Ref_find_19 rfl (lv_at hl 1 rfl) ?_
  refine lv_iconst (v := 1) hx hb d_Ref_find_20 (by decide) ?_
  refine va_zast (D := (dC, dI)) hx hb hK hP (dd_D hD rfl) hS 0 0 rfl rfl (i := 0) (x := 1) (vp_c (by decide)) d_Ref_find_21 ?_
  clear hP hS locs H
  intro H locs (hP : va_P (dC, dI) classes [ia h6 k5 8 (upd (fun _ => 0) 0 1), oc h0 8 [.int 0, .int p2, .ref h1, .ref h2, .ref h3, .ref h4, .ref h5, .ref h6, .ref h7, .ref h8, .ref h9, .ref h10, .ref h11, .ref h12, .int p3, .ref h13, .ref h14, .ref h15, .ref h16, .int 0, .int 37, .ref h17, .ref h18, .ref h19, .int 1, .ref h20, .int 89, .int 0, .ref h21, .ref h22, .ref h23, .ref h24, .ref h25, .ref h26, .ref h27, .ref h28, .int p9, .int p10, .ref h29, .ref h30, .ref h31, .ref h32, .ref h33, .ref h34, .ref h35, .ref h36, .int p11, .ref h37], ia h7 k6 8 (upd (fun _ => 0) 0 1), ia h8 k7 352000 (upd (upd (upd (upd (upd (upd (upd (upd (upd (upd (upd f7 0 0) 1 0) 2 0) 3 0) 4 0) 5 0) 6 0) 7 0) 8 0) 9 0) 10 0), ia h10 k9 16000 (upd f9 0 0), ia h11 k10 32000 (upd f10 0 0), ia h14 k13 155 (fun _ => 0), ia h15 k14 2635 g_2, la h17 k16 1200000 (vp_updL (vp_updL (vp_updL (vp_updL (vp_updL f16 0 1161999626690363392) 1 16909320) 2 0) 3 0) 4 0), ia h18 k17 240000 (upd f17 0 (-1)), ia h19 k18 65536 (upd (fun _ => (-1)) 22162 0), la h20 k19 5 (vp_updL (vp_updL (vp_updL (vp_updL (vp_updL (vp_updL (vp_updL (vp_updL (vp_updL (vp_updL (vp_updL (vp_updL (vp_updL (vp_updL (vp_updL (vp_updL (vp_updL (vp_updL (vp_updL (vp_updL (vp_updL f19 0 0) 1 0) 2 0) 3 0) 4 0) 0 0) 0 0) 0 0) 0 0) 0 262144) 0 33816576) 0 4328783872) 0 554084597760) 0 70922828775424) 0 9078122083516416) 0 1161999626690363392) 0 1161999626690363392) 1 8) 1 1032) 1 132104) 1 16909320), ia h21 k20 11 (fun _ => 0)] H) _ hS
  refine tp_pc (pc' := 22) (by rfl) ?_
  obtain ⟨hP9, hD9, -⟩ := cut3 (wc := [oc h0 8 [.int 0, .int p2, .ref h1, .ref h2, .ref h3, .ref h4, .ref h5, .ref h6, .ref h7, .ref h8, .ref h9, .ref h10, .ref h11, .ref h12, .int p3, .ref h13, .ref h14, .ref h15, .ref h16, .int 0, .int 37, .ref h17, .ref h18, .ref h19, .int 1, .ref h20, .int 89, .int 0, .ref h21, .ref h22, .ref h23, .ref h24, .ref h25, .ref h26, .ref h27, .ref h28, .int p9, .int p10, .ref h29, .ref h30, .ref h31, .ref h32, .ref h33, .ref h34, .ref h35, .ref h36, .int p11, .ref h37], ia h6 k5 8 (upd (fun _ => 0) 0 1), ia h7 k6 8 (upd (fun _ => 0) 0 1), ia h8 k7 352000 (upd (upd (upd (upd (upd (upd (upd (upd (upd (upd (upd f7 0 0) 1 0) 2 0) 3 0) 4 0) 5 0) 6 0) 7 0) 8 0) 9 0) 10 0), ia h10 k9 16000 (upd f9 0 0), ia h11 k10 32000 (upd f10 0 0), ia h14 k13 155 (fun _ => 0), ia h15 k14 2635 g_2, la h17 k16 1200000 (vp_updL (vp_updL (vp_updL (vp_updL (vp_updL f16 0 1161999626690363392) 1 16909320) 2 0) 3 0) 4 0), ia h18 k17 240000 (upd f17 0 (-1)), ia h19 k18 65536 (upd (fun _ => (-1)) 22162 0), la h20 k19 5 (vp_updL (vp_updL (vp_updL (vp_updL (vp_updL (vp_updL (vp_updL (vp_updL (vp_updL (vp_updL (vp_updL (vp_updL (vp_updL (vp_updL (vp_updL (vp_updL (vp_updL (vp_updL (vp_updL (vp_updL (vp_updL f19 0 0) 1 0) 2 0) 3 0) 4 0) 0 0) 0 0) 0 0) 0 0) 0 262144) 0 33816576) 0 4328783872) 0 554084597760) 0 70922828775424) 0 9078122083516416) 0 1161999626690363392) 0 1161999626690363392) 1 8) 1 1032) 1 132104) 1 16909320), ia h21 k20 11 (fun _ => 0)]) hP hD rfl hS hA [1, 0, 2, 3, 4, 5, 6, 7, 8, 9, 10, 11, 12] (by decide +kernel) rfl
  have hK9 := hK.sub (tys' := []) [] rfl
  refine W.widen (k := 0) (n := 0) (by exact Nat.le_of_ble_eq_true rfl) (by exact Nat.le_of_ble_eq_true rfl) ?_
  exact W.vret hx hb hr (fun t ht hW => ⟨⟨(), rfl, trivial, g_2, by rw [ht]; exact hP9, va_K.moved hW.alike hK9, hD9⟩, hS.F ht⟩) hS.2.2 d_Ref_find_22
set_option maxHeartbeats 4000000 in
set_option maxRecDepth 100000 in
theorem c_Ref_isModel_v2 (l : Launch) (dC : Nat → ClassId) (dI : Nat → Nat → Nat) (sz : Nat) : Met l y_Ref_isModel w_Ref_isModel ({ frames := 0, cells := 0, slots := 0, locals := 0 }) (va_Pc [.int 1] (fun U => U.heap.size = sz ∧ va_P (dC, dI) classes [] U.heap ∧ va_K (dC, dI) classes [] U ∧ va_D (fun _ => True) [] ∧ nw U)) (va_Qi (fun (r : Int32) (_ : Unit) => r = 1) (fun _ t => va_P (dC, dI) classes [] t.heap ∧ va_K (dC, dI) classes [] t ∧ va_D (va_A [] sz) []) (va_A [] sz)) 0 0 (va_A [] sz) := by
  refine Met.ofW (cc := b_Ref_isModel) (maxL := 1) (ret := (some .boolean)) (by decide) rfl ?_
  intro p e s m args below meth c s₁ B hml hv
  obtain ⟨rfl, hsz, hP, hK, hD0, hn⟩ := hv
  have hx := B.exec
  have hb := B.bytes
  have hr := B.returns
  have hw := fun w (h : w ∈ wt) => atoms_spec (ws := w_Ref_isModel) B.pre w (List.mem_cons_of_mem _ h)
  have hown : s.vm.findClass R_Ref = some m.cls := findClass_of_methodNamed B.named
  have hlocks := B.notSynchronized
  subst hsz
  have hD1 := hD0.self (sz := s.heap.size)
  generalize hAe : va_A [] s.heap.size = A at hD1 ⊢
  have hA : ∀ q : Nat, s.heap.size ≤ q → A q := fun q h => by rw [← hAe]; exact Or.inr h
  have hD : dd A [] := dd_of hD1 rfl
  clear hAe hD0 hD1
  have hS : va_S A s.heap s.heap [] := va_S.rf
  replace hP : va_P (dC, dI) classes [] s.heap := hP
  have hl := lv_entry ([.int 1]) (n := 1) (Nat.le_of_ble_eq_true rfl)
  rw [lg_entry_eq]
  generalize (lg_sl ([.int 1]) ++ List.replicate (1 - (lg_sl ([.int 1])).length) Slot.unset).toArray = ls at hl ⊢
  replace hl : lv_has ls 1 [(0, .int 1)] := hl
  refine lv_iload_n hx hb d_Ref_isModel_0 rfl (lv_at hl 0 rfl) ?_
  refine lv_if_lt (tgt := 13) hx hb d_Ref_isModel_1 (by decide) (fun c_1 => absurd c_1 (by decide)) (fun c_1 => ?_)
  refine tp_pc (pc' := 4) (by rfl) ?_
  refine lv_iload_n hx hb d_Ref_isModel_4 rfl (lv_at hl 0 rfl) ?_
  refine lv_iconst (v := 3) hx hb d_Ref_isModel_5 (by decide) ?_
  refine lv_icmp_gt (tgt := 13) hx hb d_Ref_isModel_6 (by decide) (fun c_2 => absurd c_2 (by decide)) (fun c_2 => ?_)
  refine tp_pc (pc' := 9) (by rfl) ?_
  refine lv_iconst (v := 1) hx hb d_Ref_isModel_9 (by decide) ?_
  refine lv_goto (tgt := 14) hx hb d_Ref_isModel_10 (by decide) ?_
  refine tp_pc (pc' := 14) (by rfl) ?_
  obtain ⟨hP9, hD9, -⟩ := cut3 (wc := []) hP hD rfl hS hA [] (by decide +kernel) rfl
  have hK9 := hK.sub (tys' := []) [] rfl
  refine W.widen (k := 0) (n := 0) (by exact Nat.le_of_ble_eq_true rfl) (by exact Nat.le_of_ble_eq_true rfl) ?_
  exact W.zret (v := 1) (ty := .boolean) hx hb hr (by decide) (fun t ht hW => ⟨⟨1, (), rfl, rfl, by rw [ht]; exact hP9, va_K.moved hW.alike hK9, hD9⟩, hS.F ht⟩) hS.2.2 d_Ref_isModel_14
set_option maxHeartbeats 4000000 in
set_option maxRecDepth 100000 in
theorem c_Ref_beginState_v2 (l : Launch) (dC : Nat → ClassId) (dI : Nat → Nat → Nat) (h0 : Nat) (p0 : Int32) (p1 : Int32) (h1 : Nat) (h2 : Nat) (h3 : Nat) (h4 : Nat) (h5 : Nat) (h6 : Nat) (h7 : Nat) (h8 : Nat) (h9 : Nat) (h10 : Nat) (h11 : Nat) (h12 : Nat) (p2 : Int32) (h13 : Nat) (h14 : Nat) (h15 : Nat) (h16 : Nat) (p4 : Int32) (h17 : Nat) (h18 : Nat) (h19 : Nat) (p5 : Int32) (h20 : Nat) (p6 : Int32) (p7 : Int32) (h21 : Nat) (h22 : Nat) (h23 : Nat) (h24 : Nat) (h25 : Nat) (h26 : Nat) (h27 : Nat) (h28 : Nat) (p8 : Int32) (p9 : Int32) (h29 : Nat) (h30 : Nat) (h31 : Nat) (h32 : Nat) (h33 : Nat) (h34 : Nat) (h35 : Nat) (h36 : Nat) (p10 : Int32) (h37 : Nat) (k13 : ClassId) (f13 : Nat → Int32) (sz : Nat) : Met l y_Ref_beginState w_Ref_beginState ({ frames := 0, cells := 0, slots := 0, locals := 0 }) (va_Pc [.ref h0] (fun U => U.heap.size = sz ∧ va_P (dC, dI) classes [oc h0 8 [.int p0, .int p1, .ref h1, .ref h2, .ref h3, .ref h4, .ref h5, .ref h6, .ref h7, .ref h8, .ref h9, .ref h10, .ref h11, .ref h12, .int p2, .ref h13, .ref h14, .ref h15, .ref h16, .int 1, .int p4, .ref h17, .ref h18, .ref h19, .int p5, .ref h20, .int p6, .int p7, .ref h21, .ref h22, .ref h23, .ref h24, .ref h25, .ref h26, .ref h27, .ref h28, .int p8, .int p9, .ref h29, .ref h30, .ref h31, .ref h32, .ref h33, .ref h34, .ref h35, .ref h36, .int p10, .ref h37], ia h14 k13 155 f13] U.heap ∧ va_K (dC, dI) classes [(k13, .int)] U ∧ va_D (fun _ => True) [oc h0 8 [.int p0, .int p1, .ref h1, .ref h2, .ref h3, .ref h4, .ref h5, .ref h6, .ref h7, .ref h8, .ref h9, .ref h10, .ref h11, .ref h12, .int p2, .ref h13, .ref h14, .ref h15, .ref h16, .int 1, .int p4, .ref h17, .ref h18, .ref h19, .int p5, .ref h20, .int p6, .int p7, .ref h21, .ref h22, .ref h23, .ref h24, .ref h25, .ref h26, .ref h27, .ref h28, .int p8, .int p9, .ref h29, .ref h30, .ref h31, .ref h32, .ref h33, .ref h34, .ref h35, .ref h36, .int p10, .ref h37], ia h14 k13 155 f13] ∧ nw U)) (va_Qv (fun _ : Unit => True) (fun _ t => va_P (dC, dI) classes [oc h0 8 [.int p0, .int p1, .ref h1, .ref h2, .ref h3, .ref h4, .ref h5, .ref h6, .ref h7, .ref h8, .ref h9, .ref h10, .ref h11, .ref h12, .int p2, .ref h13, .ref h14, .ref h15, .ref h16, .int 1, .int p4, .ref h17, .ref h18, .ref h19, .int p5, .ref h20, .int p6, .int p7, .ref h21, .ref h22, .ref h23, .ref h24, .ref h25, .ref h26, .ref h27, .ref h28, .int p8, .int p9, .ref h29, .ref h30, .ref h31, .ref h32, .ref h33, .ref h34, .ref h35, .ref h36, .int p10, .ref h37], ia h14 k13 155 (fun _ => 0)] t.heap ∧ va_K (dC, dI) classes [] t ∧ va_D (va_A [oc h0 8 [.int p0, .int p1, .ref h1, .ref h2, .ref h3, .ref h4, .ref h5, .ref h6, .ref h7, .ref h8, .ref h9, .ref h10, .ref h11, .ref h12, .int p2, .ref h13, .ref h14, .ref h15, .ref h16, .int 1, .int p4, .ref h17, .ref h18, .ref h19, .int p5, .ref h20, .int p6, .int p7, .ref h21, .ref h22, .ref h23, .ref h24, .ref h25, .ref h26, .ref h27, .ref h28, .int p8, .int p9, .ref h29, .ref h30, .ref h31, .ref h32, .ref h33, .ref h34, .ref h35, .ref h36, .int p10, .ref h37], ia h14 k13 155 f13] sz) [oc h0 8 [.int p0, .int p1, .ref h1, .ref h2, .ref h3, .ref h4, .ref h5, .ref h6, .ref h7, .ref h8, .ref h9, .ref h10, .ref h11, .ref h12, .int p2, .ref h13, .ref h14, .ref h15, .ref h16, .int 1, .int p4, .ref h17, .ref h18, .ref h19, .int p5, .ref h20, .int p6, .int p7, .ref h21, .ref h22, .ref h23, .ref h24, .ref h25, .ref h26, .ref h27, .ref h28, .int p8, .int p9, .ref h29, .ref h30, .ref h31, .ref h32, .ref h33, .ref h34, .ref h35, .ref h36, .int p10, .ref h37], ia h14 k13 155 (fun _ => 0)]) (va_A [oc h0 8 [.int p0, .int p1, .ref h1, .ref h2, .ref h3, .ref h4, .ref h5, .ref h6, .ref h7, .ref h8, .ref h9, .ref h10, .ref h11, .ref h12, .int p2, .ref h13, .ref h14, .ref h15, .ref h16, .int 1, .int p4, .ref h17, .ref h18, .ref h19, .int p5, .ref h20, .int p6, .int p7, .ref h21, .ref h22, .ref h23, .ref h24, .ref h25, .ref h26, .ref h27, .ref h28, .int p8, .int p9, .ref h29, .ref h30, .ref h31, .ref h32, .ref h33, .ref h34, .ref h35, .ref h36, .int p10, .ref h37], ia h14 k13 155 f13] sz)) 0 0 (va_A [oc h0 8 [.int p0, .int p1, .ref h1, .ref h2, .ref h3, .ref h4, .ref h5, .ref h6, .ref h7, .ref h8, .ref h9, .ref h10, .ref h11, .ref h12, .int p2, .ref h13, .ref h14, .ref h15, .ref h16, .int 1, .int p4, .ref h17, .ref h18, .ref h19, .int p5, .ref h20, .int p6, .int p7, .ref h21, .ref h22, .ref h23, .ref h24, .ref h25, .ref h26, .ref h27, .ref h28, .int p8, .int p9, .ref h29, .ref h30, .ref h31, .ref h32, .ref h33, .ref h34, .ref h35, .ref h36, .int p10, .ref h37], ia h14 k13 155 f13] sz) := by
  refine Met.ofW (cc := b_Ref_beginState) (maxL := 3) (ret := none) (by decide) rfl ?_
  intro p e s m args below meth c s₁ B hml hv
  obtain ⟨rfl, hsz, hP, hK, hD0, hn⟩ := hv
  have hx := B.exec
  have hb := B.bytes
  have hr := B.returns
  have hw := fun w (h : w ∈ wt) => atoms_spec (ws := w_Ref_beginState) B.pre w (List.mem_cons_of_mem _ h)
  have hown : s.vm.findClass R_Ref = some m.cls := findClass_of_methodNamed B.named
  have hlocks := B.notSynchronized
  subst hsz
  have hD1 := hD0.self (sz := s.heap.size)
  generalize hAe : va_A [oc h0 8 [.int p0, .int p1, .ref h1, .ref h2, .ref h3, .ref h4, .ref h5, .ref h6, .ref h7, .ref h8, .ref h9, .ref h10, .ref h11, .ref h12, .int p2, .ref h13, .ref h14, .ref h15, .ref h16, .int 1, .int p4, .ref h17, .ref h18, .ref h19, .int p5, .ref h20, .int p6, .int p7, .ref h21, .ref h22, .ref h23, .ref h24, .ref h25, .ref h26, .ref h27, .ref h28, .int p8, .int p9, .ref h29, .ref h30, .ref h31, .ref h32, .ref h33, .ref h34, .ref h35, .ref h36, .int p10, .ref h37], ia h14 k13 155 f13] s.heap.size = A at hD1 ⊢
  have hA : ∀ q : Nat, s.heap.size ≤ q → A q := fun q h => by rw [← hAe]; exact Or.inr h
  have hD : dd A [h0, h14] := dd_of hD1 rfl
  clear hAe hD0 hD1
  have hS : va_S A s.heap s.heap [] := va_S.rf
  replace hP : va_P (dC, dI) classes [oc h0 8 [.int p0, .int p1, .ref h1, .ref h2, .ref h3, .ref h4, .ref h5, .ref h6, .ref h7, .ref h8, .ref h9, .ref h10, .ref h11, .ref h12, .int p2, .ref h13, .ref h14, .ref h15, .ref h16, .int 1, .int p4, .ref h17, .ref h18, .ref h19, .int p5, .ref h20, .int p6, .int p7, .ref h21, .ref h22, .ref h23, .ref h24, .ref h25, .ref h26, .ref h27, .ref h28, .int p8, .int p9, .ref h29, .ref h30, .ref h31, .ref h32, .ref h33, .ref h34, .ref h35, .ref h36, .int p10, .ref h37], ia h14 k13 155 f13] s.heap := hP
  have hl := lv_entry ([.ref h0]) (n := 3) (Nat.le_of_ble_eq_true rfl)
  rw [lg_entry_eq]
  generalize (lg_sl ([.ref h0]) ++ List.replicate (3 - (lg_sl ([.ref h0])).length) Slot.unset).toArray = ls at hl ⊢
  replace hl : lv_has ls 3 [(0, .ref h0)] := hl
  refine lv_iconst (v := 0) hx hb d_Ref_beginState_0 (by decide) ?_
  refine lv_istore_n (lv' := [(1, .int 0), (0, .ref h0)]) hx hb d_Ref_beginState_1 rfl hl (by decide) rfl ?_
  clear hl ls
  intro ls hl
  refine lp_n 155 (fun i H locs ls => ∃ g : Nat → Int32, (∀ j, j < i → g j = 0) ∧ va_P (dC, dI) classes [oc h0 8 [.int p0, .int p1, .ref h1, .ref h2, .ref h3, .ref h4, .ref h5, .ref h6, .ref h7, .ref h8, .ref h9, .ref h10, .ref h11, .ref h12, .int p2, .ref h13, .ref h14, .ref h15, .ref h16, .int 1, .int p4, .ref h17, .ref h18, .ref h19, .int p5, .ref h20, .int p6, .int p7, .ref h21, .ref h22, .ref h23, .ref h24, .ref h25, .ref h26, .ref h27, .ref h28, .int p8, .int p9, .ref h29, .ref h30, .ref h31, .ref h32, .ref h33, .ref h34, .ref h35, .ref h36, .int p10, .ref h37], ia h14 k13 155 g] H ∧ va_S A s.heap H locs ∧ lv_has ls 3 [(1, .int (nI i)), (0, .ref h0)]) ⟨f13, fun j hj => absurd hj (Nat.not_lt_zero j), hP, hS, hl⟩ ?_ ?_
  · intro i H locs ls hi hI ih
    obtain ⟨g, hg, hP, hS, hl⟩ := hI
    refine lv_iload_n hx hb d_Ref_beginState_2 rfl (lv_at hl 0 rfl) ?_
    refine lv_sipush (v := 155) hx hb d_Ref_beginState_3 (by decide) ?_
    refine lv_icmp_ge (tgt := 22) hx hb d_Ref_beginState_6 (by decide) (fun c9 => absurd c9 (nI_ge hi (by decide))) (fun _ => ?_)
    refine lv_aload_n hx hb d_Ref_beginState_9 rfl (lv_at hl 1 rfl) ?_
    refine va_get (D := (dC, dI)) (ci := 8) (v := .ref h14) (C := R_Ref) (T := F_Ref) (N := 48) hx hb hw i_Ref hown hK hP 0 rfl rfl 16 (by decide) (hw _ m_915) (fun _ h9 => h9) rfl d_Ref_beginState_10 ?_
    refine lv_iload_n hx hb d_Ref_beginState_13 rfl (lv_at hl 0 rfl) ?_
    refine lv_iconst (v := 0) hx hb d_Ref_beginState_14 (by decide) ?_
    refine va_iast (D := (dC, dI)) hx hb hK hP (dd_D hD rfl) hS 1 0 rfl rfl (i := nI i) (x := 0) (vp_in_nI hi (by decide)) d_Ref_beginState_15 ?_
    intro H locs hP _ hS
    rw [nI_clamp (Nat.lt_trans hi (by decide))] at hP
    refine lv_iinc (v := nI (i + 1)) (lv' := [(1, .int (nI (i + 1))), (0, .ref h0)]) hx hb d_Ref_beginState_16 hl (k := 0) rfl (nI_1 i) (by decide) rfl ?_
    intro ls hl
    refine lv_goto (tgt := 2) hx hb d_Ref_beginState_19 (by decide) ?_
    exact ih _ _ _ ⟨upd g i 0, fun j hj => by by_cases e9 : j = i; (subst e9; simp [upd]); (simp [upd, e9]; exact hg j (by omega)), hP, hS, lv_sub hl [0, 1] rfl⟩
  · intro H locs ls hI
    obtain ⟨g, hg, hP, hS, hl⟩ := hI
    replace hP : va_P (dC, dI) classes [oc h0 8 [.int p0, .int p1, .ref h1, .ref h2, .ref h3, .ref h4, .ref h5, .ref h6, .ref h7, .ref h8, .ref h9, .ref h10, .ref h11, .ref h12, .int p2, .ref h13, .ref h14, .ref h15, .ref h16, .int 1, .int p4, .ref h17, .ref h18, .ref h19, .int p5, .ref h20, .int p6, .int p7, .ref h21, .ref h22, .ref h23, .ref h24, .ref h25, .ref h26, .ref h27, .ref h28, .int p8, .int p9, .ref h29, .ref h30, .ref h31, .ref h32, .ref h33, .ref h34, .ref h35, .ref h36, .int p10, .ref h37], ia h14 k13 155 (fun _ => 0)] H := P_cg 1 rfl hg hP
    replace hl : lv_has ls 3 [(1, .int 155), (0, .ref h0)] := hl
    refine lv_iload_n hx hb d_Ref_beginState_2 rfl (lv_at hl 0 rfl) ?_
    refine lv_sipush (v := 155) hx hb d_Ref_beginState_3 (by decide) ?_
    refine lv_icmp_ge (tgt := 22) hx hb d_Ref_beginState_6 (by decide) (fun c_1 => ?_) (fun c_1 => absurd c_1 (by decide))
    refine tp_pc (pc' := 22) (by rfl) ?_
    refine lv_aload_n hx hb d_Ref_beginState_22 rfl (lv_at hl 1 rfl) ?_
    refine va_get (D := (dC, dI)) (ci := 8) (v := .int 1) (C := R_Ref) (T := F_Ref) (N := 48) hx hb hw i_Ref hown hK hP 0 rfl rfl 19 (by decide) (hw _ m_918) (fun _ h9 => h9) rfl d_Ref_beginState_23 ?_
    refine lv_iconst (v := 3) hx hb d_Ref_beginState_26 (by decide) ?_
    refine lv_icmp_ne (tgt := 116) hx hb d_Ref_beginState_27 (by decide) (fun c_2 => ?_) (fun c_2 => absurd c_2 (by decide))
    refine tp_pc (pc' := 116) (by rfl) ?_
    obtain ⟨hP9, hD9, -⟩ := cut3 (wc := [oc h0 8 [.int p0, .int p1, .ref h1, .ref h2, .ref h3, .ref h4, .ref h5, .ref h6, .ref h7, .ref h8, .ref h9, .ref h10, .ref h11, .ref h12, .int p2, .ref h13, .ref h14, .ref h15, .ref h16, .int 1, .int p4, .ref h17, .ref h18, .ref h19, .int p5, .ref h20, .int p6, .int p7, .ref h21, .ref h22, .ref h23, .ref h24, .ref h25, .ref h26, .ref h27, .ref h28, .int p8, .int p9, .ref h29, .ref h30, .ref h31, .ref h32, .ref h33, .ref h34, .ref h35, .ref h36, .int p10, .ref h37], ia h14 k13 155 (fun _ => 0)]) hP hD rfl hS hA [0, 1] (by decide +kernel) rfl
    have hK9 := hK.sub (tys' := []) [] rfl
    refine W.widen (k := 0) (n := 0) (by exact Nat.le_of_ble_eq_true rfl) (by exact Nat.le_of_ble_eq_true rfl) ?_
    exact W.vret hx hb hr (fun t ht hW => ⟨⟨(), rfl, trivial, by rw [ht]; exact hP9, va_K.moved hW.alike hK9, hD9⟩, hS.F ht⟩) hS.2.2 d_Ref_beginState_116
set_option maxHeartbeats 4000000 in
set_option maxRecDepth 100000 in
theorem c_Ref_bits_v16 (l : Launch) (dC : Nat → ClassId) (dI : Nat → Nat → Nat) (h0 : Nat) (p0 : Int64) (p2 : Int32) (p3 : Int32) (h1 : Nat) (h2 : Nat) (h3 : Nat) (h4 : Nat) (h5 : Nat) (h6 : Nat) (h7 : Nat) (h8 : Nat) (h9 : Nat) (h10 : Nat) (h11 : Nat) (h12 : Nat) (p4 : Int32) (h13 : Nat) (h14 : Nat) (h15 : Nat) (h16 : Nat) (p5 : Int32) (p6 : Int32) (h17 : Nat) (h18 : Nat) (h19 : Nat) (p7 : Int32) (h20 : Nat) (p9 : Int32) (h21 : Nat) (h22 : Nat) (h23 : Nat) (h24 : Nat) (h25 : Nat) (h26 : Nat) (h27 : Nat) (h28 : Nat) (p10 : Int32) (p11 : Int32) (h29 : Nat) (h30 : Nat) (h31 : Nat) (h32 : Nat) (h33 : Nat) (h34 : Nat) (h35 : Nat) (h36 : Nat) (p12 : Int32) (h37 : Nat) (k19 : ClassId) (f19 : Nat → Int64) (sz : Nat) : Met l y_Ref_bits w_Ref_bits ({ frames := 0, cells := 0, slots := 0, locals := 0 }) (va_Pc [.ref h0, .long p0, .int 3] (fun U => U.heap.size = sz ∧ va_P (dC, dI) classes [oc h0 8 [.int p2, .int p3, .ref h1, .ref h2, .ref h3, .ref h4, .ref h5, .ref h6, .ref h7, .ref h8, .ref h9, .ref h10, .ref h11, .ref h12, .int p4, .ref h13, .ref h14, .ref h15, .ref h16, .int p5, .int p6, .ref h17, .ref h18, .ref h19, .int p7, .ref h20, .int 89, .int p9, .ref h21, .ref h22, .ref h23, .ref h24, .ref h25, .ref h26, .ref h27, .ref h28, .int p10, .int p11, .ref h29, .ref h30, .ref h31, .ref h32, .ref h33, .ref h34, .ref h35, .ref h36, .int p12, .ref h37], la h20 k19 5 f19] U.heap ∧ va_K (dC, dI) classes [(k19, .long)] U ∧ va_D (fun _ => True) [oc h0 8 [.int p2, .int p3, .ref h1, .ref h2, .ref h3, .ref h4, .ref h5, .ref h6, .ref h7, .ref h8, .ref h9, .ref h10, .ref h11, .ref h12, .int p4, .ref h13, .ref h14, .ref h15, .ref h16, .int p5, .int p6, .ref h17, .ref h18, .ref h19, .int p7, .ref h20, .int 89, .int p9, .ref h21, .ref h22, .ref h23, .ref h24, .ref h25, .ref h26, .ref h27, .ref h28, .int p10, .int p11, .ref h29, .ref h30, .ref h31, .ref h32, .ref h33, .ref h34, .ref h35, .ref h36, .int p12, .ref h37], la h20 k19 5 f19] ∧ nw U)) (va_Qv (fun _ : Unit => True) (fun _ t => va_P (dC, dI) classes [oc h0 8 [.int p2, .int p3, .ref h1, .ref h2, .ref h3, .ref h4, .ref h5, .ref h6, .ref h7, .ref h8, .ref h9, .ref h10, .ref h11, .ref h12, .int p4, .ref h13, .ref h14, .ref h15, .ref h16, .int p5, .int p6, .ref h17, .ref h18, .ref h19, .int p7, .ref h20, .int 92, .int p9, .ref h21, .ref h22, .ref h23, .ref h24, .ref h25, .ref h26, .ref h27, .ref h28, .int p10, .int p11, .ref h29, .ref h30, .ref h31, .ref h32, .ref h33, .ref h34, .ref h35, .ref h36, .int p12, .ref h37], la h20 k19 5 (vp_updL f19 1 ((f19 1) ||| (p0 <<< ((25 : Int32).toInt64 &&& 63))))] t.heap ∧ va_K (dC, dI) classes [] t ∧ va_D (va_A [oc h0 8 [.int p2, .int p3, .ref h1, .ref h2, .ref h3, .ref h4, .ref h5, .ref h6, .ref h7, .ref h8, .ref h9, .ref h10, .ref h11, .ref h12, .int p4, .ref h13, .ref h14, .ref h15, .ref h16, .int p5, .int p6, .ref h17, .ref h18, .ref h19, .int p7, .ref h20, .int 89, .int p9, .ref h21, .ref h22, .ref h23, .ref h24, .ref h25, .ref h26, .ref h27, .ref h28, .int p10, .int p11, .ref h29, .ref h30, .ref h31, .ref h32, .ref h33, .ref h34, .ref h35, .ref h36, .int p12, .ref h37], la h20 k19 5 f19] sz) [oc h0 8 [.int p2, .int p3, .ref h1, .ref h2, .ref h3, .ref h4, .ref h5, .ref h6, .ref h7, .ref h8, .ref h9, .ref h10, .ref h11, .ref h12, .int p4, .ref h13, .ref h14, .ref h15, .ref h16, .int p5, .int p6, .ref h17, .ref h18, .ref h19, .int p7, .ref h20, .int 92, .int p9, .ref h21, .ref h22, .ref h23, .ref h24, .ref h25, .ref h26, .ref h27, .ref h28, .int p10, .int p11, .ref h29, .ref h30, .ref h31, .ref h32, .ref h33, .ref h34, .ref h35, .ref h36, .int p12, .ref h37], la h20 k19 5 (vp_updL f19 1 ((f19 1) ||| (p0 <<< ((25 : Int32).toInt64 &&& 63))))]) (va_A [oc h0 8 [.int p2, .int p3, .ref h1, .ref h2, .ref h3, .ref h4, .ref h5, .ref h6, .ref h7, .ref h8, .ref h9, .ref h10, .ref h11, .ref h12, .int p4, .ref h13, .ref h14, .ref h15, .ref h16, .int p5, .int p6, .ref h17, .ref h18, .ref h19, .int p7, .ref h20, .int 89, .int p9, .ref h21, .ref h22, .ref h23, .ref h24, .ref h25, .ref h26, .ref h27, .ref h28, .int p10, .int p11, .ref h29, .ref h30, .ref h31, .ref h32, .ref h33, .ref h34, .ref h35, .ref h36, .int p12, .ref h37], la h20 k19 5 f19] sz)) 0 0 (va_A [oc h0 8 [.int p2, .int p3, .ref h1, .ref h2, .ref h3, .ref h4, .ref h5, .ref h6, .ref h7, .ref h8, .ref h9, .ref h10, .ref h11, .ref h12, .int p4, .ref h13, .ref h14, .ref h15, .ref h16, .int p5, .int p6, .ref h17, .ref h18, .ref h19, .int p7, .ref h20, .int 89, .int p9, .ref h21, .ref h22, .ref h23, .ref h24, .ref h25, .ref h26, .ref h27, .ref h28, .int p10, .int p11, .ref h29, .ref h30, .ref h31, .ref h32, .ref h33, .ref h34, .ref h35, .ref h36, .int p12, .ref h37], la h20 k19 5 f19] sz) := by
  refine Met.ofW (cc := b_Ref_bits) (maxL := 6) (ret := none) (by decide) rfl ?_
  intro p e s m args below meth c s₁ B hml hv
  obtain ⟨rfl, hsz, hP, hK, hD0, hn⟩ := hv
  have hx := B.exec
  have hb := B.bytes
  have hr := B.returns
  have hw := fun w (h : w ∈ wt) => atoms_spec (ws := w_Ref_bits) B.pre w (List.mem_cons_of_mem _ h)
  have hown : s.vm.findClass R_Ref = some m.cls := findClass_of_methodNamed B.named
  have hlocks := B.notSynchronized
  subst hsz
  have hD1 := hD0.self (sz := s.heap.size)
  generalize hAe : va_A [oc h0 8 [.int p2, .int p3, .ref h1, .ref h2, .ref h3, .ref h4, .ref h5, .ref h6, .ref h7, .ref h8, .ref h9, .ref h10, .ref h11, .ref h12, .int p4, .ref h13, .ref h14, .ref h15, .ref h16, .int p5, .int p6, .ref h17, .ref h18, .ref h19, .int p7, .ref h20, .int 89, .int p9, .ref h21, .ref h22, .ref h23, .ref h24, .ref h25, .ref h26, .ref h27, .ref h28, .int p10, .int p11, .ref h29, .ref h30, .ref h31, .ref h32, .ref h33, .ref h34, .ref h35, .ref h36, .int p12, .ref h37], la h20 k19 5 f19] s.heap.size = A at hD1 ⊢
  have hA : ∀ q : Nat, s.heap.size ≤ q → A q := fun q h => by rw [← hAe]; exact Or.inr h
  have hD : dd A [h0, h20] := dd_of hD1 rfl
  clear hAe hD0 hD1
  have hS : va_S A s.heap s.heap [] := va_S.rf
  replace hP : va_P (dC, dI) classes [oc h0 8 [.int p2, .int p3, .ref h1, .ref h2, .ref h3, .ref h4, .ref h5, .ref h6, .ref h7, .ref h8, .ref h9, .ref h10, .ref h11, .ref h12, .int p4, .ref h13, .ref h14, .ref h15, .ref h16, .int p5, .int p6, .ref h17, .ref h18, .ref h19, .int p7, .ref h20, .int 89, .int p9, .ref h21, .ref h22, .ref h23, .ref h24, .ref h25, .ref h26, .ref h27, .ref h28, .int p10, .int p11, .ref h29, .ref h30, .ref h31, .ref h32, .ref h33, .ref h34, .ref h35, .ref h36, .int p12, .ref h37], la h20 k19 5 f19] s.heap := hP
  have hl := lv_entry ([.ref h0, .long p0, .int 3]) (n := 6) (Nat.le_of_ble_eq_true rfl)
  rw [lg_entry_eq]
  generalize (lg_sl ([.ref h0, .long p0, .int 3]) ++ List.replicate (6 - (lg_sl ([.ref h0, .long p0, .int 3])).length) Slot.unset).toArray = ls at hl ⊢
  replace hl : lv_has ls 6 [(0, .ref h0), (1, .long p0), (3, .int 3)] := hl
  refine lv_aload_n hx hb d_Ref_bits_0 rfl (lv_at hl 0 rfl) ?_
  refine va_get (D := (dC, dI)) (ci := 8) (v := .int 89) (C := R_Ref) (T := F_Ref) (N := 48) hx hb hw i_Ref hown hK hP 0 rfl rfl 26 (by decide) (hw _ m_925) (fun _ h9 => h9) rfl d_Ref_bits_1 ?_
  refine lv_bipush (v := 64) hx hb d_Ref_bits_4 (by decide) ?_
  refine lv_idiv hx hb d_Ref_bits_6 (by decide) ?_
  refine tp_i (y := 1) (by first | rfl | decide) ?_
  refine lv_istore (lv' := [(4, .int 1), (0, .ref h0), (1, .long p0), (3, .int 3)]) hx hb d_Ref_bits_7 hl (by decide) rfl ?_
  clear hl ls
  intro ls hl
  refine lv_aload_n hx hb d_Ref_bits_9 rfl (lv_at hl 1 rfl) ?_
  refine va_get (D := (dC, dI)) (ci := 8) (v := .int 89) (C := R_Ref) (T := F_Ref) (N := 48) hx hb hw i_Ref hown hK hP 0 rfl rfl 26 (by decide) (hw _ m_925) (fun _ h9 => h9) rfl d_Ref_bits_10 ?_
  refine lv_bipush (v := 64) hx hb d_Ref_bits_13 (by decide) ?_
  refine lv_irem hx hb d_Ref_bits_15 (by decide) ?_
  refine tp_i (y := 25) (by first | rfl | decide) ?_
  refine lv_istore (lv' := [(5, .int 25), (4, .int 1), (0, .ref h0), (1, .long p0), (3, .int 3)]) hx hb d_Ref_bits_16 hl (by decide) rfl ?_
  clear hl ls
  intro ls hl
  refine lv_aload_n hx hb d_Ref_bits_18 rfl (lv_at hl 2 rfl) ?_
  refine va_get (D := (dC, dI)) (ci := 8) (v := .ref h20) (C := R_Ref) (T := F_Ref) (N := 48) hx hb hw i_Ref hown hK hP 0 rfl rfl 25 (by decide) (hw _ m_924) (fun _ h9 => h9) rfl d_Ref_bits_19 ?_
  refine lv_iload hx hb d_Ref_bits_22 (lv_at hl 1 rfl) ?_
  refine lv_dup2_11 hx hb d_Ref_bits_24 rfl rfl ?_
  refine va_lald (D := (dC, dI)) hx hb hK hP 1 0 rfl rfl (i := 1) (vp_c (by decide)) d_Ref_bits_25 ?_
  refine tp_l (y := f19 1) (by first | rfl | decide) ?_
  refine lv_lload_n hx hb d_Ref_bits_26 rfl (lv_at hl 3 rfl) ?_
  refine lv_iload hx hb d_Ref_bits_27 (lv_at hl 0 rfl) ?_
  refine lv_lshl (v := p0 <<< ((25 : Int32).toInt64 &&& 63)) hx hb d_Ref_bits_29 (by first | rfl | decide) ?_
  refine lv_lor hx hb d_Ref_bits_30 ?_
  refine tp_l (y := (f19 1) ||| (p0 <<< ((25 : Int32).toInt64 &&& 63))) (by first | rfl | decide) ?_
  refine va_last (D := (dC, dI)) hx hb hK hP (dd_D hD rfl) hS 1 0 rfl rfl (i := 1) (x := (f19 1) ||| (p0 <<< ((25 : Int32).toInt64 &&& 63))) (vp_c (by decide)) d_Ref_bits_31 ?_
  clear hP hS
  intro H locs (hP : va_P (dC, dI) classes [oc h0 8 [.int p2, .int p3, .ref h1, .ref h2, .ref h3, .ref h4, .ref h5, .ref h6, .ref h7, .ref h8, .ref h9, .ref h10, .ref h11, .ref h12, .int p4, .ref h13, .ref h14, .ref h15, .ref h16, .int p5, .int p6, .ref h17, .ref h18, .ref h19, .int p7, .ref h20, .int 89, .int p9, .ref h21, .ref h22, .ref h23, .ref h24, .ref h25, .ref h26, .ref h27, .ref h28, .int p10, .int p11, .ref h29, .ref h30, .ref h31, .ref h32, .ref h33, .ref h34, .ref h35, .ref h36, .int p12, .ref h37], la h20 k19 5 (vp_updL f19 1 ((f19 1) ||| (p0 <<< ((25 : Int32).toInt64 &&& 63))))] H) _ hS
  refine tp_pc (pc' := 32) (by rfl) ?_
  refine lv_iload hx hb d_Ref_bits_32 (lv_at hl 0 rfl) ?_
  refine lv_iload_n hx hb d_Ref_bits_34 rfl (lv_at hl 4 rfl) ?_
  refine lv_iadd hx hb d_Ref_bits_35 ?_
  refine tp_i (y := 28) (by first | rfl | decide) ?_
  refine lv_bipush (v := 64) hx hb d_Ref_bits_36 (by decide) ?_
  refine lv_icmp_le (tgt := 60) hx hb d_Ref_bits_38 (by decide) (fun c_1 => ?_) (fun c_1 => absurd c_1 (by decide))
  refine tp_pc (pc' := 60) (by rfl) ?_
  refine lv_aload_n hx hb d_Ref_bits_60 rfl (lv_at hl 2 rfl) ?_
  refine lv_dup hx hb d_Ref_bits_61 rfl ?_
  refine va_get (D := (dC, dI)) (ci := 8) (v := .int 89) (C := R_Ref) (T := F_Ref) (N := 48) hx hb hw i_Ref hown hK hP 0 rfl rfl 26 (by decide) (hw _ m_925) (fun _ h9 => h9) rfl d_Ref_bits_62 ?_
  refine lv_iload_n hx hb d_Ref_bits_65 rfl (lv_at hl 4 rfl) ?_
  refine lv_iadd hx hb d_Ref_bits_66 ?_
  refine tp_i (y := 92) (by first | rfl | decide) ?_
  refine va_put (D := (dC, dI)) (ci := 8) (v := .int 92) (ty := .int) (C := R_Ref) (T := F_Ref) (N := 48) hx hb hw i_Ref t_Ref t_Ref_ok n_Ref hown hK hP (dd_D hD rfl) hS 0 rfl rfl 26 (by decide) (hw _ m_925) (fun _ h9 => h9) rfl (by decide +kernel) rfl rfl (Nat.le_of_ble_eq_true rfl) d_Ref_bits_67 ?_
  clear hP hS locs H
  intro H locs (hP : va_P (dC, dI) classes [oc h0 8 [.int p2, .int p3, .ref h1, .ref h2, .ref h3, .ref h4, .ref h5, .ref h6, .ref h7, .ref h8, .ref h9, .ref h10, .ref h11, .ref h12, .int p4, .ref h13, .ref h14, .ref h15, .ref h16, .int p5, .int p6, .ref h17, .ref h18, .ref h19, .int p7, .ref h20, .int 92, .int p9, .ref h21, .ref h22, .ref h23, .ref h24, .ref h25, .ref h26, .ref h27, .ref h28, .int p10, .int p11, .ref h29, .ref h30, .ref h31, .ref h32, .ref h33, .ref h34, .ref h35, .ref h36, .int p12, .ref h37], la h20 k19 5 (vp_updL f19 1 ((f19 1) ||| (p0 <<< ((25 : Int32).toInt64 &&& 63))))] H) _ hS
  refine tp_pc (pc' := 70) (by rfl) ?_
  obtain ⟨hP9, hD9, -⟩ := cut3 (wc := [oc h0 8 [.int p2, .int p3, .ref h1, .ref h2, .ref h3, .ref h4, .ref h5, .ref h6, .ref h7, .ref h8, .ref h9, .ref h10, .ref h11, .ref h12, .int p4, .ref h13, .ref h14, .ref h15, .ref h16, .int p5, .int p6, .ref h17, .ref h18, .ref h19, .int p7, .ref h20, .int 92, .int p9, .ref h21, .ref h22, .ref h23, .ref h24, .ref h25, .ref h26, .ref h27, .ref h28, .int p10, .int p11, .ref h29, .ref h30, .ref h31, .ref h32, .ref h33, .ref h34, .ref h35, .ref h36, .int p12, .ref h37], la h20 k19 5 (vp_updL f19 1 ((f19 1) ||| (p0 <<< ((25 : Int32).toInt64 &&& 63))))]) hP hD rfl hS hA [0, 1] (by decide +kernel) rfl
  have hK9 := hK.sub (tys' := []) [] rfl
  refine W.widen (k := 0) (n := 0) (by exact Nat.le_of_ble_eq_true rfl) (by exact Nat.le_of_ble_eq_true rfl) ?_
  exact W.vret hx hb hr (fun t ht hW => ⟨⟨(), rfl, trivial, by rw [ht]; exact hP9, va_K.moved hW.alike hK9, hD9⟩, hS.F ht⟩) hS.2.2 d_Ref_bits_70
set_option maxHeartbeats 4000000 in
set_option maxRecDepth 100000 in
theorem c_Ref_bits_v17 (l : Launch) (dC : Nat → ClassId) (dI : Nat → Nat → Nat) (h0 : Nat) (p0 : Int64) (p2 : Int32) (p3 : Int32) (h1 : Nat) (h2 : Nat) (h3 : Nat) (h4 : Nat) (h5 : Nat) (h6 : Nat) (h7 : Nat) (h8 : Nat) (h9 : Nat) (h10 : Nat) (h11 : Nat) (h12 : Nat) (p4 : Int32) (h13 : Nat) (h14 : Nat) (h15 : Nat) (h16 : Nat) (p5 : Int32) (p6 : Int32) (h17 : Nat) (h18 : Nat) (h19 : Nat) (p7 : Int32) (h20 : Nat) (p9 : Int32) (h21 : Nat) (h22 : Nat) (h23 : Nat) (h24 : Nat) (h25 : Nat) (h26 : Nat) (h27 : Nat) (h28 : Nat) (p10 : Int32) (p11 : Int32) (h29 : Nat) (h30 : Nat) (h31 : Nat) (h32 : Nat) (h33 : Nat) (h34 : Nat) (h35 : Nat) (h36 : Nat) (p12 : Int32) (h37 : Nat) (k19 : ClassId) (f19 : Nat → Int64) (sz : Nat) : Met l y_Ref_bits w_Ref_bits ({ frames := 0, cells := 0, slots := 0, locals := 0 }) (va_Pc [.ref h0, .long p0, .int 3] (fun U => U.heap.size = sz ∧ va_P (dC, dI) classes [oc h0 8 [.int p2, .int p3, .ref h1, .ref h2, .ref h3, .ref h4, .ref h5, .ref h6, .ref h7, .ref h8, .ref h9, .ref h10, .ref h11, .ref h12, .int p4, .ref h13, .ref h14, .ref h15, .ref h16, .int p5, .int p6, .ref h17, .ref h18, .ref h19, .int p7, .ref h20, .int 92, .int p9, .ref h21, .ref h22, .ref h23, .ref h24, .ref h25, .ref h26, .ref h27, .ref h28, .int p10, .int p11, .ref h29, .ref h30, .ref h31, .ref h32, .ref h33, .ref h34, .ref h35, .ref h36, .int p12, .ref h37], la h20 k19 5 f19] U.heap ∧ va_K (dC, dI) classes [(k19, .long)] U ∧ va_D (fun _ => True) [oc h0 8 [.int p2, .int p3, .ref h1, .ref h2, .ref h3, .ref h4, .ref h5, .ref h6, .ref h7, .ref h8, .ref h9, .ref h10, .ref h11, .ref h12, .int p4, .ref h13, .ref h14, .ref h15, .ref h16, .int p5, .int p6, .ref h17, .ref h18, .ref h19, .int p7, .ref h20, .int 92, .int p9, .ref h21, .ref h22, .ref h23, .ref h24, .ref h25, .ref h26, .ref h27, .ref h28, .int p10, .int p11, .ref h29, .ref h30, .ref h31, .ref h32, .ref h33, .ref h34, .ref h35, .ref h36, .int p12, .ref h37], la h20 k19 5 f19] ∧ nw U)) (va_Qv (fun _ : Unit => True) (fun _ t => va_P (dC, dI) classes [oc h0 8 [.int p2, .int p3, .ref h1, .ref h2, .ref h3, .ref h4, .ref h5, .ref h6, .ref h7, .ref h8, .ref h9, .ref h10, .ref h11, .ref h12, .int p4, .ref h13, .ref h14, .ref h15, .ref h16, .int p5, .int p6, .ref h17, .ref h18, .ref h19, .int p7, .ref h20, .int 95, .int p9, .ref h21, .ref h22, .ref h23, .ref h24, .ref h25, .ref h26, .ref h27, .ref h28, .int p10, .int p11, .ref h29, .ref h30, .ref h31, .ref h32, .ref h33, .ref h34, .ref h35, .ref h36, .int p12, .ref h37], la h20 k19 5 (vp_updL f19 1 ((f19 1) ||| (p0 <<< ((28 : Int32).toInt64 &&& 63))))] t.heap ∧ va_K (dC, dI) classes [] t ∧ va_D (va_A [oc h0 8 [.int p2, .int p3, .ref h1, .ref h2, .ref h3, .ref h4, .ref h5, .ref h6, .ref h7, .ref h8, .ref h9, .ref h10, .ref h11, .ref h12, .int p4, .ref h13, .ref h14, .ref h15, .ref h16, .int p5, .int p6, .ref h17, .ref h18, .ref h19, .int p7, .ref h20, .int 92, .int p9, .ref h21, .ref h22, .ref h23, .ref h24, .ref h25, .ref h26, .ref h27, .ref h28, .int p10, .int p11, .ref h29, .ref h30, .ref h31, .ref h32, .ref h33, .ref h34, .ref h35, .ref h36, .int p12, .ref h37], la h20 k19 5 f19] sz) [oc h0 8 [.int p2, .int p3, .ref h1, .ref h2, .ref h3, .ref h4, .ref h5, .ref h6, .ref h7, .ref h8, .ref h9, .ref h10, .ref h11, .ref h12, .int p4, .ref h13, .ref h14, .ref h15, .ref h16, .int p5, .int p6, .ref h17, .ref h18, .ref h19, .int p7, .ref h20, .int 95, .int p9, .ref h21, .ref h22, .ref h23, .ref h24, .ref h25, .ref h26, .ref h27, .ref h28, .int p10, .int p11, .ref h29, .ref h30, .ref h31, .ref h32, .ref h33, .ref h34, .ref h35, .ref h36, .int p12, .ref h37], la h20 k19 5 (vp_updL f19 1 ((f19 1) ||| (p0 <<< ((28 : Int32).toInt64 &&& 63))))]) (va_A [oc h0 8 [.int p2, .int p3, .ref h1, .ref h2, .ref h3, .ref h4, .ref h5, .ref h6, .ref h7, .ref h8, .ref h9, .ref h10, .ref h11, .ref h12, .int p4, .ref h13, .ref h14, .ref h15, .ref h16, .int p5, .int p6, .ref h17, .ref h18, .ref h19, .int p7, .ref h20, .int 92, .int p9, .ref h21, .ref h22, .ref h23, .ref h24, .ref h25, .ref h26, .ref h27, .ref h28, .int p10, .int p11, .ref h29, .ref h30, .ref h31, .ref h32, .ref h33, .ref h34, .ref h35, .ref h36, .int p12, .ref h37], la h20 k19 5 f19] sz)) 0 0 (va_A [oc h0 8 [.int p2, .int p3, .ref h1, .ref h2, .ref h3, .ref h4, .ref h5, .ref h6, .ref h7, .ref h8, .ref h9, .ref h10, .ref h11, .ref h12, .int p4, .ref h13, .ref h14, .ref h15, .ref h16, .int p5, .int p6, .ref h17, .ref h18, .ref h19, .int p7, .ref h20, .int 92, .int p9, .ref h21, .ref h22, .ref h23, .ref h24, .ref h25, .ref h26, .ref h27, .ref h28, .int p10, .int p11, .ref h29, .ref h30, .ref h31, .ref h32, .ref h33, .ref h34, .ref h35, .ref h36, .int p12, .ref h37], la h20 k19 5 f19] sz) := by
  refine Met.ofW (cc := b_Ref_bits) (maxL := 6) (ret := none) (by decide) rfl ?_
  intro p e s m args below meth c s₁ B hml hv
  obtain ⟨rfl, hsz, hP, hK, hD0, hn⟩ := hv
  have hx := B.exec
  have hb := B.bytes
  have hr := B.returns
  have hw := fun w (h : w ∈ wt) => atoms_spec (ws := w_Ref_bits) B.pre w (List.mem_cons_of_mem _ h)
  have hown : s.vm.findClass R_Ref = some m.cls := findClass_of_methodNamed B.named
  have hlocks := B.notSynchronized
  subst hsz
  have hD1 := hD0.self (sz := s.heap.size)
  generalize hAe : va_A [oc h0 8 [.int p2, .int p3, .ref h1, .ref h2, .ref h3, .ref h4, .ref h5, .ref h6, .ref h7, .ref h8, .ref h9, .ref h10, .ref h11, .ref h12, .int p4, .ref h13, .ref h14, .ref h15, .ref h16, .int p5, .int p6, .ref h17, .ref h18, .ref h19, .int p7, .ref h20, .int 92, .int p9, .ref h21, .ref h22, .ref h23, .ref h24, .ref h25, .ref h26, .ref h27, .ref h28, .int p10, .int p11, .ref h29, .ref h30, .ref h31, .ref h32, .ref h33, .ref h34, .ref h35, .ref h36, .int p12, .ref h37], la h20 k19 5 f19] s.heap.size = A at hD1 ⊢
  have hA : ∀ q : Nat, s.heap.size ≤ q → A q := fun q h => by rw [← hAe]; exact Or.inr h
  have hD : dd A [h0, h20] := dd_of hD1 rfl
  clear hAe hD0 hD1
  have hS : va_S A s.heap s.heap [] := va_S.rf
  replace hP : va_P (dC, dI) classes [oc h0 8 [.int p2, .int p3, .ref h1, .ref h2, .ref h3, .ref h4, .ref h5, .ref h6, .ref h7, .ref h8, .ref h9, .ref h10, .ref h11, .ref h12, .int p4, .ref h13, .ref h14, .ref h15, .ref h16, .int p5, .int p6, .ref h17, .ref h18, .ref h19, .int p7, .ref h20, .int 92, .int p9, .ref h21, .ref h22, .ref h23, .ref h24, .ref h25, .ref h26, .ref h27, .ref h28, .int p10, .int p11, .ref h29, .ref h30, .ref h31, .ref h32, .ref h33, .ref h34, .ref h35, .ref h36, .int p12, .ref h37], la h20 k19 5 f19] s.heap := hP
  have hl := lv_entry ([.ref h0, .long p0, .int 3]) (n := 6) (Nat.le_of_ble_eq_true rfl)
  rw [lg_entry_eq]
  generalize (lg_sl ([.ref h0, .long p0, .int 3]) ++ List.replicate (6 - (lg_sl ([.ref h0, .long p0, .int 3])).length) Slot.unset).toArray = ls at hl ⊢
  replace hl : lv_has ls 6 [(0, .ref h0), (1, .long p0), (3, .int 3)] := hl
  refine lv_aload_n hx hb d_Ref_bits_0 rfl (lv_at hl 0 rfl) ?_
  refine va_get (D := (dC, dI)) (ci := 8) (v := .int 92) (C := R_Ref) (T := F_Ref) (N := 48) hx hb hw i_Ref hown hK hP 0 rfl rfl 26 (by decide) (hw _ m_925) (fun _ h9 => h9) rfl d_Ref_bits_1 ?_
  refine lv_bipush (v := 64) hx hb d_Ref_bits_4 (by decide) ?_
  refine lv_idiv hx hb d_Ref_bits_6 (by decide) ?_
  refine tp_i (y := 1) (by first | rfl | decide) ?_
  refine lv_istore (lv' := [(4, .int 1), (0, .ref h0), (1, .long p0), (3, .int 3)]) hx hb d_Ref_bits_7 hl (by decide) rfl ?_
  clear hl ls
  intro ls hl
  refine lv_aload_n hx hb d_Ref_bits_9 rfl (lv_at hl 1 rfl) ?_
  refine va_get (D := (dC, dI)) (ci := 8) (v := .int 92) (C := R_Ref) (T := F_Ref) (N := 48) hx hb hw i_Ref hown hK hP 0 rfl rfl 26 (by decide) (hw _ m_925) (fun _ h9 => h9) rfl d_Ref_bits_10 ?_
  refine lv_bipush (v := 64) hx hb d_Ref_bits_13 (by decide) ?_
  refine lv_irem hx hb d_Ref_bits_15 (by decide) ?_
  refine tp_i (y := 28) (by first | rfl | decide) ?_
  refine lv_istore (lv' := [(5, .int 28), (4, .int 1), (0, .ref h0), (1, .long p0), (3, .int 3)]) hx hb d_Ref_bits_16 hl (by decide) rfl ?_
  clear hl ls
  intro ls hl
  refine lv_aload_n hx hb d_Ref_bits_18 rfl (lv_at hl 2 rfl) ?_
  refine va_get (D := (dC, dI)) (ci := 8) (v := .ref h20) (C := R_Ref) (T := F_Ref) (N := 48) hx hb hw i_Ref hown hK hP 0 rfl rfl 25 (by decide) (hw _ m_924) (fun _ h9 => h9) rfl d_Ref_bits_19 ?_
  refine lv_iload hx hb d_Ref_bits_22 (lv_at hl 1 rfl) ?_
  refine lv_dup2_11 hx hb d_Ref_bits_24 rfl rfl ?_
  refine va_lald (D := (dC, dI)) hx hb hK hP 1 0 rfl rfl (i := 1) (vp_c (by decide)) d_Ref_bits_25 ?_
  refine tp_l (y := f19 1) (by first | rfl | decide) ?_
  refine lv_lload_n hx hb d_Ref_bits_26 rfl (lv_at hl 3 rfl) ?_
  refine lv_iload hx hb d_Ref_bits_27 (lv_at hl 0 rfl) ?_
  refine lv_lshl (v := p0 <<< ((28 : Int32).toInt64 &&& 63)) hx hb d_Ref_bits_29 (by first | rfl | decide) ?_
  refine lv_lor hx hb d_Ref_bits_30 ?_
  refine tp_l (y := (f19 1) ||| (p0 <<< ((28 : Int32).toInt64 &&& 63))) (by first | rfl | decide) ?_
  refine va_last (D := (dC, dI)) hx hb hK hP (dd_D hD rfl) hS 1 0 rfl rfl (i := 1) (x := (f19 1) ||| (p0 <<< ((28 : Int32).toInt64 &&& 63))) (vp_c (by decide)) d_Ref_bits_31 ?_
  clear hP hS
  intro H locs (hP : va_P (dC, dI) classes [oc h0 8 [.int p2, .int p3, .ref h1, .ref h2, .ref h3, .ref h4, .ref h5, .ref h6, .ref h7, .ref h8, .ref h9, .ref h10, .ref h11, .ref h12, .int p4, .ref h13, .ref h14, .ref h15, .ref h16, .int p5, .int p6, .ref h17, .ref h18, .ref h19, .int p7, .ref h20, .int 92, .int p9, .ref h21, .ref h22, .ref h23, .ref h24, .ref h25, .ref h26, .ref h27, .ref h28, .int p10, .int p11, .ref h29, .ref h30, .ref h31, .ref h32, .ref h33, .ref h34, .ref h35, .ref h36, .int p12, .ref h37], la h20 k19 5 (vp_updL f19 1 ((f19 1) ||| (p0 <<< ((28 : Int32).toInt64 &&& 63))))] H) _ hS
  refine tp_pc (pc' := 32) (by rfl) ?_
  refine lv_iload hx hb d_Ref_bits_32 (lv_at hl 0 rfl) ?_
  refine lv_iload_n hx hb d_Ref_bits_34 rfl (lv_at hl 4 rfl) ?_
  refine lv_iadd hx hb d_Ref_bits_35 ?_
  refine tp_i (y := 31) (by first | rfl | decide) ?_
  refine lv_bipush (v := 64) hx hb d_Ref_bits_36 (by decide) ?_
  refine lv_icmp_le (tgt := 60) hx hb d_Ref_bits_38 (by decide) (fun c_1 => ?_) (fun c_1 => absurd c_1 (by decide))
  refine tp_pc (pc' := 60) (by rfl) ?_
  refine lv_aload_n hx hb d_Ref_bits_60 rfl (lv_at hl 2 rfl) ?_
  refine lv_dup hx hb d_Ref_bits_61 rfl ?_
  refine va_get (D := (dC, dI)) (ci := 8) (v := .int 92) (C := R_Ref) (T := F_Ref) (N := 48) hx hb hw i_Ref hown hK hP 0 rfl rfl 26 (by decide) (hw _ m_925) (fun _ h9 => h9) rfl d_Ref_bits_62 ?_
  refine lv_iload_n hx hb d_Ref_bits_65 rfl (lv_at hl 4 rfl) ?_
  refine lv_iadd hx hb d_Ref_bits_66 ?_
  refine tp_i (y := 95) (by first | rfl | decide) ?_
  refine va_put (D := (dC, dI)) (ci := 8) (v := .int 95) (ty := .int) (C := R_Ref) (T := F_Ref) (N := 48) hx hb hw i_Ref t_Ref t_Ref_ok n_Ref hown hK hP (dd_D hD rfl) hS 0 rfl rfl 26 (by decide) (hw _ m_925) (fun _ h9 => h9) rfl (by decide +kernel) rfl rfl (Nat.le_of_ble_eq_true rfl) d_Ref_bits_67 ?_
  clear hP hS locs H
  intro H locs (hP : va_P (dC, dI) classes [oc h0 8 [.int p2, .int p3, .ref h1, .ref h2, .ref h3, .ref h4, .ref h5, .ref h6, .ref h7, .ref h8, .ref h9, .ref h10, .ref h11, .ref h12, .int p4, .ref h13, .ref h14, .ref h15, .ref h16, .int p5, .int p6, .ref h17, .ref h18, .ref h19, .int p7, .ref h20, .int 95, .int p9, .ref h21, .ref h22, .ref h23, .ref h24, .ref h25, .ref h26, .ref h27, .ref h28, .int p10, .int p11, .ref h29, .ref h30, .ref h31, .ref h32, .ref h33, .ref h34, .ref h35, .ref h36, .int p12, .ref h37], la h20 k19 5 (vp_updL f19 1 ((f19 1) ||| (p0 <<< ((28 : Int32).toInt64 &&& 63))))] H) _ hS
  refine tp_pc (pc' := 70) (by rfl) ?_
  obtain ⟨hP9, hD9, -⟩ := cut3 (wc := [oc h0 8 [.int p2, .int p3, .ref h1, .ref h2, .ref h3, .ref h4, .ref h5, .ref h6, .ref h7, .ref h8, .ref h9, .ref h10, .ref h11, .ref h12, .int p4, .ref h13, .ref h14, .ref h15, .ref h16, .int p5, .int p6, .ref h17, .ref h18, .ref h19, .int p7, .ref h20, .int 95, .int p9, .ref h21, .ref h22, .ref h23, .ref h24, .ref h25, .ref h26, .ref h27, .ref h28, .int p10, .int p11, .ref h29, .ref h30, .ref h31, .ref h32, .ref h33, .ref h34, .ref h35, .ref h36, .int p12, .ref h37], la h20 k19 5 (vp_updL f19 1 ((f19 1) ||| (p0 <<< ((28 : Int32).toInt64 &&& 63))))]) hP hD rfl hS hA [0, 1] (by decide +kernel) rfl
  have hK9 := hK.sub (tys' := []) [] rfl
  refine W.widen (k := 0) (n := 0) (by exact Nat.le_of_ble_eq_true rfl) (by exact Nat.le_of_ble_eq_true rfl) ?_
  exact W.vret hx hb hr (fun t ht hW => ⟨⟨(), rfl, trivial, by rw [ht]; exact hP9, va_K.moved hW.alike hK9, hD9⟩, hS.F ht⟩) hS.2.2 d_Ref_bits_70
set_option maxHeartbeats 4000000 in
set_option maxRecDepth 100000 in
theorem c_Ref_bits_v18 (l : Launch) (dC : Nat → ClassId) (dI : Nat → Nat → Nat) (h0 : Nat) (p0 : Int64) (p2 : Int32) (p3 : Int32) (h1 : Nat) (h2 : Nat) (h3 : Nat) (h4 : Nat) (h5 : Nat) (h6 : Nat) (h7 : Nat) (h8 : Nat) (h9 : Nat) (h10 : Nat) (h11 : Nat) (h12 : Nat) (p4 : Int32) (h13 : Nat) (h14 : Nat) (h15 : Nat) (h16 : Nat) (p5 : Int32) (p6 : Int32) (h17 : Nat) (h18 : Nat) (h19 : Nat) (p7 : Int32) (h20 : Nat) (p9 : Int32) (h21 : Nat) (h22 : Nat) (h23 : Nat) (h24 : Nat) (h25 : Nat) (h26 : Nat) (h27 : Nat) (h28 : Nat) (p10 : Int32) (p11 : Int32) (h29 : Nat) (h30 : Nat) (h31 : Nat) (h32 : Nat) (h33 : Nat) (h34 : Nat) (h35 : Nat) (h36 : Nat) (p12 : Int32) (h37 : Nat) (k19 : ClassId) (f19 : Nat → Int64) (sz : Nat) : Met l y_Ref_bits w_Ref_bits ({ frames := 0, cells := 0, slots := 0, locals := 0 }) (va_Pc [.ref h0, .long p0, .int 3] (fun U => U.heap.size = sz ∧ va_P (dC, dI) classes [oc h0 8 [.int p2, .int p3, .ref h1, .ref h2, .ref h3, .ref h4, .ref h5, .ref h6, .ref h7, .ref h8, .ref h9, .ref h10, .ref h11, .ref h12, .int p4, .ref h13, .ref h14, .ref h15, .ref h16, .int p5, .int p6, .ref h17, .ref h18, .ref h19, .int p7, .ref h20, .int 95, .int p9, .ref h21, .ref h22, .ref h23, .ref h24, .ref h25, .ref h26, .ref h27, .ref h28, .int p10, .int p11, .ref h29, .ref h30, .ref h31, .ref h32, .ref h33, .ref h34, .ref h35, .ref h36, .int p12, .ref h37], la h20 k19 5 f19] U.heap ∧ va_K (dC, dI) classes [(k19, .long)] U ∧ va_D (fun _ => True) [oc h0 8 [.int p2, .int p3, .ref h1, .ref h2, .ref h3, .ref h4, .ref h5, .ref h6, .ref h7, .ref h8, .ref h9, .ref h10, .ref h11, .ref h12, .int p4, .ref h13, .ref h14, .ref h15, .ref h16, .int p5, .int p6, .ref h17, .ref h18, .ref h19, .int p7, .ref h20, .int 95, .int p9, .ref h21, .ref h22, .ref h23, .ref h24, .ref h25, .ref h26, .ref h27, .ref h28, .int p10, .int p11, .ref h29, .ref h30, .ref h31, .ref h32, .ref h33, .ref h34, .ref h35, .ref h36, .int p12, .ref h37], la h20 k19 5 f19] ∧ nw U)) (va_Qv (fun _ : Unit => True) (fun _ t => va_P (dC, dI) classes [oc h0 8 [.int p2, .int p3, .ref h1, .ref h2, .ref h3, .ref h4, .ref h5, .ref h6, .ref h7, .ref h8, .ref h9, .ref h10, .ref h11, .ref h12, .int p4, .ref h13, .ref h14, .ref h15, .ref h16, .int p5, .int p6, .ref h17, .ref h18, .ref h19, .int p7, .ref h20, .int 98, .int p9, .ref h21, .ref h22, .ref h23, .ref h24, .ref h25, .ref h26, .ref h27, .ref h28, .int p10, .int p11, .ref h29, .ref h30, .ref h31, .ref h32, .ref h33, .ref h34, .ref h35, .ref h36, .int p12, .ref h37], la h20 k19 5 (vp_updL f19 1 ((f19 1) ||| (p0 <<< ((31 : Int32).toInt64 &&& 63))))] t.heap ∧ va_K (dC, dI) classes [] t ∧ va_D (va_A [oc h0 8 [.int p2, .int p3, .ref h1, .ref h2, .ref h3, .ref h4, .ref h5, .ref h6, .ref h7, .ref h8, .ref h9, .ref h10, .ref h11, .ref h12, .int p4, .ref h13, .ref h14, .ref h15, .ref h16, .int p5, .int p6, .ref h17, .ref h18, .ref h19, .int p7, .ref h20, .int 95, .int p9, .ref h21, .ref h22, .ref h23, .ref h24, .ref h25, .ref h26, .ref h27, .ref h28, .int p10, .int p11, .ref h29, .ref h30, .ref h31, .ref h32, .ref h33, .ref h34, .ref h35, .ref h36, .int p12, .ref h37], la h20 k19 5 f19] sz) [oc h0 8 [.int p2, .int p3, .ref h1, .ref h2, .ref h3, .ref h4, .ref h5, .ref h6, .ref h7, .ref h8, .ref h9, .ref h10, .ref h11, .ref h12, .int p4, .ref h13, .ref h14, .ref h15, .ref h16, .int p5, .int p6, .ref h17, .ref h18, .ref h19, .int p7, .ref h20, .int 98, .int p9, .ref h21, .ref h22, .ref h23, .ref h24, .ref h25, .ref h26, .ref h27, .ref h28, .int p10, .int p11, .ref h29, .ref h30, .ref h31, .ref h32, .ref h33, .ref h34, .ref h35, .ref h36, .int p12, .ref h37], la h20 k19 5 (vp_updL f19 1 ((f19 1) ||| (p0 <<< ((31 : Int32).toInt64 &&& 63))))]) (va_A [oc h0 8 [.int p2, .int p3, .ref h1, .ref h2, .ref h3, .ref h4, .ref h5, .ref h6, .ref h7, .ref h8, .ref h9, .ref h10, .ref h11, .ref h12, .int p4, .ref h13, .ref h14, .ref h15, .ref h16, .int p5, .int p6, .ref h17, .ref h18, .ref h19, .int p7, .ref h20, .int 95, .int p9, .ref h21, .ref h22, .ref h23, .ref h24, .ref h25, .ref h26, .ref h27, .ref h28, .int p10, .int p11, .ref h29, .ref h30, .ref h31, .ref h32, .ref h33, .ref h34, .ref h35, .ref h36, .int p12, .ref h37], la h20 k19 5 f19] sz)) 0 0 (va_A [oc h0 8 [.int p2, .int p3, .ref h1, .ref h2, .ref h3, .ref h4, .ref h5, .ref h6, .ref h7, .ref h8, .ref h9, .ref h10, .ref h11, .ref h12, .int p4, .ref h13, .ref h14, .ref h15, .ref h16, .int p5, .int p6, .ref h17, .ref h18, .ref h19, .int p7, .ref h20, .int 95, .int p9, .ref h21, .ref h22, .ref h23, .ref h24, .ref h25, .ref h26, .ref h27, .ref h28, .int p10, .int p11, .ref h29, .ref h30, .ref h31, .ref h32, .ref h33, .ref h34, .ref h35, .ref h36, .int p12, .ref h37], la h20 k19 5 f19] sz) := by
  refine Met.ofW (cc := b_Ref_bits) (maxL := 6) (ret := none) (by decide) rfl ?_
  intro p e s m args below meth c s₁ B hml hv
  obtain ⟨rfl, hsz, hP, hK, hD0, hn⟩ := hv
  have hx := B.exec
  have hb := B.bytes
  have hr := B.returns
  have hw := fun w (h : w ∈ wt) => atoms_spec (ws := w_Ref_bits) B.pre w (List.mem_cons_of_mem _ h)
  have hown : s.vm.findClass R_Ref = some m.cls := findClass_of_methodNamed B.named
  have hlocks := B.notSynchronized
  subst hsz
  have hD1 := hD0.self (sz := s.heap.size)
  generalize hAe : va_A [oc h0 8 [.int p2, .int p3, .ref h1, .ref h2, .ref h3, .ref h4, .ref h5, .ref h6, .ref h7, .ref h8, .ref h9, .ref h10, .ref h11, .ref h12, .int p4, .ref h13, .ref h14, .ref h15, .ref h16, .int p5, .int p6, .ref h17, .ref h18, .ref h19, .int p7, .ref h20, .int 95, .int p9, .ref h21, .ref h22, .ref h23, .ref h24, .ref h25, .ref h26, .ref h27, .ref h28, .int p10, .int p11, .ref h29, .ref h30, .ref h31, .ref h32, .ref h33, .ref h34, .ref h35, .ref h36, .int p12, .ref h37], la h20 k19 5 f19] s.heap.size = A at hD1 ⊢
  have hA : ∀ q : Nat, s.heap.size ≤ q → A q := fun q h => by rw [← hAe]; exact Or.inr h
  have hD : dd A [h0, h20] := dd_of hD1 rfl
  clear hAe hD0 hD1
  have hS : va_S A s.heap s.heap [] := va_S.rf
  replace hP : va_P (dC, dI) classes [oc h0 8 [.int p2, .int p3, .ref h1, .ref h2, .ref h3, .ref h4, .ref h5, .ref h6, .ref h7, .ref h8, .ref h9, .ref h10, .ref h11, .ref h12, .int p4, .ref h13, .ref h14, .ref h15, .ref h16, .int p5, .int p6, .ref h17, .ref h18, .ref h19, .int p7, .ref h20, .int 95, .int p9, .ref h21, .ref h22, .ref h23, .ref h24, .ref h25, .ref h26, .ref h27, .ref h28, .int p10, .int p11, .ref h29, .ref h30, .ref h31, .ref h32, .ref h33, .ref h34, .ref h35, .ref h36, .int p12, .ref h37], la h20 k19 5 f19] s.heap := hP
  have hl := lv_entry ([.ref h0, .long p0, .int 3]) (n := 6) (Nat.le_of_ble_eq_true rfl)
  rw [lg_entry_eq]
  generalize (lg_sl ([.ref h0, .long p0, .int 3]) ++ List.replicate (6 - (lg_sl ([.ref h0, .long p0, .int 3])).length) Slot.unset).toArray = ls at hl ⊢
  replace hl : lv_has ls 6 [(0, .ref h0), (1, .long p0), (3, .int 3)] := hl
  refine lv_aload_n hx hb d_Ref_bits_0 rfl (lv_at hl 0 rfl) ?_
  refine va_get (D := (dC, dI)) (ci := 8) (v := .int 95) (C := R_Ref) (T := F_Ref) (N := 48) hx hb hw i_Ref hown hK hP 0 rfl rfl 26 (by decide) (hw _ m_925) (fun _ h9 => h9) rfl d_Ref_bits_1 ?_
  refine lv_bipush (v := 64) hx hb d_Ref_bits_4 (by decide) ?_
  refine lv_idiv hx hb d_Ref_bits_6 (by decide) ?_
  refine tp_i (y := 1) (by first | rfl | decide) ?_
  refine lv_istore (lv' := [(4, .int 1), (0, .ref h0), (1, .long p0), (3, .int 3)]) hx hb d_Ref_bits_7 hl (by decide) rfl ?_
  clear hl ls
  intro ls hl
  refine lv_aload_n hx hb d_Ref_bits_9 rfl (lv_at hl 1 rfl) ?_
  refine va_get (D := (dC, dI)) (ci := 8) (v := .int 95) (C := R_Ref) (T := F_Ref) (N := 48) hx hb hw i_Ref hown hK hP 0 rfl rfl 26 (by decide) (hw _ m_925) (fun _ h9 => h9) rfl d_Ref_bits_10 ?_
  refine lv_bipush (v := 64) hx hb d_Ref_bits_13 (by decide) ?_
  refine lv_irem hx hb d_Ref_bits_15 (by decide) ?_
  refine tp_i (y := 31) (by first | rfl | decide) ?_
  refine lv_istore (lv' := [(5, .int 31), (4, .int 1), (0, .ref h0), (1, .long p0), (3, .int 3)]) hx hb d_Ref_bits_16 hl (by decide) rfl ?_
  clear hl ls
  intro ls hl
  refine lv_aload_n hx hb d_Ref_bits_18 rfl (lv_at hl 2 rfl) ?_
  refine va_get (D := (dC, dI)) (ci := 8) (v := .ref h20) (C := R_Ref) (T := F_Ref) (N := 48) hx hb hw i_Ref hown hK hP 0 rfl rfl 25 (by decide) (hw _ m_924) (fun _ h9 => h9) rfl d_Ref_bits_19 ?_
  refine lv_iload hx hb d_Ref_bits_22 (lv_at hl 1 rfl) ?_
  refine lv_dup2_11 hx hb d_Ref_bits_24 rfl rfl ?_
  refine va_lald (D := (dC, dI)) hx hb hK hP 1 0 rfl rfl (i := 1) (vp_c (by decide)) d_Ref_bits_25 ?_
  refine tp_l (y := f19 1) (by first | rfl | decide) ?_
  refine lv_lload_n hx hb d_Ref_bits_26 rfl (lv_at hl 3 rfl) ?_
  refine lv_iload hx hb d_Ref_bits_27 (lv_at hl 0 rfl) ?_
  refine lv_lshl (v := p0 <<< ((31 : Int32).toInt64 &&& 63)) hx hb d_Ref_bits_29 (by first | rfl | decide) ?_
  refine lv_lor hx hb d_Ref_bits_30 ?_
  refine tp_l (y := (f19 1) ||| (p0 <<< ((31 : Int32).toInt64 &&& 63))) (by first | rfl | decide) ?_
  refine va_last (D := (dC, dI)) hx hb hK hP (dd_D hD rfl) hS 1 0 rfl rfl (i := 1) (x := (f19 1) ||| (p0 <<< ((31 : Int32).toInt64 &&& 63))) (vp_c (by decide)) d_Ref_bits_31 ?_
  clear hP hS
  intro H locs (hP : va_P (dC, dI) classes [oc h0 8 [.int p2, .int p3, .ref h1, .ref h2, .ref h3, .ref h4, .ref h5, .ref h6, .ref h7, .ref h8, .ref h9, .ref h10, .ref h11, .ref h12, .int p4, .ref h13, .ref h14, .ref h15, .ref h16, .int p5, .int p6, .ref h17, .ref h18, .ref h19, .int p7, .ref h20, .int 95, .int p9, .ref h21, .ref h22, .ref h23, .ref h24, .ref h25, .ref h26, .ref h27, .ref h28, .int p10, .int p11, .ref h29, .ref h30, .ref h31, .ref h32, .ref h33, .ref h34, .ref h35, .ref h36, .int p12, .ref h37], la h20 k19 5 (vp_updL f19 1 ((f19 1) ||| (p0 <<< ((31 : Int32).toInt64 &&& 63))))] H) _ hS
  refine tp_pc (pc' := 32) (by rfl) ?_
  refine lv_iload hx hb d_Ref_bits_32 (lv_at hl 0 rfl) ?_
  refine lv_iload_n hx hb d_Ref_bits_34 rfl (lv_at hl 4 rfl) ?_
  refine lv_iadd hx hb d_Ref_bits_35 ?_
  refine tp_i (y := 34) (by first | rfl | decide) ?_
  refine lv_bipush (v := 64) hx hb d_Ref_bits_36 (by decide) ?_
  refine lv_icmp_le (tgt := 60) hx hb d_Ref_bits_38 (by decide) (fun c_1 => ?_) (fun c_1 => absurd c_1 (by decide))
  refine tp_pc (pc' := 60) (by rfl) ?_
  refine lv_aload_n hx hb d_Ref_bits_60 rfl (lv_at hl 2 rfl) ?_
  refine lv_dup hx hb d_Ref_bits_61 rfl ?_
  refine va_get (D := (dC, dI)) (ci := 8) (v := .int 95) (C := R_Ref) (T := F_Ref) (N := 48) hx hb hw i_Ref hown hK hP 0 rfl rfl 26 (by decide) (hw _ m_925) (fun _ h9 => h9) rfl d_Ref_bits_62 ?_
  refine lv_iload_n hx hb d_Ref_bits_65 rfl (lv_at hl 4 rfl) ?_
  refine lv_iadd hx hb d_Ref_bits_66 ?_
  refine tp_i (y := 98) (by first | rfl | decide) ?_
  refine va_put (D := (dC, dI)) (ci := 8) (v := .int 98) (ty := .int) (C := R_Ref) (T := F_Ref) (N := 48) hx hb hw i_Ref t_Ref t_Ref_ok n_Ref hown hK hP (dd_D hD rfl) hS 0 rfl rfl 26 (by decide) (hw _ m_925) (fun _ h9 => h9) rfl (by decide +kernel) rfl rfl (Nat.le_of_ble_eq_true rfl) d_Ref_bits_67 ?_
  clear hP hS locs H
  intro H locs (hP : va_P (dC, dI) classes [oc h0 8 [.int p2, .int p3, .ref h1, .ref h2, .ref h3, .ref h4, .ref h5, .ref h6, .ref h7, .ref h8, .ref h9, .ref h10, .ref h11, .ref h12, .int p4, .ref h13, .ref h14, .ref h15, .ref h16, .int p5, .int p6, .ref h17, .ref h18, .ref h19, .int p7, .ref h20, .int 98, .int p9, .ref h21, .ref h22, .ref h23, .ref h24, .ref h25, .ref h26, .ref h27, .ref h28, .int p10, .int p11, .ref h29, .ref h30, .ref h31, .ref h32, .ref h33, .ref h34, .ref h35, .ref h36, .int p12, .ref h37], la h20 k19 5 (vp_updL f19 1 ((f19 1) ||| (p0 <<< ((31 : Int32).toInt64 &&& 63))))] H) _ hS
  refine tp_pc (pc' := 70) (by rfl) ?_
  obtain ⟨hP9, hD9, -⟩ := cut3 (wc := [oc h0 8 [.int p2, .int p3, .ref h1, .ref h2, .ref h3, .ref h4, .ref h5, .ref h6, .ref h7, .ref h8, .ref h9, .ref h10, .ref h11, .ref h12, .int p4, .ref h13, .ref h14, .ref h15, .ref h16, .int p5, .int p6, .ref h17, .ref h18, .ref h19, .int p7, .ref h20, .int 98, .int p9, .ref h21, .ref h22, .ref h23, .ref h24, .ref h25, .ref h26, .ref h27, .ref h28, .int p10, .int p11, .ref h29, .ref h30, .ref h31, .ref h32, .ref h33, .ref h34, .ref h35, .ref h36, .int p12, .ref h37], la h20 k19 5 (vp_updL f19 1 ((f19 1) ||| (p0 <<< ((31 : Int32).toInt64 &&& 63))))]) hP hD rfl hS hA [0, 1] (by decide +kernel) rfl
  have hK9 := hK.sub (tys' := []) [] rfl
  refine W.widen (k := 0) (n := 0) (by exact Nat.le_of_ble_eq_true rfl) (by exact Nat.le_of_ble_eq_true rfl) ?_
  exact W.vret hx hb hr (fun t ht hW => ⟨⟨(), rfl, trivial, by rw [ht]; exact hP9, va_K.moved hW.alike hK9, hD9⟩, hS.F ht⟩) hS.2.2 d_Ref_bits_70
set_option maxHeartbeats 4000000 in
set_option maxRecDepth 100000 in
theorem c_Ref_bits_v19 (l : Launch) (dC : Nat → ClassId) (dI : Nat → Nat → Nat) (h0 : Nat) (p0 : Int64) (p2 : Int32) (p3 : Int32) (h1 : Nat) (h2 : Nat) (h3 : Nat) (h4 : Nat) (h5 : Nat) (h6 : Nat) (h7 : Nat) (h8 : Nat) (h9 : Nat) (h10 : Nat) (h11 : Nat) (h12 : Nat) (p4 : Int32) (h13 : Nat) (h14 : Nat) (h15 : Nat) (h16 : Nat) (p5 : Int32) (p6 : Int32) (h17 : Nat) (h18 : Nat) (h19 : Nat) (p7 : Int32) (h20 : Nat) (p9 : Int32) (h21 : Nat) (h22 : Nat) (h23 : Nat) (h24 : Nat) (h25 : Nat) (h26 : Nat) (h27 : Nat) (h28 : Nat) (p10 : Int32) (p11 : Int32) (h29 : Nat) (h30 : Nat) (h31 : Nat) (h32 : Nat) (h33 : Nat) (h34 : Nat) (h35 : Nat) (h36 : Nat) (p12 : Int32) (h37 : Nat) (k19 : ClassId) (f19 : Nat → Int64) (sz : Nat) : Met l y_Ref_bits w_Ref_bits ({ frames := 0, cells := 0, slots := 0, locals := 0 }) (va_Pc [.ref h0, .long p0, .int 3] (fun U => U.heap.size = sz ∧ va_P (dC, dI) classes [oc h0 8 [.int p2, .int p3, .ref h1, .ref h2, .ref h3, .ref h4, .ref h5, .ref h6, .ref h7, .ref h8, .ref h9, .ref h10, .ref h11, .ref h12, .int p4, .ref h13, .ref h14, .ref h15, .ref h16, .int p5, .int p6, .ref h17, .ref h18, .ref h19, .int p7, .ref h20, .int 98, .int p9, .ref h21, .ref h22, .ref h23, .ref h24, .ref h25, .ref h26, .ref h27, .ref h28, .int p10, .int p11, .ref h29, .ref h30, .ref h31, .ref h32, .ref h33, .ref h34, .ref h35, .ref h36, .int p12, .ref h37], la h20 k19 5 f19] U.heap ∧ va_K (dC, dI) classes [(k19, .long)] U ∧ va_D (fun _ => True) [oc h0 8 [.int p2, .int p3, .ref h1, .ref h2, .ref h3, .ref h4, .ref h5, .ref h6, .ref h7, .ref h8, .ref h9, .ref h10, .ref h11, .ref h12, .int p4, .ref h13, .ref h14, .ref h15, .ref h16, .int p5, .int p6, .ref h17, .ref h18, .ref h19, .int p7, .ref h20, .int 98, .int p9, .ref h21, .ref h22, .ref h23, .ref h24, .ref h25, .ref h26, .ref h27, .ref h28, .int p10, .int p11, .ref h29, .ref h30, .ref h31, .ref h32, .ref h33, .ref h34, .ref h35, .ref h36, .int p12, .ref h37], la h20 k19 5 f19] ∧ nw U)) (va_Qv (fun _ : Unit => True) (fun _ t => va_P (dC, dI) classes [oc h0 8 [.int p2, .int p3, .ref h1, .ref h2, .ref h3, .ref h4, .ref h5, .ref h6, .ref h7, .ref h8, .ref h9, .ref h10, .ref h11, .ref h12, .int p4, .ref h13, .ref h14, .ref h15, .ref h16, .int p5, .int p6, .ref h17, .ref h18, .ref h19, .int p7, .ref h20, .int 101, .int p9, .ref h21, .ref h22, .ref h23, .ref h24, .ref h25, .ref h26, .ref h27, .ref h28, .int p10, .int p11, .ref h29, .ref h30, .ref h31, .ref h32, .ref h33, .ref h34, .ref h35, .ref h36, .int p12, .ref h37], la h20 k19 5 (vp_updL f19 1 ((f19 1) ||| (p0 <<< ((34 : Int32).toInt64 &&& 63))))] t.heap ∧ va_K (dC, dI) classes [] t ∧ va_D (va_A [oc h0 8 [.int p2, .int p3, .ref h1, .ref h2, .ref h3, .ref h4, .ref h5, .ref h6, .ref h7, .ref h8, .ref h9, .ref h10, .ref h11, .ref h12, .int p4, .ref h13, .ref h14, .ref h15, .ref h16, .int p5, .int p6, .ref h17, .ref h18, .ref h19, .int p7, .ref h20, .int 98, .int p9, .ref h21, .ref h22, .ref h23, .ref h24, .ref h25, .ref h26, .ref h27, .ref h28, .int p10, .int p11, .ref h29, .ref h30, .ref h31, .ref h32, .ref h33, .ref h34, .ref h35, .ref h36, .int p12, .ref h37], la h20 k19 5 f19] sz) [oc h0 8 [.int p2, .int p3, .ref h1, .ref h2, .ref h3, .ref h4, .ref h5, .ref h6, .ref h7, .ref h8, .ref h9, .ref h10, .ref h11, .ref h12, .int p4, .ref h13, .ref h14, .ref h15, .ref h16, .int p5, .int p6, .ref h17, .ref h18, .ref h19, .int p7, .ref h20, .int 101, .int p9, .ref h21, .ref h22, .ref h23, .ref h24, .ref h25, .ref h26, .ref h27, .ref h28, .int p10, .int p11, .ref h29, .ref h30, .ref h31, .ref h32, .ref h33, .ref h34, .ref h35, .ref h36, .int p12, .ref h37], la h20 k19 5 (vp_updL f19 1 ((f19 1) ||| (p0 <<< ((34 : Int32).toInt64 &&& 63))))]) (va_A [oc h0 8 [.int p2, .int p3, .ref h1, .ref h2, .ref h3, .ref h4, .ref h5, .ref h6, .ref h7, .ref h8, .ref h9, .ref h10, .ref h11, .ref h12, .int p4, .ref h13, .ref h14, .ref h15, .ref h16, .int p5, .int p6, .ref h17, .ref h18, .ref h19, .int p7, .ref h20, .int 98, .int p9, .ref h21, .ref h22, .ref h23, .ref h24, .ref h25, .ref h26, .ref h27, .ref h28, .int p10, .int p11, .ref h29, .ref h30, .ref h31, .ref h32, .ref h33, .ref h34, .ref h35, .ref h36, .int p12, .ref h37], la h20 k19 5 f19] sz)) 0 0 (va_A [oc h0 8 [.int p2, .int p3, .ref h1, .ref h2, .ref h3, .ref h4, .ref h5, .ref h6, .ref h7, .ref h8, .ref h9, .ref h10, .ref h11, .ref h12, .int p4, .ref h13, .ref h14, .ref h15, .ref h16, .int p5, .int p6, .ref h17, .ref h18, .ref h19, .int p7, .ref h20, .int 98, .int p9, .ref h21, .ref h22, .ref h23, .ref h24, .ref h25, .ref h26, .ref h27, .ref h28, .int p10, .int p11, .ref h29, .ref h30, .ref h31, .ref h32, .ref h33, .ref h34, .ref h35, .ref h36, .int p12, .ref h37], la h20 k19 5 f19] sz) := by
  refine Met.ofW (cc := b_Ref_bits) (maxL := 6) (ret := none) (by decide) rfl ?_
  intro p e s m args below meth c s₁ B hml hv
  obtain ⟨rfl, hsz, hP, hK, hD0, hn⟩ := hv
  have hx := B.exec
  have hb := B.bytes
  have hr := B.returns
  have hw := fun w (h : w ∈ wt) => atoms_spec (ws := w_Ref_bits) B.pre w (List.mem_cons_of_mem _ h)
  have hown : s.vm.findClass R_Ref = some m.cls := findClass_of_methodNamed B.named
  have hlocks := B.notSynchronized
  subst hsz
  have hD1 := hD0.self (sz := s.heap.size)
  generalize hAe : va_A [oc h0 8 [.int p2, .int p3, .ref h1, .ref h2, .ref h3, .ref h4, .ref h5, .ref h6, .ref h7, .ref h8, .ref h9, .ref h10, .ref h11, .ref h12, .int p4, .ref h13, .ref h14, .ref h15, .ref h16, .int p5, .int p6, .ref h17, .ref h18, .ref h19, .int p7, .ref h20, .int 98, .int p9, .ref h21, .ref h22, .ref h23, .ref h24, .ref h25, .ref h26, .ref h27, .ref h28, .int p10, .int p11, .ref h29, .ref h30, .ref h31, .ref h32, .ref h33, .ref h34, .ref h35, .ref h36, .int p12, .ref h37], la h20 k19 5 f19] s.heap.size = A at hD1 ⊢
  have hA : ∀ q : Nat, s.heap.size ≤ q → A q := fun q h => by rw [← hAe]; exact Or.inr h
  have hD : dd A [h0, h20] := dd_of hD1 rfl
  clear hAe hD0 hD1
  have hS : va_S A s.heap s.heap [] := va_S.rf
  replace hP : va_P (dC, dI) classes [oc h0 8 [.int p2, .int p3, .ref h1, .ref h2, .ref h3, .ref h4, .ref h5, .ref h6, .ref h7, .ref h8, .ref h9, .ref h10, .ref h11, .ref h12, .int p4, .ref h13, .ref h14, .ref h15, .ref h16, .int p5, .int p6, .ref h17, .ref h18, .ref h19, .int p7, .ref h20, .int 98, .int p9, .ref h21, .ref h22, .ref h23, .ref h24, .ref h25, .ref h26, .ref h27, .ref h28, .int p10, .int p11, .ref h29, .ref h30, .ref h31, .ref h32, .ref h33, .ref h34, .ref h35, .ref h36, .int p12, .ref h37], la h20 k19 5 f19] s.heap := hP
  have hl := lv_entry ([.ref h0, .long p0, .int 3]) (n := 6) (Nat.le_of_ble_eq_true rfl)
  rw [lg_entry_eq]
  generalize (lg_sl ([.ref h0, .long p0, .int 3]) ++ List.replicate (6 - (lg_sl ([.ref h0, .long p0, .int 3])).length) Slot.unset).toArray = ls at hl ⊢
  replace hl : lv_has ls 6 [(0, .ref h0), (1, .long p0), (3, .int 3)] := hl
  refine lv_aload_n hx hb d_Ref_bits_0 rfl (lv_at hl 0 rfl) ?_
  refine va_get (D := (dC, dI)) (ci := 8) (v := .int 98) (C := R_Ref) (T := F_Ref) (N := 48) hx hb hw i_Ref hown hK hP 0 rfl rfl 26 (by decide) (hw _ m_925) (fun _ h9 => h9) rfl d_Ref_bits_1 ?_
  refine lv_bipush (v := 64) hx hb d_Ref_bits_4 (by decide) ?_
  refine lv_idiv hx hb d_Ref_bits_6 (by decide) ?_
  refine tp_i (y := 1) (by first | rfl | decide) ?_
  refine lv_istore (lv' := [(4, .int 1), (0, .ref h0), (1, .long p0), (3, .int 3)]) hx hb d_Ref_bits_7 hl (by decide) rfl ?_
  clear hl ls
  intro ls hl
  refine lv_aload_n hx hb d_Ref_bits_9 rfl (lv_at hl 1 rfl) ?_
  refine va_get (D := (dC, dI)) (ci := 8) (v := .int 98) (C := R_Ref) (T := F_Ref) (N := 48) hx hb hw i_Ref hown hK hP 0 rfl rfl 26 (by decide) (hw _ m_925) (fun _ h9 => h9) rfl d_Ref_bits_10 ?_
  refine lv_bipush (v := 64) hx hb d_Ref_bits_13 (by decide) ?_
  refine lv_irem hx hb d_Ref_bits_15 (by decide) ?_
  refine tp_i (y := 34) (by first | rfl | decide) ?_
  refine lv_istore (lv' := [(5, .int 34), (4, .int 1), (0, .ref h0), (1, .long p0), (3, .int 3)]) hx hb d_Ref_bits_16 hl (by decide) rfl ?_
  clear hl ls
  intro ls hl
  refine lv_aload_n hx hb d_Ref_bits_18 rfl (lv_at hl 2 rfl) ?_
  refine va_get (D := (dC, dI)) (ci := 8) (v := .ref h20) (C := R_Ref) (T := F_Ref) (N := 48) hx hb hw i_Ref hown hK hP 0 rfl rfl 25 (by decide) (hw _ m_924) (fun _ h9 => h9) rfl d_Ref_bits_19 ?_
  refine lv_iload hx hb d_Ref_bits_22 (lv_at hl 1 rfl) ?_
  refine lv_dup2_11 hx hb d_Ref_bits_24 rfl rfl ?_
  refine va_lald (D := (dC, dI)) hx hb hK hP 1 0 rfl rfl (i := 1) (vp_c (by decide)) d_Ref_bits_25 ?_
  refine tp_l (y := f19 1) (by first | rfl | decide) ?_
  refine lv_lload_n hx hb d_Ref_bits_26 rfl (lv_at hl 3 rfl) ?_
  refine lv_iload hx hb d_Ref_bits_27 (lv_at hl 0 rfl) ?_
  refine lv_lshl (v := p0 <<< ((34 : Int32).toInt64 &&& 63)) hx hb d_Ref_bits_29 (by first | rfl | decide) ?_
  refine lv_lor hx hb d_Ref_bits_30 ?_
  refine tp_l (y := (f19 1) ||| (p0 <<< ((34 : Int32).toInt64 &&& 63))) (by first | rfl | decide) ?_
  refine va_last (D := (dC, dI)) hx hb hK hP (dd_D hD rfl) hS 1 0 rfl rfl (i := 1) (x := (f19 1) ||| (p0 <<< ((34 : Int32).toInt64 &&& 63))) (vp_c (by decide)) d_Ref_bits_31 ?_
  clear hP hS
  intro H locs (hP : va_P (dC, dI) classes [oc h0 8 [.int p2, .int p3, .ref h1, .ref h2, .ref h3, .ref h4, .ref h5, .ref h6, .ref h7, .ref h8, .ref h9, .ref h10, .ref h11, .ref h12, .int p4, .ref h13, .ref h14, .ref h15, .ref h16, .int p5, .int p6, .ref h17, .ref h18, .ref h19, .int p7, .ref h20, .int 98, .int p9, .ref h21, .ref h22, .ref h23, .ref h24, .ref h25, .ref h26, .ref h27, .ref h28, .int p10, .int p11, .ref h29, .ref h30, .ref h31, .ref h32, .ref h33, .ref h34, .ref h35, .ref h36, .int p12, .ref h37], la h20 k19 5 (vp_updL f19 1 ((f19 1) ||| (p0 <<< ((34 : Int32).toInt64 &&& 63))))] H) _ hS
  refine tp_pc (pc' := 32) (by rfl) ?_
  refine lv_iload hx hb d_Ref_bits_32 (lv_at hl 0 rfl) ?_
  refine lv_iload_n hx hb d_Ref_bits_34 rfl (lv_at hl 4 rfl) ?_
  refine lv_iadd hx hb d_Ref_bits_35 ?_
  refine tp_i (y := 37) (by first | rfl | decide) ?_
  refine lv_bipush (v := 64) hx hb d_Ref_bits_36 (by decide) ?_
  refine lv_icmp_le (tgt := 60) hx hb d_Ref_bits_38 (by decide) (fun c_1 => ?_) (fun c_1 => absurd c_1 (by decide))
  refine tp_pc (pc' := 60) (by rfl) ?_
  refine lv_aload_n hx hb d_Ref_bits_60 rfl (lv_at hl 2 rfl) ?_
  refine lv_dup hx hb d_Ref_bits_61 rfl ?_
  refine va_get (D := (dC, dI)) (ci := 8) (v := .int 98) (C := R_Ref) (T := F_Ref) (N := 48) hx hb hw i_Ref hown hK hP 0 rfl rfl 26 (by decide) (hw _ m_925) (fun _ h9 => h9) rfl d_Ref_bits_62 ?_
  refine lv_iload_n hx hb d_Ref_bits_65 rfl (lv_at hl 4 rfl) ?_
  refine lv_iadd hx hb d_Ref_bits_66 ?_
  refine tp_i (y := 101) (by first | rfl | decide) ?_
  refine va_put (D := (dC, dI)) (ci := 8) (v := .int 101) (ty := .int) (C := R_Ref) (T := F_Ref) (N := 48) hx hb hw i_Ref t_Ref t_Ref_ok n_Ref hown hK hP (dd_D hD rfl) hS 0 rfl rfl 26 (by decide) (hw _ m_925) (fun _ h9 => h9) rfl (by decide +kernel) rfl rfl (Nat.le_of_ble_eq_true rfl) d_Ref_bits_67 ?_
  clear hP hS locs H
  intro H locs (hP : va_P (dC, dI) classes [oc h0 8 [.int p2, .int p3, .ref h1, .ref h2, .ref h3, .ref h4, .ref h5, .ref h6, .ref h7, .ref h8, .ref h9, .ref h10, .ref h11, .ref h12, .int p4, .ref h13, .ref h14, .ref h15, .ref h16, .int p5, .int p6, .ref h17, .ref h18, .ref h19, .int p7, .ref h20, .int 101, .int p9, .ref h21, .ref h22, .ref h23, .ref h24, .ref h25, .ref h26, .ref h27, .ref h28, .int p10, .int p11, .ref h29, .ref h30, .ref h31, .ref h32, .ref h33, .ref h34, .ref h35, .ref h36, .int p12, .ref h37], la h20 k19 5 (vp_updL f19 1 ((f19 1) ||| (p0 <<< ((34 : Int32).toInt64 &&& 63))))] H) _ hS
  refine tp_pc (pc' := 70) (by rfl) ?_
  obtain ⟨hP9, hD9, -⟩ := cut3 (wc := [oc h0 8 [.int p2, .int p3, .ref h1, .ref h2, .ref h3, .ref h4, .ref h5, .ref h6, .ref h7, .ref h8, .ref h9, .ref h10, .ref h11, .ref h12, .int p4, .ref h13, .ref h14, .ref h15, .ref h16, .int p5, .int p6, .ref h17, .ref h18, .ref h19, .int p7, .ref h20, .int 101, .int p9, .ref h21, .ref h22, .ref h23, .ref h24, .ref h25, .ref h26, .ref h27, .ref h28, .int p10, .int p11, .ref h29, .ref h30, .ref h31, .ref h32, .ref h33, .ref h34, .ref h35, .ref h36, .int p12, .ref h37], la h20 k19 5 (vp_updL f19 1 ((f19 1) ||| (p0 <<< ((34 : Int32).toInt64 &&& 63))))]) hP hD rfl hS hA [0, 1] (by decide +kernel) rfl
  have hK9 := hK.sub (tys' := []) [] rfl
  refine W.widen (k := 0) (n := 0) (by exact Nat.le_of_ble_eq_true rfl) (by exact Nat.le_of_ble_eq_true rfl) ?_
  exact W.vret hx hb hr (fun t ht hW => ⟨⟨(), rfl, trivial, by rw [ht]; exact hP9, va_K.moved hW.alike hK9, hD9⟩, hS.F ht⟩) hS.2.2 d_Ref_bits_70
