set_option maxHeartbeats 4000000 in
set_option maxRecDepth 100000 in
theorem c_Ref_from_v5 (l : Launch) (dC : Nat → ClassId) (dI : Nat → Nat → Nat) (h0 : Nat) (p2 : Int32) (h1 : Nat) (h2 : Nat) (h3 : Nat) (h4 : Nat) (h5 : Nat) (h6 : Nat) (h7 : Nat) (h8 : Nat) (h9 : Nat) (h10 : Nat) (h11 : Nat) (h12 : Nat) (p3 : Int32) (h13 : Nat) (h14 : Nat) (h15 : Nat) (h16 : Nat) (h17 : Nat) (h18 : Nat) (h19 : Nat) (h20 : Nat) (p7 : Int32) (h21 : Nat) (h22 : Nat) (h23 : Nat) (h24 : Nat) (h25 : Nat) (h26 : Nat) (h27 : Nat) (h28 : Nat) (p9 : Int32) (p10 : Int32) (h29 : Nat) (h30 : Nat) (h31 : Nat) (h32 : Nat) (h33 : Nat) (h34 : Nat) (h35 : Nat) (h36 : Nat) (p11 : Int32) (h37 : Nat) (k13 : ClassId) (k14 : ClassId) (f14 : Nat → Int32) (k16 : ClassId) (f16 : Nat → Int64) (k17 : ClassId) (f17 : Nat → Int32) (k18 : ClassId) (k19 : ClassId) (f19 : Nat → Int64) (sz : Nat) : Met l y_Ref_from w_Ref_from ({ frames := 3, cells := 0, slots := 0, locals := 77 }) (va_Pc [.ref h0, .int 0] (fun U => U.heap.size = sz ∧ va_P (dC, dI) classes [oc h0 8 [.int 0, .int p2, .ref h1, .ref h2, .ref h3, .ref h4, .ref h5, .ref h6, .ref h7, .ref h8, .ref h9, .ref h10, .ref h11, .ref h12, .int p3, .ref h13, .ref h14, .ref h15, .ref h16, .int 0, .int 37, .ref h17, .ref h18, .ref h19, .int 0, .ref h20, .int p7, .int 1, .ref h21, .ref h22, .ref h23, .ref h24, .ref h25, .ref h26, .ref h27, .ref h28, .int p9, .int p10, .ref h29, .ref h30, .ref h31, .ref h32, .ref h33, .ref h34, .ref h35, .ref h36, .int p11, .ref h37], ia h14 k13 155 (fun _ => 0), ia h15 k14 2635 f14, la h17 k16 1200000 f16, ia h18 k17 240000 f17, ia h19 k18 65536 (fun _ => (-1)), la h20 k19 5 f19] U.heap ∧ va_K (dC, dI) classes [(k13, .int), (k14, .int), (k16, .long), (k17, .int), (k18, .int), (k19, .long)] U ∧ va_D (fun _ => True) [oc h0 8 [.int 0, .int p2, .ref h1, .ref h2, .ref h3, .ref h4, .ref h5, .ref h6, .ref h7, .ref h8, .ref h9, .ref h10, .ref h11, .ref h12, .int p3, .ref h13, .ref h14, .ref h15, .ref h16, .int 0, .int 37, .ref h17, .ref h18, .ref h19, .int 0, .ref h20, .int p7, .int 1, .ref h21, .ref h22, .ref h23, .ref h24, .ref h25, .ref h26, .ref h27, .ref h28, .int p9, .int p10, .ref h29, .ref h30, .ref h31, .ref h32, .ref h33, .ref h34, .ref h35, .ref h36, .int p11, .ref h37], ia h14 k13 155 (fun _ => 0), ia h15 k14 2635 f14, la h17 k16 1200000 f16, ia h18 k17 240000 f17, ia h19 k18 65536 (fun _ => (-1)), la h20 k19 5 f19] ∧ nw U)) (va_Qv (fun _ : Unit => True) (fun _ t => ∃ (g_5 : Nat → Int32), va_P (dC, dI) classes [oc h0 8 [.int 0, .int p2, .ref h1, .ref h2, .ref h3, .ref h4, .ref h5, .ref h6, .ref h7, .ref h8, .ref h9, .ref h10, .ref h11, .ref h12, .int p3, .ref h13, .ref h14, .ref h15, .ref h16, .int 0, .int 37, .ref h17, .ref h18, .ref h19, .int 1, .ref h20, .int 89, .int 1, .ref h21, .ref h22, .ref h23, .ref h24, .ref h25, .ref h26, .ref h27, .ref h28, .int p9, .int p10, .ref h29, .ref h30, .ref h31, .ref h32, .ref h33, .ref h34, .ref h35, .ref h36, .int p11, .ref h37], ia h14 k13 155 (fun _ => 0), ia h15 k14 2635 g_5, la h17 k16 1200000 (vp_updL (vp_updL (vp_updL (vp_updL (vp_updL f16 0 1161999626690363392) 1 16909320) 2 0) 3 0) 4 0), ia h18 k17 240000 (upd f17 0 (-1)), ia h19 k18 65536 (upd (fun _ => (-1)) 22162 0), la h20 k19 5 (vp_updL (vp_updL (vp_updL (vp_updL (vp_updL (vp_updL (vp_updL (vp_updL (vp_updL (vp_updL (vp_updL (vp_updL (vp_updL (vp_updL (vp_updL (vp_updL (vp_updL (vp_updL (vp_updL (vp_updL (vp_updL f19 0 0) 1 0) 2 0) 3 0) 4 0) 0 0) 0 0) 0 0) 0 0) 0 262144) 0 33816576) 0 4328783872) 0 554084597760) 0 70922828775424) 0 9078122083516416) 0 1161999626690363392) 0 1161999626690363392) 1 8) 1 1032) 1 132104) 1 16909320)] t.heap ∧ va_K (dC, dI) classes [] t ∧ va_D (va_A [oc h0 8 [.int 0, .int p2, .ref h1, .ref h2, .ref h3, .ref h4, .ref h5, .ref h6, .ref h7, .ref h8, .ref h9, .ref h10, .ref h11, .ref h12, .int p3, .ref h13, .ref h14, .ref h15, .ref h16, .int 0, .int 37, .ref h17, .ref h18, .ref h19, .int 0, .ref h20, .int p7, .int 1, .ref h21, .ref h22, .ref h23, .ref h24, .ref h25, .ref h26, .ref h27, .ref h28, .int p9, .int p10, .ref h29, .ref h30, .ref h31, .ref h32, .ref h33, .ref h34, .ref h35, .ref h36, .int p11, .ref h37], ia h14 k13 155 (fun _ => 0), ia h15 k14 2635 f14, la h17 k16 1200000 f16, ia h18 k17 240000 f17, ia h19 k18 65536 (fun _ => (-1)), la h20 k19 5 f19] sz) [oc h0 8 [.int 0, .int p2, .ref h1, .ref h2, .ref h3, .ref h4, .ref h5, .ref h6, .ref h7, .ref h8, .ref h9, .ref h10, .ref h11, .ref h12, .int p3, .ref h13, .ref h14, .ref h15, .ref h16, .int 0, .int 37, .ref h17, .ref h18, .ref h19, .int 1, .ref h20, .int 89, .int 1, .ref h21, .ref h22, .ref h23, .ref h24, .ref h25, .ref h26, .ref h27, .ref h28, .int p9, .int p10, .ref h29, .ref h30, .ref h31, .ref h32, .ref h33, .ref h34, .ref h35, .ref h36, .int p11, .ref h37], ia h14 k13 155 (fun _ => 0), ia h15 k14 2635 g_5, la h17 k16 1200000 (vp_updL (vp_updL (vp_updL (vp_updL (vp_updL f16 0 1161999626690363392) 1 16909320) 2 0) 3 0) 4 0), ia h18 k17 240000 (upd f17 0 (-1)), ia h19 k18 65536 (upd (fun _ => (-1)) 22162 0), la h20 k19 5 (vp_updL (vp_updL (vp_updL (vp_updL (vp_updL (vp_updL (vp_updL (vp_updL (vp_updL (vp_updL (vp_updL (vp_updL (vp_updL (vp_updL (vp_updL (vp_updL (vp_updL (vp_updL (vp_updL (vp_updL (vp_updL f19 0 0) 1 0) 2 0) 3 0) 4 0) 0 0) 0 0) 0 0) 0 0) 0 262144) 0 33816576) 0 4328783872) 0 554084597760) 0 70922828775424) 0 9078122083516416) 0 1161999626690363392) 0 1161999626690363392) 1 8) 1 1032) 1 132104) 1 16909320)]) (va_A [oc h0 8 [.int 0, .int p2, .ref h1, .ref h2, .ref h3, .ref h4, .ref h5, .ref h6, .ref h7, .ref h8, .ref h9, .ref h10, .ref h11, .ref h12, .int p3, .ref h13, .ref h14, .ref h15, .ref h16, .int 0, .int 37, .ref h17, .ref h18, .ref h19, .int 0, .ref h20, .int p7, .int 1, .ref h21, .ref h22, .ref h23, .ref h24, .ref h25, .ref h26, .ref h27, .ref h28, .int p9, .int p10, .ref h29, .ref h30, .ref h31, .ref h32, .ref h33, .ref h34, .ref h35, .ref h36, .int p11, .ref h37], ia h14 k13 155 (fun _ => 0), ia h15 k14 2635 f14, la h17 k16 1200000 f16, ia h18 k17 240000 f17, ia h19 k18 65536 (fun _ => (-1)), la h20 k19 5 f19] sz)) 0 0 (va_A [oc h0 8 [.int 0, .int p2, .ref h1, .ref h2, .ref h3, .ref h4, .ref h5, .ref h6, .ref h7, .ref h8, .ref h9, .ref h10, .ref h11, .ref h12, .int p3, .ref h13, .ref h14, .ref h15, .ref h16, .int 0, .int 37, .ref h17, .ref h18, .ref h19, .int 0, .ref h20, .int p7, .int 1, .ref h21, .ref h22, .ref h23, .ref h24, .ref h25, .ref h26, .ref h27, .ref h28, .int p9, .int p10, .ref h29, .ref h30, .ref h31, .ref h32, .ref h33, .ref h34, .ref h35, .ref h36, .int p11, .ref h37], ia h14 k13 155 (fun _ => 0), ia h15 k14 2635 f14, la h17 k16 1200000 f16, ia h18 k17 240000 f17, ia h19 k18 65536 (fun _ => (-1)), la h20 k19 5 f19] sz) := by
  refine Met.ofW (cc := b_Ref_from) (maxL := 5) (ret := none) (by decide) rfl ?_
  intro p e s m args below meth c s₁ B hml hv
  obtain ⟨rfl, hsz, hP, hK, hD0, hn⟩ := hv
  have hx := B.exec
  have hb := B.bytes
  have hr := B.returns
  have hw := fun w (h : w ∈ wt) => atoms_spec (ws := w_Ref_from) B.pre w (List.mem_cons_of_mem _ h)
  have hown : s.vm.findClass R_Ref = some m.cls := findClass_of_methodNamed B.named
  have hlocks := B.notSynchronized
  subst hsz
  have hD1 := hD0.self (sz := s.heap.size)
  generalize hAe : va_A [oc h0 8 [.int 0, .int p2, .ref h1, .ref h2, .ref h3, .ref h4, .ref h5, .ref h6, .ref h7, .ref h8, .ref h9, .ref h10, .ref h11, .ref h12, .int p3, .ref h13, .ref h14, .ref h15, .ref h16, .int 0, .int 37, .ref h17, .ref h18, .ref h19, .int 0, .ref h20, .int p7, .int 1, .ref h21, .ref h22, .ref h23, .ref h24, .ref h25, .ref h26, .ref h27, .ref h28, .int p9, .int p10, .ref h29, .ref h30, .ref h31, .ref h32, .ref h33, .ref h34, .ref h35, .ref h36, .int p11, .ref h37], ia h14 k13 155 (fun _ => 0), ia h15 k14 2635 f14, la h17 k16 1200000 f16, ia h18 k17 240000 f17, ia h19 k18 65536 (fun _ => (-1)), la h20 k19 5 f19] s.heap.size = A at hD1 ⊢
  have hA : ∀ q : Nat, s.heap.size ≤ q → A q := fun q h => by rw [← hAe]; exact Or.inr h
  have hD : dd A [h0, h14, h15, h17, h18, h19, h20] := dd_of hD1 rfl
  clear hAe hD0 hD1
  have hS : va_S A s.heap s.heap [] := va_S.rf
  replace hP : va_P (dC, dI) classes [oc h0 8 [.int 0, .int p2, .ref h1, .ref h2, .ref h3, .ref h4, .ref h5, .ref h6, .ref h7, .ref h8, .ref h9, .ref h10, .ref h11, .ref h12, .int p3, .ref h13, .ref h14, .ref h15, .ref h16, .int 0, .int 37, .ref h17, .ref h18, .ref h19, .int 0, .ref h20, .int p7, .int 1, .ref h21, .ref h22, .ref h23, .ref h24, .ref h25, .ref h26, .ref h27, .ref h28, .int p9, .int p10, .ref h29, .ref h30, .ref h31, .ref h32, .ref h33, .ref h34, .ref h35, .ref h36, .int p11, .ref h37], ia h14 k13 155 (fun _ => 0), ia h15 k14 2635 f14, la h17 k16 1200000 f16, ia h18 k17 240000 f17, ia h19 k18 65536 (fun _ => (-1)), la h20 k19 5 f19] s.heap := hP
  have hl := lv_entry ([.ref h0, .int 0]) (n := 5) (Nat.le_of_ble_eq_true rfl)
  rw [lg_entry_eq]
  generalize (lg_sl ([.ref h0, .int 0]) ++ List.replicate (5 - (lg_sl ([.ref h0, .int 0])).length) Slot.unset).toArray = ls at hl ⊢
  replace hl : lv_has ls 5 [(0, .ref h0), (1, .int 0)] := hl
  refine lv_aload_n hx hb d_Ref_from_0 rfl (lv_at hl 0 rfl) ?_
  obtain ⟨hPc, hDc, hFc⟩ := cut3 (wc := [oc h0 8 [.int 0, .int p2, .ref h1, .ref h2, .ref h3, .ref h4, .ref h5, .ref h6, .ref h7, .ref h8, .ref h9, .ref h10, .ref h11, .ref h12, .int p3, .ref h13, .ref h14, .ref h15, .ref h16, .int 0, .int 37, .ref h17, .ref h18, .ref h19, .int 0, .ref h20, .int p7, .int 1, .ref h21, .ref h22, .ref h23, .ref h24, .ref h25, .ref h26, .ref h27, .ref h28, .int p9, .int p10, .ref h29, .ref h30, .ref h31, .ref h32, .ref h33, .ref h34, .ref h35, .ref h36, .int p11, .ref h37], ia h14 k13 155 (fun _ => 0), la h17 k16 1200000 f16, ia h18 k17 240000 f17, ia h19 k18 65536 (fun _ => (-1)), la h20 k19 5 f19]) hP hD rfl hS hA [0, 1, 3, 4, 5, 6] (by decide +kernel) rfl
  have hKc := hK.sub (tys' := [(k13, .int), (k16, .long), (k17, .int), (k18, .int), (k19, .long)]) [0, 2, 3, 4, 5] rfl
  refine va_calli (va_runV (As := []) (rest := []) ⟨hx, hb, hml, hown, hw⟩ (c_Ref_wasMet l dC dI h0 0 p2 h1 h2 h3 h4 h5 h6 h7 h8 h9 h10 h11 h12 p3 h13 h14 h15 h16 37 h17 h18 h19 h20 p7 1 h21 h22 h23 h24 h25 h26 h27 h28 p9 p10 h29 h30 h31 h32 h33 h34 h35 h36 p11 h37 k13 k16 f16 k17 f17 k18 k19 f19 s.heap.size) (cw_V 0 hw g_Ref_wasMet rfl rfl rfl (hw _ m_109) (hw _ m_1085) (hw _ m_1087) (hw _ m_56) (by decide +kernel) ⟨Nat.le_of_ble_eq_true rfl, Nat.le_of_ble_eq_true rfl⟩) ⟨fun a U g mk q => by obtain ⟨q0, q1, qP, qK, qD, qN⟩ := q; exact ⟨q0, q1, qP, va_K.moved (u := U) (U := U.calling g mk a) (Vm.Alike.refl U.vm) qK, qD, nw_call qN⟩, va_recv hKc hPc (ci := 8) (q0 := 0) rfl rfl, fun U hU hW => ⟨rfl, by rw [hU], by rw [hU]; exact hPc, va_K.moved hW.alike hKc, hDc.weaken (fun _ _ _ _ => trivial), nw_warm hW hn⟩⟩ rfl rfl hl.1 rfl (lv_room (Nat.le_of_ble_eq_true rfl)) d_Ref_from_1 ⟨Nat.le_of_ble_eq_true rfl, Nat.le_of_ble_eq_true rfl⟩) hS (fun q _ h => hFc q h) hFc ?_
  intro r_1 u t H1 locs1 ht hvm hw1 hB hz1 hk1 hS1
  obtain ⟨hP1, hK1, hD1⟩ := hB
  rw [ht] at hP1
  replace hK1 := va_K.moved hvm.symm hK1
  have hPD := join3 hP hD rfl [0, 1, 3, 4, 5, 6] [2] rfl (by rfl) (by decide +kernel) (by decide +kernel) hk1 hFc hP1 hD1
  replace hK : va_K (dC, dI) classes [(k13, .int), (k14, .int), (k16, .long), (k17, .int), (k18, .int), (k19, .long)] s := hK.app hK1
  clear hP1 hK1 hD1 hk1 hz1 hFc hKc hDc hPc hvm ht hP hS t
  have hP : va_P (dC, dI) classes [ia h15 k14 2635 f14, oc h0 8 [.int 0, .int p2, .ref h1, .ref h2, .ref h3, .ref h4, .ref h5, .ref h6, .ref h7, .ref h8, .ref h9, .ref h10, .ref h11, .ref h12, .int p3, .ref h13, .ref h14, .ref h15, .ref h16, .int 0, .int 37, .ref h17, .ref h18, .ref h19, .int 1, .ref h20, .int 89, .int 1, .ref h21, .ref h22, .ref h23, .ref h24, .ref h25, .ref h26, .ref h27, .ref h28, .int p9, .int p10, .ref h29, .ref h30, .ref h31, .ref h32, .ref h33, .ref h34, .ref h35, .ref h36, .int p11, .ref h37], ia h14 k13 155 (fun _ => 0), la h17 k16 1200000 (vp_updL (vp_updL (vp_updL (vp_updL (vp_updL f16 0 1161999626690363392) 1 16909320) 2 0) 3 0) 4 0), ia h18 k17 240000 (upd f17 0 (-1)), ia h19 k18 65536 (upd (fun _ => (-1)) 22162 0), la h20 k19 5 (vp_updL (vp_updL (vp_updL (vp_updL (vp_updL (vp_updL (vp_updL (vp_updL (vp_updL (vp_updL (vp_updL (vp_updL (vp_updL (vp_updL (vp_updL (vp_updL (vp_updL (vp_updL (vp_updL (vp_updL (vp_updL f19 0 0) 1 0) 2 0) 3 0) 4 0) 0 0) 0 0) 0 0) 0 0) 0 262144) 0 33816576) 0 4328783872) 0 554084597760) 0 70922828775424) 0 9078122083516416) 0 1161999626690363392) 0 1161999626690363392) 1 8) 1 1032) 1 132104) 1 16909320)] H1 := hPD.1
  replace hD : dd A [h15, h0, h14, h17, h18, h19, h20] := dd_of hPD.2 rfl
  clear hPD
  revert H1 locs1
  intro H locs hS hP
  refine tp_i (y := 0) hw1 ?_
  clear hw1 r_1 u
  refine tp_pc (pc' := 4) (by rfl) ?_
  refine lv_if_eq (tgt := 8) hx hb d_Ref_from_4 (by decide) (fun c_2 => ?_) (fun c_2 => absurd c_2 (by decide))
  refine tp_pc (pc' := 8) (by rfl) ?_
  refine lv_aload_n hx hb d_Ref_from_8 rfl (lv_at hl 0 rfl) ?_
  refine va_get (D := (dC, dI)) (ci := 8) (v := .int 1) (C := R_Ref) (T := F_Ref) (N := 48) hx hb hw i_Ref hown hK hP 1 rfl rfl 27 (by decide) (hw _ m_926) (fun _ h9 => h9) rfl d_Ref_from_9 ?_
  refine lv_if_eq (tgt := 19) hx hb d_Ref_from_12 (by decide) (fun c_3 => absurd c_3 (by decide)) (fun c_3 => ?_)
  refine tp_pc (pc' := 15) (by rfl) ?_
  refine lv_aload_n hx hb d_Ref_from_15 rfl (lv_at hl 0 rfl) ?_
  obtain ⟨hPc, hDc, hFc⟩ := cut3 (wc := [oc h0 8 [.int 0, .int p2, .ref h1, .ref h2, .ref h3, .ref h4, .ref h5, .ref h6, .ref h7, .ref h8, .ref h9, .ref h10, .ref h11, .ref h12, .int p3, .ref h13, .ref h14, .ref h15, .ref h16, .int 0, .int 37, .ref h17, .ref h18, .ref h19, .int 1, .ref h20, .int 89, .int 1, .ref h21, .ref h22, .ref h23, .ref h24, .ref h25, .ref h26, .ref h27, .ref h28, .int p9, .int p10, .ref h29, .ref h30, .ref h31, .ref h32, .ref h33, .ref h34, .ref h35, .ref h36, .int p11, .ref h37]]) hP hD rfl hS hA [1] (by decide +kernel) rfl
  have hKc := hK.sub (tys' := []) [] rfl
  refine va_callv (va_runV (As := []) (rest := []) ⟨hx, hb, hml, hown, hw⟩ (c_Ref_markRaces l dC dI h0 p2 h1 h2 h3 h4 h5 h6 h7 h8 h9 h10 h11 h12 p3 h13 h14 h15 h16 0 37 h17 h18 h19 1 h20 89 1 h21 h22 h23 h24 h25 h26 h27 h28 p9 p10 h29 h30 h31 h32 h33 h34 h35 h36 p11 h37 H.size) (cw_V 0 hw g_Ref_markRaces rfl rfl rfl (hw _ m_109) (hw _ m_1110) (hw _ m_1112) (hw _ m_62) (by decide +kernel) ⟨Nat.le_of_ble_eq_true rfl, Nat.le_of_ble_eq_true rfl⟩) ⟨fun a U g mk q => by obtain ⟨q0, q1, qP, qK, qD, qN⟩ := q; exact ⟨q0, q1, qP, va_K.moved (u := U) (U := U.calling g mk a) (Vm.Alike.refl U.vm) qK, qD, nw_call qN⟩, va_recv hKc hPc (ci := 8) (q0 := 0) rfl rfl, fun U hU hW => ⟨rfl, by rw [hU], by rw [hU]; exact hPc, va_K.moved hW.alike hKc, hDc.weaken (fun _ _ _ _ => trivial), nw_warm hW hn⟩⟩ rfl rfl hl.1 rfl (lv_room (Nat.le_of_ble_eq_true rfl)) d_Ref_from_16 ⟨Nat.le_of_ble_eq_true rfl, Nat.le_of_ble_eq_true rfl⟩) hS (fun q _ h => hFc q h) hFc ?_
  intro u t H1 locs1 ht hvm hw1 hB hz1 hk1 hS1
  obtain ⟨hP1, hK1, hD1⟩ := hB
  rw [ht] at hP1
  replace hK1 := va_K.moved hvm.symm hK1
  have hPD := join3 hP hD rfl [1] [0, 2, 3, 4, 5, 6] rfl (by rfl) (by decide +kernel) (by decide +kernel) hk1 hFc hP1 hD1
  replace hK : va_K (dC, dI) classes [(k13, .int), (k14, .int), (k16, .long), (k17, .int), (k18, .int), (k19, .long)] s := hK.app hK1
  clear hP1 hK1 hD1 hk1 hz1 hFc hKc hDc hPc hvm ht hP hS t locs H
  have hP : va_P (dC, dI) classes [ia h15 k14 2635 f14, ia h14 k13 155 (fun _ => 0), la h17 k16 1200000 (vp_updL (vp_updL (vp_updL (vp_updL (vp_updL f16 0 1161999626690363392) 1 16909320) 2 0) 3 0) 4 0), ia h18 k17 240000 (upd f17 0 (-1)), ia h19 k18 65536 (upd (fun _ => (-1)) 22162 0), la h20 k19 5 (vp_updL (vp_updL (vp_updL (vp_updL (vp_updL (vp_updL (vp_updL (vp_updL (vp_updL (vp_updL (vp_updL (vp_updL (vp_updL (vp_updL (vp_updL (vp_updL (vp_updL (vp_updL (vp_updL (vp_updL (vp_updL f19 0 0) 1 0) 2 0) 3 0) 4 0) 0 0) 0 0) 0 0) 0 0) 0 262144) 0 33816576) 0 4328783872) 0 554084597760) 0 70922828775424) 0 9078122083516416) 0 1161999626690363392) 0 1161999626690363392) 1 8) 1 1032) 1 132104) 1 16909320), oc h0 8 [.int 0, .int p2, .ref h1, .ref h2, .ref h3, .ref h4, .ref h5, .ref h6, .ref h7, .ref h8, .ref h9, .ref h10, .ref h11, .ref h12, .int p3, .ref h13, .ref h14, .ref h15, .ref h16, .int 0, .int 37, .ref h17, .ref h18, .ref h19, .int 1, .ref h20, .int 89, .int 1, .ref h21, .ref h22, .ref h23, .ref h24, .ref h25, .ref h26, .ref h27, .ref h28, .int p9, .int p10, .ref h29, .ref h30, .ref h31, .ref h32, .ref h33, .ref h34, .ref h35, .ref h36, .int p11, .ref h37]] H1 := hPD.1
  replace hD : dd A [h15, h14, h17, h18, h19, h20, h0] := dd_of hPD.2 rfl
  clear hPD
  revert H1 locs1
  intro H locs hS hP
  clear hw1 u
  refine tp_pc (pc' := 19) (by rfl) ?_
  refine lv_iconst (v := 0) hx hb d_Ref_from_19 (by decide) ?_
  refine lv_istore_n (lv' := [(2, .int 0), (0, .ref h0), (1, .int 0)]) hx hb d_Ref_from_20 rfl hl (by decide) rfl ?_
  clear hl ls
  intro ls hl
  refine lv_aload_n hx hb d_Ref_from_21 rfl (lv_at hl 1 rfl) ?_
  refine lv_iload_n hx hb d_Ref_from_22 rfl (lv_at hl 2 rfl) ?_
  obtain ⟨hPc, hDc, hFc⟩ := cut3 (wc := [oc h0 8 [.int 0, .int p2, .ref h1, .ref h2, .ref h3, .ref h4, .ref h5, .ref h6, .ref h7, .ref h8, .ref h9, .ref h10, .ref h11, .ref h12, .int p3, .ref h13, .ref h14, .ref h15, .ref h16, .int 0, .int 37, .ref h17, .ref h18, .ref h19, .int 1, .ref h20, .int 89, .int 1, .ref h21, .ref h22, .ref h23, .ref h24, .ref h25, .ref h26, .ref h27, .ref h28, .int p9, .int p10, .ref h29, .ref h30, .ref h31, .ref h32, .ref h33, .ref h34, .ref h35, .ref h36, .int p11, .ref h37], ia h14 k13 155 (fun _ => 0), ia h15 k14 2635 f14]) hP hD rfl hS hA [6, 1, 0] (by decide +kernel) rfl
  have hKc := hK.sub (tys' := [(k13, .int), (k14, .int)]) [0, 1] rfl
  refine va_callv (va_runV (As := [.int 0]) (rest := []) ⟨hx, hb, hml, hown, hw⟩ (c_Ref_keep l dC dI h0 0 p2 h1 h2 h3 h4 h5 h6 h7 h8 h9 h10 h11 h12 p3 h13 h14 h15 h16 0 h17 h18 h19 1 h20 89 1 h21 h22 h23 h24 h25 h26 h27 h28 p9 p10 h29 h30 h31 h32 h33 h34 h35 h36 p11 h37 k13 (fun _ => 0) k14 f14 H.size) (cw_V 1 hw g_Ref_keep rfl rfl rfl (hw _ m_109) (hw _ m_1114) (hw _ m_1116) (hw _ m_63) (by decide +kernel) ⟨Nat.le_of_ble_eq_true rfl, Nat.le_of_ble_eq_true rfl⟩) ⟨fun a U g mk q => by obtain ⟨q0, q1, qP, qK, qD, qN⟩ := q; exact ⟨q0, q1, qP, va_K.moved (u := U) (U := U.calling g mk a) (Vm.Alike.refl U.vm) qK, qD, nw_call qN⟩, va_recv hKc hPc (ci := 8) (q0 := 0) rfl rfl, fun U hU hW => ⟨rfl, by rw [hU], by rw [hU]; exact hPc, va_K.moved hW.alike hKc, hDc.weaken (fun _ _ _ _ => trivial), nw_warm hW hn⟩⟩ rfl rfl hl.1 rfl (lv_room (Nat.le_of_ble_eq_true rfl)) d_Ref_from_23 ⟨Nat.le_of_ble_eq_true rfl, Nat.le_of_ble_eq_true rfl⟩) hS (fun q _ h => hFc q h) hFc ?_
  intro u t H1 locs1 ht hvm hw1 hB hz1 hk1 hS1
  obtain ⟨g_5, hP1, hK1, hD1⟩ := hB
  rw [ht] at hP1
  replace hK1 := va_K.moved hvm.symm hK1
  have hPD := join3 hP hD rfl [6, 1, 0] [2, 3, 4, 5] rfl (by rfl) (by decide +kernel) (by decide +kernel) hk1 hFc hP1 hD1
  replace hK : va_K (dC, dI) classes [(k13, .int), (k14, .int), (k16, .long), (k17, .int), (k18, .int), (k19, .long)] s := hK.app hK1
  clear hP1 hK1 hD1 hk1 hz1 hFc hKc hDc hPc hvm ht hP hS t locs H
  have hP : va_P (dC, dI) classes [la h17 k16 1200000 (vp_updL (vp_updL (vp_updL (vp_updL (vp_updL f16 0 1161999626690363392) 1 16909320) 2 0) 3 0) 4 0), ia h18 k17 240000 (upd f17 0 (-1)), ia h19 k18 65536 (upd (fun _ => (-1)) 22162 0), la h20 k19 5 (vp_updL (vp_updL (vp_updL (vp_updL (vp_updL (vp_updL (vp_updL (vp_updL (vp_updL (vp_updL (vp_updL (vp_updL (vp_updL (vp_updL (vp_updL (vp_updL (vp_updL (vp_updL (vp_updL (vp_updL (vp_updL f19 0 0) 1 0) 2 0) 3 0) 4 0) 0 0) 0 0) 0 0) 0 0) 0 262144) 0 33816576) 0 4328783872) 0 554084597760) 0 70922828775424) 0 9078122083516416) 0 1161999626690363392) 0 1161999626690363392) 1 8) 1 1032) 1 132104) 1 16909320), oc h0 8 [.int 0, .int p2, .ref h1, .ref h2, .ref h3, .ref h4, .ref h5, .ref h6, .ref h7, .ref h8, .ref h9, .ref h10, .ref h11, .ref h12, .int p3, .ref h13, .ref h14, .ref h15, .ref h16, .int 0, .int 37, .ref h17, .ref h18, .ref h19, .int 1, .ref h20, .int 89, .int 1, .ref h21, .ref h22, .ref h23, .ref h24, .ref h25, .ref h26, .ref h27, .ref h28, .int p9, .int p10, .ref h29, .ref h30, .ref h31, .ref h32, .ref h33, .ref h34, .ref h35, .ref h36, .int p11, .ref h37], ia h14 k13 155 (fun _ => 0), ia h15 k14 2635 g_5] H1 := hPD.1
  replace hD : dd A [h17, h18, h19, h20, h0, h14, h15] := dd_of hPD.2 rfl
  clear hPD
  revert H1 locs1
  intro H locs hS hP
  clear hw1 u
  refine tp_pc (pc' := 26) (by rfl) ?_
  refine lv_iconst (v := 0) hx hb d_Ref_from_26 (by decide) ?_
  refine lv_istore_n (lv' := [(3, .int 0), (2, .int 0), (0, .ref h0), (1, .int 0)]) hx hb d_Ref_from_27 rfl hl (by decide) rfl ?_
  clear hl ls
  intro ls hl
  refine lv_iload_n hx hb d_Ref_from_28 rfl (lv_at hl 0 rfl) ?_
  refine lv_aload_n hx hb d_Ref_from_29 rfl (lv_at hl 2 rfl) ?_
  refine va_get (D := (dC, dI)) (ci := 8) (v := .int 0) (C := R_Ref) (T := F_Ref) (N := 48) hx hb hw i_Ref hown hK hP 4 rfl rfl 0 (by decide) (hw _ m_899) (fun _ h9 => h9) rfl d_Ref_from_30 ?_
  refine lv_icmp_ge (tgt := 95) hx hb d_Ref_from_33 (by decide) (fun c_7 => ?_) (fun c_7 => absurd c_7 (by decide))
  refine tp_pc (pc' := 95) (by rfl) ?_
  refine lv_iload_n hx hb d_Ref_from_95 rfl (lv_at hl 1 rfl) ?_
  refine lv_if_ne (tgt := 111) hx hb d_Ref_from_96 (by decide) (fun c_8 => absurd c_8 (by decide)) (fun c_8 => ?_)
  refine tp_pc (pc' := 99) (by rfl) ?_
  refine lv_aload_n hx hb d_Ref_from_99 rfl (lv_at hl 2 rfl) ?_
  refine va_get (D := (dC, dI)) (ci := 8) (v := .int 1) (C := R_Ref) (T := F_Ref) (N := 48) hx hb hw i_Ref hown hK hP 4 rfl rfl 27 (by decide) (hw _ m_926) (fun _ h9 => h9) rfl d_Ref_from_100 ?_
  refine lv_if_ne (tgt := 111) hx hb d_Ref_from_103 (by decide) (fun c_9 => ?_) (fun c_9 => absurd c_9 (by decide))
  refine tp_pc (pc' := 111) (by rfl) ?_
  obtain ⟨hP9, hD9, -⟩ := cut3 (wc := [oc h0 8 [.int 0, .int p2, .ref h1, .ref h2, .ref h3, .ref h4, .ref h5, .ref h6, .ref h7, .ref h8, .ref h9, .ref h10, .ref h11, .ref h12, .int p3, .ref h13, .ref h14, .ref h15, .ref h16, .int 0, .int 37, .ref h17, .ref h18, .ref h19, .int 1, .ref h20, .int 89, .int 1, .ref h21, .ref h22, .ref h23, .ref h24, .ref h25, .ref h26, .ref h27, .ref h28, .int p9, .int p10, .ref h29, .ref h30, .ref h31, .ref h32, .ref h33, .ref h34, .ref h35, .ref h36, .int p11, .ref h37], ia h14 k13 155 (fun _ => 0), ia h15 k14 2635 g_5, la h17 k16 1200000 (vp_updL (vp_updL (vp_updL (vp_updL (vp_updL f16 0 1161999626690363392) 1 16909320) 2 0) 3 0) 4 0), ia h18 k17 240000 (upd f17 0 (-1)), ia h19 k18 65536 (upd (fun _ => (-1)) 22162 0), la h20 k19 5 (vp_updL (vp_updL (vp_updL (vp_updL (vp_updL (vp_updL (vp_updL (vp_updL (vp_updL (vp_updL (vp_updL (vp_updL (vp_updL (vp_updL (vp_updL (vp_updL (vp_updL (vp_updL (vp_updL (vp_updL (vp_updL f19 0 0) 1 0) 2 0) 3 0) 4 0) 0 0) 0 0) 0 0) 0 0) 0 262144) 0 33816576) 0 4328783872) 0 554084597760) 0 70922828775424) 0 9078122083516416) 0 1161999626690363392) 0 1161999626690363392) 1 8) 1 1032) 1 132104) 1 16909320)]) hP hD rfl hS hA [4, 5, 6, 0, 1, 2, 3] (by decide +kernel) rfl
  have hK9 := hK.sub (tys' := []) [] rfl
  refine W.widen (k := 0) (n := 0) (by exact Nat.le_of_ble_eq_true rfl) (by exact Nat.le_of_ble_eq_true rfl) ?_
  exact W.vret hx hb hr (fun t ht hW => ⟨⟨(), rfl, trivial, g_5, by rw [ht]; exact hP9, va_K.moved hW.alike hK9, hD9⟩, hS.F ht⟩) hS.2.2 d_Ref_from_111
set_option maxHeartbeats 4000000 in
set_option maxRecDepth 100000 in
theorem c_Ref_search_v5 (l : Launch) (dC : Nat → ClassId) (dI : Nat → Nat → Nat) (h0 : Nat) (p3 : Int32) (h1 : Nat) (h2 : Nat) (h3 : Nat) (h4 : Nat) (h5 : Nat) (h6 : Nat) (h7 : Nat) (h8 : Nat) (h9 : Nat) (h10 : Nat) (h11 : Nat) (h12 : Nat) (p4 : Int32) (h13 : Nat) (h14 : Nat) (h15 : Nat) (h16 : Nat) (p5 : Int32) (p6 : Int32) (h17 : Nat) (h18 : Nat) (h19 : Nat) (p7 : Int32) (h20 : Nat) (p8 : Int32) (p9 : Int32) (h21 : Nat) (h22 : Nat) (h23 : Nat) (h24 : Nat) (h25 : Nat) (h26 : Nat) (h27 : Nat) (h28 : Nat) (p10 : Int32) (p11 : Int32) (h29 : Nat) (h30 : Nat) (h31 : Nat) (h32 : Nat) (h33 : Nat) (h34 : Nat) (h35 : Nat) (h36 : Nat) (p12 : Int32) (h37 : Nat) (k13 : ClassId) (f13 : Nat → Int32) (k14 : ClassId) (f14 : Nat → Int32) (k16 : ClassId) (f16 : Nat → Int64) (k17 : ClassId) (f17 : Nat → Int32) (k18 : ClassId) (f18 : Nat → Int32) (k19 : ClassId) (f19 : Nat → Int64) (sz : Nat) : Met l y_Ref_search w_Ref_search ({ frames := 4, cells := 0, slots := 0, locals := 101 }) (va_Pc [.ref h0, .int 0, .int 1] (fun U => U.heap.size = sz ∧ va_P (dC, dI) classes [oc h0 8 [.int 0, .int p3, .ref h1, .ref h2, .ref h3, .ref h4, .ref h5, .ref h6, .ref h7, .ref h8, .ref h9, .ref h10, .ref h11, .ref h12, .int p4, .ref h13, .ref h14, .ref h15, .ref h16, .int p5, .int p6, .ref h17, .ref h18, .ref h19, .int p7, .ref h20, .int p8, .int p9, .ref h21, .ref h22, .ref h23, .ref h24, .ref h25, .ref h26, .ref h27, .ref h28, .int p10, .int p11, .ref h29, .ref h30, .ref h31, .ref h32, .ref h33, .ref h34, .ref h35, .ref h36, .int p12, .ref h37], ia h14 k13 155 f13, ia h15 k14 2635 f14, la h17 k16 1200000 f16, ia h18 k17 240000 f17, ia h19 k18 65536 f18, la h20 k19 5 f19] U.heap ∧ va_K (dC, dI) classes [(k13, .int), (k14, .int), (k16, .long), (k17, .int), (k18, .int), (k19, .long)] U ∧ va_D (fun _ => True) [oc h0 8 [.int 0, .int p3, .ref h1, .ref h2, .ref h3, .ref h4, .ref h5, .ref h6, .ref h7, .ref h8, .ref h9, .ref h10, .ref h11, .ref h12, .int p4, .ref h13, .ref h14, .ref h15, .ref h16, .int p5, .int p6, .ref h17, .ref h18, .ref h19, .int p7, .ref h20, .int p8, .int p9, .ref h21, .ref h22, .ref h23, .ref h24, .ref h25, .ref h26, .ref h27, .ref h28, .int p10, .int p11, .ref h29, .ref h30, .ref h31, .ref h32, .ref h33, .ref h34, .ref h35, .ref h36, .int p12, .ref h37], ia h14 k13 155 f13, ia h15 k14 2635 f14, la h17 k16 1200000 f16, ia h18 k17 240000 f17, ia h19 k18 65536 f18, la h20 k19 5 f19] ∧ nw U)) (va_Qv (fun _ : Unit => True) (fun _ t => ∃ (g_5 : Nat → Int32), va_P (dC, dI) classes [oc h0 8 [.int 0, .int p3, .ref h1, .ref h2, .ref h3, .ref h4, .ref h5, .ref h6, .ref h7, .ref h8, .ref h9, .ref h10, .ref h11, .ref h12, .int p4, .ref h13, .ref h14, .ref h15, .ref h16, .int 0, .int 37, .ref h17, .ref h18, .ref h19, .int 1, .ref h20, .int 89, .int 1, .ref h21, .ref h22, .ref h23, .ref h24, .ref h25, .ref h26, .ref h27, .ref h28, .int p10, .int p11, .ref h29, .ref h30, .ref h31, .ref h32, .ref h33, .ref h34, .ref h35, .ref h36, .int p12, .ref h37], ia h14 k13 155 (fun _ => 0), ia h15 k14 2635 g_5, la h17 k16 1200000 (vp_updL (vp_updL (vp_updL (vp_updL (vp_updL f16 0 1161999626690363392) 1 16909320) 2 0) 3 0) 4 0), ia h18 k17 240000 (upd f17 0 (-1)), ia h19 k18 65536 (upd (fun _ => (-1)) 22162 0), la h20 k19 5 (vp_updL (vp_updL (vp_updL (vp_updL (vp_updL (vp_updL (vp_updL (vp_updL (vp_updL (vp_updL (vp_updL (vp_updL (vp_updL (vp_updL (vp_updL (vp_updL (vp_updL (vp_updL (vp_updL (vp_updL (vp_updL f19 0 0) 1 0) 2 0) 3 0) 4 0) 0 0) 0 0) 0 0) 0 0) 0 262144) 0 33816576) 0 4328783872) 0 554084597760) 0 70922828775424) 0 9078122083516416) 0 1161999626690363392) 0 1161999626690363392) 1 8) 1 1032) 1 132104) 1 16909320)] t.heap ∧ va_K (dC, dI) classes [] t ∧ va_D (va_A [oc h0 8 [.int 0, .int p3, .ref h1, .ref h2, .ref h3, .ref h4, .ref h5, .ref h6, .ref h7, .ref h8, .ref h9, .ref h10, .ref h11, .ref h12, .int p4, .ref h13, .ref h14, .ref h15, .ref h16, .int p5, .int p6, .ref h17, .ref h18, .ref h19, .int p7, .ref h20, .int p8, .int p9, .ref h21, .ref h22, .ref h23, .ref h24, .ref h25, .ref h26, .ref h27, .ref h28, .int p10, .int p11, .ref h29, .ref h30, .ref h31, .ref h32, .ref h33, .ref h34, .ref h35, .ref h36, .int p12, .ref h37], ia h14 k13 155 f13, ia h15 k14 2635 f14, la h17 k16 1200000 f16, ia h18 k17 240000 f17, ia h19 k18 65536 f18, la h20 k19 5 f19] sz) [oc h0 8 [.int 0, .int p3, .ref h1, .ref h2, .ref h3, .ref h4, .ref h5, .ref h6, .ref h7, .ref h8, .ref h9, .ref h10, .ref h11, .ref h12, .int p4, .ref h13, .ref h14, .ref h15, .ref h16, .int 0, .int 37, .ref h17, .ref h18, .ref h19, .int 1, .ref h20, .int 89, .int 1, .ref h21, .ref h22, .ref h23, .ref h24, .ref h25, .ref h26, .ref h27, .ref h28, .int p10, .int p11, .ref h29, .ref h30, .ref h31, .ref h32, .ref h33, .ref h34, .ref h35, .ref h36, .int p12, .ref h37], ia h14 k13 155 (fun _ => 0), ia h15 k14 2635 g_5, la h17 k16 1200000 (vp_updL (vp_updL (vp_updL (vp_updL (vp_updL f16 0 1161999626690363392) 1 16909320) 2 0) 3 0) 4 0), ia h18 k17 240000 (upd f17 0 (-1)), ia h19 k18 65536 (upd (fun _ => (-1)) 22162 0), la h20 k19 5 (vp_updL (vp_updL (vp_updL (vp_updL (vp_updL (vp_updL (vp_updL (vp_updL (vp_updL (vp_updL (vp_updL (vp_updL (vp_updL (vp_updL (vp_updL (vp_updL (vp_updL (vp_updL (vp_updL (vp_updL (vp_updL f19 0 0) 1 0) 2 0) 3 0) 4 0) 0 0) 0 0) 0 0) 0 0) 0 262144) 0 33816576) 0 4328783872) 0 554084597760) 0 70922828775424) 0 9078122083516416) 0 1161999626690363392) 0 1161999626690363392) 1 8) 1 1032) 1 132104) 1 16909320)]) (va_A [oc h0 8 [.int 0, .int p3, .ref h1, .ref h2, .ref h3, .ref h4, .ref h5, .ref h6, .ref h7, .ref h8, .ref h9, .ref h10, .ref h11, .ref h12, .int p4, .ref h13, .ref h14, .ref h15, .ref h16, .int p5, .int p6, .ref h17, .ref h18, .ref h19, .int p7, .ref h20, .int p8, .int p9, .ref h21, .ref h22, .ref h23, .ref h24, .ref h25, .ref h26, .ref h27, .ref h28, .int p10, .int p11, .ref h29, .ref h30, .ref h31, .ref h32, .ref h33, .ref h34, .ref h35, .ref h36, .int p12, .ref h37], ia h14 k13 155 f13, ia h15 k14 2635 f14, la h17 k16 1200000 f16, ia h18 k17 240000 f17, ia h19 k18 65536 f18, la h20 k19 5 f19] sz)) 0 0 (va_A [oc h0 8 [.int 0, .int p3, .ref h1, .ref h2, .ref h3, .ref h4, .ref h5, .ref h6, .ref h7, .ref h8, .ref h9, .ref h10, .ref h11, .ref h12, .int p4, .ref h13, .ref h14, .ref h15, .ref h16, .int p5, .int p6, .ref h17, .ref h18, .ref h19, .int p7, .ref h20, .int p8, .int p9, .ref h21, .ref h22, .ref h23, .ref h24, .ref h25, .ref h26, .ref h27, .ref h28, .int p10, .int p11, .ref h29, .ref h30, .ref h31, .ref h32, .ref h33, .ref h34, .ref h35, .ref h36, .int p12, .ref h37], ia h14 k13 155 f13, ia h15 k14 2635 f14, la h17 k16 1200000 f16, ia h18 k17 240000 f17, ia h19 k18 65536 f18, la h20 k19 5 f19] sz) := by
  refine Met.ofW (cc := b_Ref_search) (maxL := 4) (ret := none) (by decide) rfl ?_
  intro p e s m args below meth c s₁ B hml hv
  obtain ⟨rfl, hsz, hP, hK, hD0, hn⟩ := hv
  have hx := B.exec
  have hb := B.bytes
  have hr := B.returns
  have hw := fun w (h : w ∈ wt) => atoms_spec (ws := w_Ref_search) B.pre w (List.mem_cons_of_mem _ h)
  have hown : s.vm.findClass R_Ref = some m.cls := findClass_of_methodNamed B.named
  have hlocks := B.notSynchronized
  subst hsz
  have hD1 := hD0.self (sz := s.heap.size)
  generalize hAe : va_A [oc h0 8 [.int 0, .int p3, .ref h1, .ref h2, .ref h3, .ref h4, .ref h5, .ref h6, .ref h7, .ref h8, .ref h9, .ref h10, .ref h11, .ref h12, .int p4, .ref h13, .ref h14, .ref h15, .ref h16, .int p5, .int p6, .ref h17, .ref h18, .ref h19, .int p7, .ref h20, .int p8, .int p9, .ref h21, .ref h22, .ref h23, .ref h24, .ref h25, .ref h26, .ref h27, .ref h28, .int p10, .int p11, .ref h29, .ref h30, .ref h31, .ref h32, .ref h33, .ref h34, .ref h35, .ref h36, .int p12, .ref h37], ia h14 k13 155 f13, ia h15 k14 2635 f14, la h17 k16 1200000 f16, ia h18 k17 240000 f17, ia h19 k18 65536 f18, la h20 k19 5 f19] s.heap.size = A at hD1 ⊢
  have hA : ∀ q : Nat, s.heap.size ≤ q → A q := fun q h => by rw [← hAe]; exact Or.inr h
  have hD : dd A [h0, h14, h15, h17, h18, h19, h20] := dd_of hD1 rfl
  clear hAe hD0 hD1
  have hS : va_S A s.heap s.heap [] := va_S.rf
  replace hP : va_P (dC, dI) classes [oc h0 8 [.int 0, .int p3, .ref h1, .ref h2, .ref h3, .ref h4, .ref h5, .ref h6, .ref h7, .ref h8, .ref h9, .ref h10, .ref h11, .ref h12, .int p4, .ref h13, .ref h14, .ref h15, .ref h16, .int p5, .int p6, .ref h17, .ref h18, .ref h19, .int p7, .ref h20, .int p8, .int p9, .ref h21, .ref h22, .ref h23, .ref h24, .ref h25, .ref h26, .ref h27, .ref h28, .int p10, .int p11, .ref h29, .ref h30, .ref h31, .ref h32, .ref h33, .ref h34, .ref h35, .ref h36, .int p12, .ref h37], ia h14 k13 155 f13, ia h15 k14 2635 f14, la h17 k16 1200000 f16, ia h18 k17 240000 f17, ia h19 k18 65536 f18, la h20 k19 5 f19] s.heap := hP
  have hl := lv_entry ([.ref h0, .int 0, .int 1]) (n := 4) (Nat.le_of_ble_eq_true rfl)
  rw [lg_entry_eq]
  generalize (lg_sl ([.ref h0, .int 0, .int 1]) ++ List.replicate (4 - (lg_sl ([.ref h0, .int 0, .int 1])).length) Slot.unset).toArray = ls at hl ⊢
  replace hl : lv_has ls 4 [(0, .ref h0), (1, .int 0), (2, .int 1)] := hl
  refine lv_aload_n hx hb d_Ref_search_0 rfl (lv_at hl 0 rfl) ?_
  refine lv_iload_n hx hb d_Ref_search_1 rfl (lv_at hl 1 rfl) ?_
  refine va_put (D := (dC, dI)) (ci := 8) (v := .int 0) (ty := .int) (C := R_Ref) (T := F_Ref) (N := 48) hx hb hw i_Ref t_Ref t_Ref_ok n_Ref hown hK hP (dd_D hD rfl) hS 0 rfl rfl 19 (by decide) (hw _ m_918) (fun _ h9 => h9) rfl (by decide +kernel) rfl rfl (Nat.le_of_ble_eq_true rfl) d_Ref_search_2 ?_
  clear hP hS
  intro H locs (hP : va_P (dC, dI) classes [oc h0 8 [.int 0, .int p3, .ref h1, .ref h2, .ref h3, .ref h4, .ref h5, .ref h6, .ref h7, .ref h8, .ref h9, .ref h10, .ref h11, .ref h12, .int p4, .ref h13, .ref h14, .ref h15, .ref h16, .int 0, .int p6, .ref h17, .ref h18, .ref h19, .int p7, .ref h20, .int p8, .int p9, .ref h21, .ref h22, .ref h23, .ref h24, .ref h25, .ref h26, .ref h27, .ref h28, .int p10, .int p11, .ref h29, .ref h30, .ref h31, .ref h32, .ref h33, .ref h34, .ref h35, .ref h36, .int p12, .ref h37], ia h14 k13 155 f13, ia h15 k14 2635 f14, la h17 k16 1200000 f16, ia h18 k17 240000 f17, ia h19 k18 65536 f18, la h20 k19 5 f19] H) _ hS
  refine tp_pc (pc' := 5) (by rfl) ?_
  refine lv_aload_n hx hb d_Ref_search_5 rfl (lv_at hl 0 rfl) ?_
  refine lv_iload_n hx hb d_Ref_search_6 rfl (lv_at hl 1 rfl) ?_
  refine lv_iconst (v := 3) hx hb d_Ref_search_7 (by decide) ?_
  refine lv_icmp_ne (tgt := 17) hx hb d_Ref_search_8 (by decide) (fun c_1 => ?_) (fun c_1 => absurd c_1 (by decide))
  refine tp_pc (pc' := 17) (by rfl) ?_
  refine lv_bipush (v := 37) hx hb d_Ref_search_17 (by decide) ?_
  refine va_put (D := (dC, dI)) (ci := 8) (v := .int 37) (ty := .int) (C := R_Ref) (T := F_Ref) (N := 48) hx hb hw i_Ref t_Ref t_Ref_ok n_Ref hown hK hP (dd_D hD rfl) hS 0 rfl rfl 20 (by decide) (hw _ m_919) (fun _ h9 => h9) rfl (by decide +kernel) rfl rfl (Nat.le_of_ble_eq_true rfl) d_Ref_search_19 ?_
  clear hP hS locs H
  intro H locs (hP : va_P (dC, dI) classes [oc h0 8 [.int 0, .int p3, .ref h1, .ref h2, .ref h3, .ref h4, .ref h5, .ref h6, .ref h7, .ref h8, .ref h9, .ref h10, .ref h11, .ref h12, .int p4, .ref h13, .ref h14, .ref h15, .ref h16, .int 0, .int 37, .ref h17, .ref h18, .ref h19, .int p7, .ref h20, .int p8, .int p9, .ref h21, .ref h22, .ref h23, .ref h24, .ref h25, .ref h26, .ref h27, .ref h28, .int p10, .int p11, .ref h29, .ref h30, .ref h31, .ref h32, .ref h33, .ref h34, .ref h35, .ref h36, .int p12, .ref h37], ia h14 k13 155 f13, ia h15 k14 2635 f14, la h17 k16 1200000 f16, ia h18 k17 240000 f17, ia h19 k18 65536 f18, la h20 k19 5 f19] H) _ hS
  refine tp_pc (pc' := 22) (by rfl) ?_
  refine lv_aload_n hx hb d_Ref_search_22 rfl (lv_at hl 0 rfl) ?_
  refine lv_iload_n hx hb d_Ref_search_23 rfl (lv_at hl 2 rfl) ?_
  refine va_put (D := (dC, dI)) (ci := 8) (v := .int 1) (ty := .boolean) (C := R_Ref) (T := F_Ref) (N := 48) hx hb hw i_Ref t_Ref t_Ref_ok n_Ref hown hK hP (dd_D hD rfl) hS 0 rfl rfl 27 (by decide) (hw _ m_926) (fun _ h9 => h9) rfl (by decide +kernel) (by decide) rfl (Nat.le_of_ble_eq_true rfl) d_Ref_search_24 ?_
  clear hP hS locs H
  intro H locs (hP : va_P (dC, dI) classes [oc h0 8 [.int 0, .int p3, .ref h1, .ref h2, .ref h3, .ref h4, .ref h5, .ref h6, .ref h7, .ref h8, .ref h9, .ref h10, .ref h11, .ref h12, .int p4, .ref h13, .ref h14, .ref h15, .ref h16, .int 0, .int 37, .ref h17, .ref h18, .ref h19, .int p7, .ref h20, .int p8, .int 1, .ref h21, .ref h22, .ref h23, .ref h24, .ref h25, .ref h26, .ref h27, .ref h28, .int p10, .int p11, .ref h29, .ref h30, .ref h31, .ref h32, .ref h33, .ref h34, .ref h35, .ref h36, .int p12, .ref h37], ia h14 k13 155 f13, ia h15 k14 2635 f14, la h17 k16 1200000 f16, ia h18 k17 240000 f17, ia h19 k18 65536 f18, la h20 k19 5 f19] H) _ hS
  refine tp_pc (pc' := 27) (by rfl) ?_
  refine lv_aload_n hx hb d_Ref_search_27 rfl (lv_at hl 0 rfl) ?_
  refine lv_iconst (v := 0) hx hb d_Ref_search_28 (by decide) ?_
  refine va_put (D := (dC, dI)) (ci := 8) (v := .int 0) (ty := .int) (C := R_Ref) (T := F_Ref) (N := 48) hx hb hw i_Ref t_Ref t_Ref_ok n_Ref hown hK hP (dd_D hD rfl) hS 0 rfl rfl 24 (by decide) (hw _ m_923) (fun _ h9 => h9) rfl (by decide +kernel) rfl rfl (Nat.le_of_ble_eq_true rfl) d_Ref_search_29 ?_
  clear hP hS locs H
  intro H locs (hP : va_P (dC, dI) classes [oc h0 8 [.int 0, .int p3, .ref h1, .ref h2, .ref h3, .ref h4, .ref h5, .ref h6, .ref h7, .ref h8, .ref h9, .ref h10, .ref h11, .ref h12, .int p4, .ref h13, .ref h14, .ref h15, .ref h16, .int 0, .int 37, .ref h17, .ref h18, .ref h19, .int 0, .ref h20, .int p8, .int 1, .ref h21, .ref h22, .ref h23, .ref h24, .ref h25, .ref h26, .ref h27, .ref h28, .int p10, .int p11, .ref h29, .ref h30, .ref h31, .ref h32, .ref h33, .ref h34, .ref h35, .ref h36, .int p12, .ref h37], ia h14 k13 155 f13, ia h15 k14 2635 f14, la h17 k16 1200000 f16, ia h18 k17 240000 f17, ia h19 k18 65536 f18, la h20 k19 5 f19] H) _ hS
  refine tp_pc (pc' := 32) (by rfl) ?_
  refine lv_iconst (v := 0) hx hb d_Ref_search_32 (by decide) ?_
  refine lv_istore_n (lv' := [(3, .int 0), (0, .ref h0), (1, .int 0), (2, .int 1)]) hx hb d_Ref_search_33 rfl hl (by decide) rfl ?_
  clear hl ls
  intro ls hl
  refine lp_n 65536 (fun i H locs ls => ∃ g : Nat → Int32, (∀ j, j < i → g j = (-1)) ∧ va_P (dC, dI) classes [oc h0 8 [.int 0, .int p3, .ref h1, .ref h2, .ref h3, .ref h4, .ref h5, .ref h6, .ref h7, .ref h8, .ref h9, .ref h10, .ref h11, .ref h12, .int p4, .ref h13, .ref h14, .ref h15, .ref h16, .int 0, .int 37, .ref h17, .ref h18, .ref h19, .int 0, .ref h20, .int p8, .int 1, .ref h21, .ref h22, .ref h23, .ref h24, .ref h25, .ref h26, .ref h27, .ref h28, .int p10, .int p11, .ref h29, .ref h30, .ref h31, .ref h32, .ref h33, .ref h34, .ref h35, .ref h36, .int p12, .ref h37], ia h14 k13 155 f13, ia h15 k14 2635 f14, la h17 k16 1200000 f16, ia h18 k17 240000 f17, ia h19 k18 65536 g, la h20 k19 5 f19] H ∧ va_S A s.heap H locs ∧ lv_has ls 4 [(3, .int (nI i)), (0, .ref h0), (1, .int 0), (2, .int 1)]) ⟨f18, fun j hj => absurd hj (Nat.not_lt_zero j), hP, hS, hl⟩ ?_ ?_
  · intro i H locs ls hi hI ih
    obtain ⟨g, hg, hP, hS, hl⟩ := hI
    refine lv_iload_n hx hb d_Ref_search_34 rfl (lv_at hl 0 rfl) ?_
    refine lv_ldc hx hb hown (hw _ m_898) d_Ref_search_35 ?_
    refine lv_icmp_ge (tgt := 53) hx hb d_Ref_search_37 (by decide) (fun c9 => absurd c9 (nI_ge hi (by decide))) (fun _ => ?_)
    refine lv_aload_n hx hb d_Ref_search_40 rfl (lv_at hl 1 rfl) ?_
    refine va_get (D := (dC, dI)) (ci := 8) (v := .ref h19) (C := R_Ref) (T := F_Ref) (N := 48) hx hb hw i_Ref hown hK hP 0 rfl rfl 23 (by decide) (hw _ m_922) (fun _ h9 => h9) rfl d_Ref_search_41 ?_
    refine lv_iload_n hx hb d_Ref_search_44 rfl (lv_at hl 0 rfl) ?_
    refine lv_iconst (v := (-1)) hx hb d_Ref_search_45 (by decide) ?_
    refine va_iast (D := (dC, dI)) hx hb hK hP (dd_D hD rfl) hS 5 4 rfl rfl (i := nI i) (x := (-1)) (vp_in_nI hi (by decide)) d_Ref_search_46 ?_
    intro H locs hP _ hS
    rw [nI_clamp (Nat.lt_trans hi (by decide))] at hP
    refine lv_iinc (v := nI (i + 1)) (lv' := [(3, .int (nI (i + 1))), (0, .ref h0), (1, .int 0), (2, .int 1)]) hx hb d_Ref_search_47 hl (k := 0) rfl (nI_1 i) (by decide) rfl ?_
    intro ls hl
    refine lv_goto (tgt := 34) hx hb d_Ref_search_50 (by decide) ?_
    exact ih _ _ _ ⟨upd g i (-1), fun j hj => by by_cases e9 : j = i; (subst e9; simp [upd]); (simp [upd, e9]; exact hg j (by omega)), hP, hS, lv_sub hl [0, 1, 2, 3] rfl⟩
  · intro H locs ls hI
    obtain ⟨g, hg, hP, hS, hl⟩ := hI
    replace hP : va_P (dC, dI) classes [oc h0 8 [.int 0, .int p3, .ref h1, .ref h2, .ref h3, .ref h4, .ref h5, .ref h6, .ref h7, .ref h8, .ref h9, .ref h10, .ref h11, .ref h12, .int p4, .ref h13, .ref h14, .ref h15, .ref h16, .int 0, .int 37, .ref h17, .ref h18, .ref h19, .int 0, .ref h20, .int p8, .int 1, .ref h21, .ref h22, .ref h23, .ref h24, .ref h25, .ref h26, .ref h27, .ref h28, .int p10, .int p11, .ref h29, .ref h30, .ref h31, .ref h32, .ref h33, .ref h34, .ref h35, .ref h36, .int p12, .ref h37], ia h14 k13 155 f13, ia h15 k14 2635 f14, la h17 k16 1200000 f16, ia h18 k17 240000 f17, ia h19 k18 65536 (fun _ => (-1)), la h20 k19 5 f19] H := P_cg 5 rfl hg hP
    replace hl : lv_has ls 4 [(3, .int 65536), (0, .ref h0), (1, .int 0), (2, .int 1)] := hl
    refine lv_iload_n hx hb d_Ref_search_34 rfl (lv_at hl 0 rfl) ?_
    refine lv_ldc hx hb hown (hw _ m_898) d_Ref_search_35 ?_
    refine lv_icmp_ge (tgt := 53) hx hb d_Ref_search_37 (by decide) (fun c_2 => ?_) (fun c_2 => absurd c_2 (by decide))
    refine tp_pc (pc' := 53) (by rfl) ?_
    refine lv_aload_n hx hb d_Ref_search_53 rfl (lv_at hl 1 rfl) ?_
    obtain ⟨hPc, hDc, hFc⟩ := cut3 (wc := [oc h0 8 [.int 0, .int p3, .ref h1, .ref h2, .ref h3, .ref h4, .ref h5, .ref h6, .ref h7, .ref h8, .ref h9, .ref h10, .ref h11, .ref h12, .int p4, .ref h13, .ref h14, .ref h15, .ref h16, .int 0, .int 37, .ref h17, .ref h18, .ref h19, .int 0, .ref h20, .int p8, .int 1, .ref h21, .ref h22, .ref h23, .ref h24, .ref h25, .ref h26, .ref h27, .ref h28, .int p10, .int p11, .ref h29, .ref h30, .ref h31, .ref h32, .ref h33, .ref h34, .ref h35, .ref h36, .int p12, .ref h37], ia h14 k13 155 f13]) hP hD rfl hS hA [0, 1] (by decide +kernel) rfl
    have hKc := hK.sub (tys' := [(k13, .int)]) [0] rfl
    refine va_callv (va_runV (As := []) (rest := []) ⟨hx, hb, hml, hown, hw⟩ (c_Ref_beginState l dC dI h0 0 p3 h1 h2 h3 h4 h5 h6 h7 h8 h9 h10 h11 h12 p4 h13 h14 h15 h16 37 h17 h18 h19 0 h20 p8 1 h21 h22 h23 h24 h25 h26 h27 h28 p10 p11 h29 h30 h31 h32 h33 h34 h35 h36 p12 h37 k13 f13 H.size) (cw_V 0 hw g_Ref_beginState rfl rfl rfl (hw _ m_109) (hw _ m_1077) (hw _ m_1079) (hw _ m_54) (by decide +kernel) ⟨Nat.le_of_ble_eq_true rfl, Nat.le_of_ble_eq_true rfl⟩) ⟨fun a U g mk q => by obtain ⟨q0, q1, qP, qK, qD, qN⟩ := q; exact ⟨q0, q1, qP, va_K.moved (u := U) (U := U.calling g mk a) (Vm.Alike.refl U.vm) qK, qD, nw_call qN⟩, va_recv hKc hPc (ci := 8) (q0 := 0) rfl rfl, fun U hU hW => ⟨rfl, by rw [hU], by rw [hU]; exact hPc, va_K.moved hW.alike hKc, hDc.weaken (fun _ _ _ _ => trivial), nw_warm hW hn⟩⟩ rfl rfl hl.1 rfl (lv_room (Nat.le_of_ble_eq_true rfl)) d_Ref_search_54 ⟨Nat.le_of_ble_eq_true rfl, Nat.le_of_ble_eq_true rfl⟩) hS (fun q _ h => hFc q h) hFc ?_
    intro u t H1 locs1 ht hvm hw1 hB hz1 hk1 hS1
    obtain ⟨hP1, hK1, hD1⟩ := hB
    rw [ht] at hP1
    replace hK1 := va_K.moved hvm.symm hK1
    have hPD := join3 hP hD rfl [0, 1] [2, 3, 4, 5, 6] rfl (by rfl) (by decide +kernel) (by decide +kernel) hk1 hFc hP1 hD1
    replace hK : va_K (dC, dI) classes [(k13, .int), (k14, .int), (k16, .long), (k17, .int), (k18, .int), (k19, .long)] s := hK.app hK1
    clear hP1 hK1 hD1 hk1 hz1 hFc hKc hDc hPc hvm ht hP hS t locs H
    have hP : va_P (dC, dI) classes [ia h15 k14 2635 f14, la h17 k16 1200000 f16, ia h18 k17 240000 f17, ia h19 k18 65536 (fun _ => (-1)), la h20 k19 5 f19, oc h0 8 [.int 0, .int p3, .ref h1, .ref h2, .ref h3, .ref h4, .ref h5, .ref h6, .ref h7, .ref h8, .ref h9, .ref h10, .ref h11, .ref h12, .int p4, .ref h13, .ref h14, .ref h15, .ref h16, .int 0, .int 37, .ref h17, .ref h18, .ref h19, .int 0, .ref h20, .int p8, .int 1, .ref h21, .ref h22, .ref h23, .ref h24, .ref h25, .ref h26, .ref h27, .ref h28, .int p10, .int p11, .ref h29, .ref h30, .ref h31, .ref h32, .ref h33, .ref h34, .ref h35, .ref h36, .int p12, .ref h37], ia h14 k13 155 (fun _ => 0)] H1 := hPD.1
    replace hD : dd A [h15, h17, h18, h19, h20, h0, h14] := dd_of hPD.2 rfl
    clear hPD
    revert H1 locs1
    intro H locs hS hP
    clear hw1 u
    refine tp_pc (pc' := 57) (by rfl) ?_
    refine lv_iload_n hx hb d_Ref_search_57 rfl (lv_at hl 3 rfl) ?_
    refine lv_if_ne (tgt := 68) hx hb d_Ref_search_58 (by decide) (fun c_4 => ?_) (fun c_4 => absurd c_4 (by decide))
    refine tp_pc (pc' := 68) (by rfl) ?_
    refine lv_aload_n hx hb d_Ref_search_68 rfl (lv_at hl 1 rfl) ?_
    refine lv_iconst (v := 0) hx hb d_Ref_search_69 (by decide) ?_
    obtain ⟨hPc, hDc, hFc⟩ := cut3 (wc := [oc h0 8 [.int 0, .int p3, .ref h1, .ref h2, .ref h3, .ref h4, .ref h5, .ref h6, .ref h7, .ref h8, .ref h9, .ref h10, .ref h11, .ref h12, .int p4, .ref h13, .ref h14, .ref h15, .ref h16, .int 0, .int 37, .ref h17, .ref h18, .ref h19, .int 0, .ref h20, .int p8, .int 1, .ref h21, .ref h22, .ref h23, .ref h24, .ref h25, .ref h26, .ref h27, .ref h28, .int p10, .int p11, .ref h29, .ref h30, .ref h31, .ref h32, .ref h33, .ref h34, .ref h35, .ref h36, .int p12, .ref h37], ia h14 k13 155 (fun _ => 0), ia h15 k14 2635 f14, la h17 k16 1200000 f16, ia h18 k17 240000 f17, ia h19 k18 65536 (fun _ => (-1)), la h20 k19 5 f19]) hP hD rfl hS hA [5, 6, 0, 1, 2, 3, 4] (by decide +kernel) rfl
    have hKc := hK.sub (tys' := [(k13, .int), (k14, .int), (k16, .long), (k17, .int), (k18, .int), (k19, .long)]) [0, 1, 2, 3, 4, 5] rfl
    refine va_callv (va_runV (As := [.int 0]) (rest := []) ⟨hx, hb, hml, hown, hw⟩ (c_Ref_from_v5 l dC dI h0 p3 h1 h2 h3 h4 h5 h6 h7 h8 h9 h10 h11 h12 p4 h13 h14 h15 h16 h17 h18 h19 h20 p8 h21 h22 h23 h24 h25 h26 h27 h28 p10 p11 h29 h30 h31 h32 h33 h34 h35 h36 p12 h37 k13 k14 f14 k16 f16 k17 f17 k18 k19 f19 H.size) (cw_V 1 hw g_Ref_from rfl rfl rfl (hw _ m_109) (hw _ m_1081) (hw _ m_1083) (hw _ m_55) (by decide +kernel) ⟨Nat.le_of_ble_eq_true rfl, Nat.le_of_ble_eq_true rfl⟩) ⟨fun a U g mk q => by obtain ⟨q0, q1, qP, qK, qD, qN⟩ := q; exact ⟨q0, q1, qP, va_K.moved (u := U) (U := U.calling g mk a) (Vm.Alike.refl U.vm) qK, qD, nw_call qN⟩, va_recv hKc hPc (ci := 8) (q0 := 0) rfl rfl, fun U hU hW => ⟨rfl, by rw [hU], by rw [hU]; exact hPc, va_K.moved hW.alike hKc, hDc.weaken (fun _ _ _ _ => trivial), nw_warm hW hn⟩⟩ rfl rfl hl.1 rfl (lv_room (Nat.le_of_ble_eq_true rfl)) d_Ref_search_70 ⟨Nat.le_of_ble_eq_true rfl, Nat.le_of_ble_eq_true rfl⟩) hS (fun q _ h => hFc q h) hFc ?_
    intro u t H1 locs1 ht hvm hw1 hB hz1 hk1 hS1
    obtain ⟨g_5, hP1, hK1, hD1⟩ := hB
    rw [ht] at hP1
    replace hK1 := va_K.moved hvm.symm hK1
    have hPD := join3 hP hD rfl [5, 6, 0, 1, 2, 3, 4] [] rfl (by rfl) (by decide +kernel) (by decide +kernel) hk1 hFc hP1 hD1
    replace hK : va_K (dC, dI) classes [(k13, .int), (k14, .int), (k16, .long), (k17, .int), (k18, .int), (k19, .long)] s := hK.app hK1
    clear hP1 hK1 hD1 hk1 hz1 hFc hKc hDc hPc hvm ht hP hS t locs H
    have hP : va_P (dC, dI) classes [oc h0 8 [.int 0, .int p3, .ref h1, .ref h2, .ref h3, .ref h4, .ref h5, .ref h6, .ref h7, .ref h8, .ref h9, .ref h10, .ref h11, .ref h12, .int p4, .ref h13, .ref h14, .ref h15, .ref h16, .int 0, .int 37, .ref h17, .ref h18, .ref h19, .int 1, .ref h20, .int 89, .int 1, .ref h21, .ref h22, .ref h23, .ref h24, .ref h25, .ref h26, .ref h27, .ref h28, .int p10, .int p11, .ref h29, .ref h30, .ref h31, .ref h32, .ref h33, .ref h34, .ref h35, .ref h36, .int p12, .ref h37], ia h14 k13 155 (fun _ => 0), ia h15 k14 2635 g_5, la h17 k16 1200000 (vp_updL (vp_updL (vp_updL (vp_updL (vp_updL f16 0 1161999626690363392) 1 16909320) 2 0) 3 0) 4 0), ia h18 k17 240000 (upd f17 0 (-1)), ia h19 k18 65536 (upd (fun _ => (-1)) 22162 0), la h20 k19 5 (vp_updL (vp_updL (vp_updL (vp_updL (vp_updL (vp_updL (vp_updL (vp_updL (vp_updL (vp_updL (vp_updL (vp_updL (vp_updL (vp_updL (vp_updL (vp_updL (vp_updL (vp_updL (vp_updL (vp_updL (vp_updL f19 0 0) 1 0) 2 0) 3 0) 4 0) 0 0) 0 0) 0 0) 0 0) 0 262144) 0 33816576) 0 4328783872) 0 554084597760) 0 70922828775424) 0 9078122083516416) 0 1161999626690363392) 0 1161999626690363392) 1 8) 1 1032) 1 132104) 1 16909320)] H1 := hPD.1
    replace hD : dd A [h0, h14, h15, h17, h18, h19, h20] := dd_of hPD.2 rfl
    clear hPD
    revert H1 locs1
    intro H locs hS hP
    clear hw1 u
    refine tp_pc (pc' := 73) (by rfl) ?_
    obtain ⟨hP9, hD9, -⟩ := cut3 (wc := [oc h0 8 [.int 0, .int p3, .ref h1, .ref h2, .ref h3, .ref h4, .ref h5, .ref h6, .ref h7, .ref h8, .ref h9, .ref h10, .ref h11, .ref h12, .int p4, .ref h13, .ref h14, .ref h15, .ref h16, .int 0, .int 37, .ref h17, .ref h18, .ref h19, .int 1, .ref h20, .int 89, .int 1, .ref h21, .ref h22, .ref h23, .ref h24, .ref h25, .ref h26, .ref h27, .ref h28, .int p10, .int p11, .ref h29, .ref h30, .ref h31, .ref h32, .ref h33, .ref h34, .ref h35, .ref h36, .int p12, .ref h37], ia h14 k13 155 (fun _ => 0), ia h15 k14 2635 g_5, la h17 k16 1200000 (vp_updL (vp_updL (vp_updL (vp_updL (vp_updL f16 0 1161999626690363392) 1 16909320) 2 0) 3 0) 4 0), ia h18 k17 240000 (upd f17 0 (-1)), ia h19 k18 65536 (upd (fun _ => (-1)) 22162 0), la h20 k19 5 (vp_updL (vp_updL (vp_updL (vp_updL (vp_updL (vp_updL (vp_updL (vp_updL (vp_updL (vp_updL (vp_updL (vp_updL (vp_updL (vp_updL (vp_updL (vp_updL (vp_updL (vp_updL (vp_updL (vp_updL (vp_updL f19 0 0) 1 0) 2 0) 3 0) 4 0) 0 0) 0 0) 0 0) 0 0) 0 262144) 0 33816576) 0 4328783872) 0 554084597760) 0 70922828775424) 0 9078122083516416) 0 1161999626690363392) 0 1161999626690363392) 1 8) 1 1032) 1 132104) 1 16909320)]) hP hD rfl hS hA [0, 1, 2, 3, 4, 5, 6] (by decide +kernel) rfl
    have hK9 := hK.sub (tys' := []) [] rfl
    refine W.widen (k := 0) (n := 0) (by exact Nat.le_of_ble_eq_true rfl) (by exact Nat.le_of_ble_eq_true rfl) ?_
    exact W.vret hx hb hr (fun t ht hW => ⟨⟨(), rfl, trivial, g_5, by rw [ht]; exact hP9, va_K.moved hW.alike hK9, hD9⟩, hS.F ht⟩) hS.2.2 d_Ref_search_73
set_option maxHeartbeats 4000000 in
set_option maxRecDepth 100000 in
theorem c_Ref_findRaces (l : Launch) (dC : Nat → ClassId) (dI : Nat → Nat → Nat) (h0 : Nat) (p1 : Int32) (h1 : Nat) (h2 : Nat) (h3 : Nat) (h4 : Nat) (h5 : Nat) (h6 : Nat) (h7 : Nat) (h8 : Nat) (h9 : Nat) (h10 : Nat) (h11 : Nat) (h12 : Nat) (h13 : Nat) (h14 : Nat) (h15 : Nat) (h16 : Nat) (p3 : Int32) (p4 : Int32) (h17 : Nat) (h18 : Nat) (h19 : Nat) (p5 : Int32) (h20 : Nat) (p6 : Int32) (p7 : Int32) (h21 : Nat) (h22 : Nat) (h23 : Nat) (h24 : Nat) (h25 : Nat) (h26 : Nat) (h27 : Nat) (h28 : Nat) (p8 : Int32) (p9 : Int32) (h29 : Nat) (h30 : Nat) (h31 : Nat) (h32 : Nat) (h33 : Nat) (h34 : Nat) (h35 : Nat) (h36 : Nat) (p10 : Int32) (h37 : Nat) (k12 : ClassId) (f12 : Nat → Int32) (k13 : ClassId) (f13 : Nat → Int32) (k14 : ClassId) (f14 : Nat → Int32) (k16 : ClassId) (f16 : Nat → Int64) (k17 : ClassId) (f17 : Nat → Int32) (k18 : ClassId) (f18 : Nat → Int32) (k19 : ClassId) (f19 : Nat → Int64) (sz : Nat) : Met l y_Ref_findRaces w_Ref_findRaces ({ frames := 5, cells := 0, slots := 0, locals := 124 }) (va_Pc [.ref h0] (fun U => U.heap.size = sz ∧ va_P (dC, dI) classes [oc h0 8 [.int 0, .int p1, .ref h1, .ref h2, .ref h3, .ref h4, .ref h5, .ref h6, .ref h7, .ref h8, .ref h9, .ref h10, .ref h11, .ref h12, .int 0, .ref h13, .ref h14, .ref h15, .ref h16, .int p3, .int p4, .ref h17, .ref h18, .ref h19, .int p5, .ref h20, .int p6, .int p7, .ref h21, .ref h22, .ref h23, .ref h24, .ref h25, .ref h26, .ref h27, .ref h28, .int p8, .int p9, .ref h29, .ref h30, .ref h31, .ref h32, .ref h33, .ref h34, .ref h35, .ref h36, .int p10, .ref h37], ia h13 k12 784 f12, ia h14 k13 155 f13, ia h15 k14 2635 f14, la h17 k16 1200000 f16, ia h18 k17 240000 f17, ia h19 k18 65536 f18, la h20 k19 5 f19] U.heap ∧ va_K (dC, dI) classes [(k12, .boolean), (k13, .int), (k14, .int), (k16, .long), (k17, .int), (k18, .int), (k19, .long)] U ∧ va_D (fun _ => True) [oc h0 8 [.int 0, .int p1, .ref h1, .ref h2, .ref h3, .ref h4, .ref h5, .ref h6, .ref h7, .ref h8, .ref h9, .ref h10, .ref h11, .ref h12, .int 0, .ref h13, .ref h14, .ref h15, .ref h16, .int p3, .int p4, .ref h17, .ref h18, .ref h19, .int p5, .ref h20, .int p6, .int p7, .ref h21, .ref h22, .ref h23, .ref h24, .ref h25, .ref h26, .ref h27, .ref h28, .int p8, .int p9, .ref h29, .ref h30, .ref h31, .ref h32, .ref h33, .ref h34, .ref h35, .ref h36, .int p10, .ref h37], ia h13 k12 784 f12, ia h14 k13 155 f13, ia h15 k14 2635 f14, la h17 k16 1200000 f16, ia h18 k17 240000 f17, ia h19 k18 65536 f18, la h20 k19 5 f19] ∧ nw U)) (va_Qv (fun _ : Unit => True) (fun _ t => ∃ (g_3 : Nat → Int32), va_P (dC, dI) classes [oc h0 8 [.int 0, .int p1, .ref h1, .ref h2, .ref h3, .ref h4, .ref h5, .ref h6, .ref h7, .ref h8, .ref h9, .ref h10, .ref h11, .ref h12, .int 1, .ref h13, .ref h14, .ref h15, .ref h16, .int 0, .int 37, .ref h17, .ref h18, .ref h19, .int 1, .ref h20, .int 89, .int 1, .ref h21, .ref h22, .ref h23, .ref h24, .ref h25, .ref h26, .ref h27, .ref h28, .int p8, .int p9, .ref h29, .ref h30, .ref h31, .ref h32, .ref h33, .ref h34, .ref h35, .ref h36, .int p10, .ref h37], ia h13 k12 784 (fun _ => 0), ia h14 k13 155 (fun _ => 0), ia h15 k14 2635 g_3, la h17 k16 1200000 (vp_updL (vp_updL (vp_updL (vp_updL (vp_updL f16 0 1161999626690363392) 1 16909320) 2 0) 3 0) 4 0), ia h18 k17 240000 (upd f17 0 (-1)), ia h19 k18 65536 (upd (fun _ => (-1)) 22162 0), la h20 k19 5 (vp_updL (vp_updL (vp_updL (vp_updL (vp_updL (vp_updL (vp_updL (vp_updL (vp_updL (vp_updL (vp_updL (vp_updL (vp_updL (vp_updL (vp_updL (vp_updL (vp_updL (vp_updL (vp_updL (vp_updL (vp_updL f19 0 0) 1 0) 2 0) 3 0) 4 0) 0 0) 0 0) 0 0) 0 0) 0 262144) 0 33816576) 0 4328783872) 0 554084597760) 0 70922828775424) 0 9078122083516416) 0 1161999626690363392) 0 1161999626690363392) 1 8) 1 1032) 1 132104) 1 16909320)] t.heap ∧ va_K (dC, dI) classes [] t ∧ va_D (va_A [oc h0 8 [.int 0, .int p1, .ref h1, .ref h2, .ref h3, .ref h4, .ref h5, .ref h6, .ref h7, .ref h8, .ref h9, .ref h10, .ref h11, .ref h12, .int 0, .ref h13, .ref h14, .ref h15, .ref h16, .int p3, .int p4, .ref h17, .ref h18, .ref h19, .int p5, .ref h20, .int p6, .int p7, .ref h21, .ref h22, .ref h23, .ref h24, .ref h25, .ref h26, .ref h27, .ref h28, .int p8, .int p9, .ref h29, .ref h30, .ref h31, .ref h32, .ref h33, .ref h34, .ref h35, .ref h36, .int p10, .ref h37], ia h13 k12 784 f12, ia h14 k13 155 f13, ia h15 k14 2635 f14, la h17 k16 1200000 f16, ia h18 k17 240000 f17, ia h19 k18 65536 f18, la h20 k19 5 f19] sz) [oc h0 8 [.int 0, .int p1, .ref h1, .ref h2, .ref h3, .ref h4, .ref h5, .ref h6, .ref h7, .ref h8, .ref h9, .ref h10, .ref h11, .ref h12, .int 1, .ref h13, .ref h14, .ref h15, .ref h16, .int 0, .int 37, .ref h17, .ref h18, .ref h19, .int 1, .ref h20, .int 89, .int 1, .ref h21, .ref h22, .ref h23, .ref h24, .ref h25, .ref h26, .ref h27, .ref h28, .int p8, .int p9, .ref h29, .ref h30, .ref h31, .ref h32, .ref h33, .ref h34, .ref h35, .ref h36, .int p10, .ref h37], ia h13 k12 784 (fun _ => 0), ia h14 k13 155 (fun _ => 0), ia h15 k14 2635 g_3, la h17 k16 1200000 (vp_updL (vp_updL (vp_updL (vp_updL (vp_updL f16 0 1161999626690363392) 1 16909320) 2 0) 3 0) 4 0), ia h18 k17 240000 (upd f17 0 (-1)), ia h19 k18 65536 (upd (fun _ => (-1)) 22162 0), la h20 k19 5 (vp_updL (vp_updL (vp_updL (vp_updL (vp_updL (vp_updL (vp_updL (vp_updL (vp_updL (vp_updL (vp_updL (vp_updL (vp_updL (vp_updL (vp_updL (vp_updL (vp_updL (vp_updL (vp_updL (vp_updL (vp_updL f19 0 0) 1 0) 2 0) 3 0) 4 0) 0 0) 0 0) 0 0) 0 0) 0 262144) 0 33816576) 0 4328783872) 0 554084597760) 0 70922828775424) 0 9078122083516416) 0 1161999626690363392) 0 1161999626690363392) 1 8) 1 1032) 1 132104) 1 16909320)]) (va_A [oc h0 8 [.int 0, .int p1, .ref h1, .ref h2, .ref h3, .ref h4, .ref h5, .ref h6, .ref h7, .ref h8, .ref h9, .ref h10, .ref h11, .ref h12, .int 0, .ref h13, .ref h14, .ref h15, .ref h16, .int p3, .int p4, .ref h17, .ref h18, .ref h19, .int p5, .ref h20, .int p6, .int p7, .ref h21, .ref h22, .ref h23, .ref h24, .ref h25, .ref h26, .ref h27, .ref h28, .int p8, .int p9, .ref h29, .ref h30, .ref h31, .ref h32, .ref h33, .ref h34, .ref h35, .ref h36, .int p10, .ref h37], ia h13 k12 784 f12, ia h14 k13 155 f13, ia h15 k14 2635 f14, la h17 k16 1200000 f16, ia h18 k17 240000 f17, ia h19 k18 65536 f18, la h20 k19 5 f19] sz)) 0 0 (va_A [oc h0 8 [.int 0, .int p1, .ref h1, .ref h2, .ref h3, .ref h4, .ref h5, .ref h6, .ref h7, .ref h8, .ref h9, .ref h10, .ref h11, .ref h12, .int 0, .ref h13, .ref h14, .ref h15, .ref h16, .int p3, .int p4, .ref h17, .ref h18, .ref h19, .int p5, .ref h20, .int p6, .int p7, .ref h21, .ref h22, .ref h23, .ref h24, .ref h25, .ref h26, .ref h27, .ref h28, .int p8, .int p9, .ref h29, .ref h30, .ref h31, .ref h32, .ref h33, .ref h34, .ref h35, .ref h36, .int p10, .ref h37], ia h13 k12 784 f12, ia h14 k13 155 f13, ia h15 k14 2635 f14, la h17 k16 1200000 f16, ia h18 k17 240000 f17, ia h19 k18 65536 f18, la h20 k19 5 f19] sz) := by
  refine Met.ofW (cc := b_Ref_findRaces) (maxL := 2) (ret := none) (by decide) rfl ?_
  intro p e s m args below meth c s₁ B hml hv
  obtain ⟨rfl, hsz, hP, hK, hD0, hn⟩ := hv
  have hx := B.exec
  have hb := B.bytes
  have hr := B.returns
  have hw := fun w (h : w ∈ wt) => atoms_spec (ws := w_Ref_findRaces) B.pre w (List.mem_cons_of_mem _ h)
  have hown : s.vm.findClass R_Ref = some m.cls := findClass_of_methodNamed B.named
  have hlocks := B.notSynchronized
  subst hsz
  have hD1 := hD0.self (sz := s.heap.size)
  generalize hAe : va_A [oc h0 8 [.int 0, .int p1, .ref h1, .ref h2, .ref h3, .ref h4, .ref h5, .ref h6, .ref h7, .ref h8, .ref h9, .ref h10, .ref h11, .ref h12, .int 0, .ref h13, .ref h14, .ref h15, .ref h16, .int p3, .int p4, .ref h17, .ref h18, .ref h19, .int p5, .ref h20, .int p6, .int p7, .ref h21, .ref h22, .ref h23, .ref h24, .ref h25, .ref h26, .ref h27, .ref h28, .int p8, .int p9, .ref h29, .ref h30, .ref h31, .ref h32, .ref h33, .ref h34, .ref h35, .ref h36, .int p10, .ref h37], ia h13 k12 784 f12, ia h14 k13 155 f13, ia h15 k14 2635 f14, la h17 k16 1200000 f16, ia h18 k17 240000 f17, ia h19 k18 65536 f18, la h20 k19 5 f19] s.heap.size = A at hD1 ⊢
  have hA : ∀ q : Nat, s.heap.size ≤ q → A q := fun q h => by rw [← hAe]; exact Or.inr h
  have hD : dd A [h0, h13, h14, h15, h17, h18, h19, h20] := dd_of hD1 rfl
  clear hAe hD0 hD1
  have hS : va_S A s.heap s.heap [] := va_S.rf
  replace hP : va_P (dC, dI) classes [oc h0 8 [.int 0, .int p1, .ref h1, .ref h2, .ref h3, .ref h4, .ref h5, .ref h6, .ref h7, .ref h8, .ref h9, .ref h10, .ref h11, .ref h12, .int 0, .ref h13, .ref h14, .ref h15, .ref h16, .int p3, .int p4, .ref h17, .ref h18, .ref h19, .int p5, .ref h20, .int p6, .int p7, .ref h21, .ref h22, .ref h23, .ref h24, .ref h25, .ref h26, .ref h27, .ref h28, .int p8, .int p9, .ref h29, .ref h30, .ref h31, .ref h32, .ref h33, .ref h34, .ref h35, .ref h36, .int p10, .ref h37], ia h13 k12 784 f12, ia h14 k13 155 f13, ia h15 k14 2635 f14, la h17 k16 1200000 f16, ia h18 k17 240000 f17, ia h19 k18 65536 f18, la h20 k19 5 f19] s.heap := hP
  have hl := lv_entry ([.ref h0]) (n := 2) (Nat.le_of_ble_eq_true rfl)
  rw [lg_entry_eq]
  generalize (lg_sl ([.ref h0]) ++ List.replicate (2 - (lg_sl ([.ref h0])).length) Slot.unset).toArray = ls at hl ⊢
  replace hl : lv_has ls 2 [(0, .ref h0)] := hl
  refine lv_aload_n hx hb d_Ref_findRaces_0 rfl (lv_at hl 0 rfl) ?_
  refine va_get (D := (dC, dI)) (ci := 8) (v := .int 0) (C := R_Ref) (T := F_Ref) (N := 48) hx hb hw i_Ref hown hK hP 0 rfl rfl 14 (by decide) (hw _ m_913) (fun _ h9 => h9) rfl d_Ref_findRaces_1 ?_
  refine lv_if_ne (tgt := 40) hx hb d_Ref_findRaces_4 (by decide) (fun c_1 => absurd c_1 (by decide)) (fun c_1 => ?_)
  refine tp_pc (pc' := 7) (by rfl) ?_
  refine lv_iconst (v := 0) hx hb d_Ref_findRaces_7 (by decide) ?_
  refine lv_istore_n (lv' := [(1, .int 0), (0, .ref h0)]) hx hb d_Ref_findRaces_8 rfl hl (by decide) rfl ?_
  clear hl ls
  intro ls hl
  refine lp_n 784 (fun i H locs ls => ∃ g : Nat → Int32, (∀ j, j < i → g j = 0) ∧ va_P (dC, dI) classes [oc h0 8 [.int 0, .int p1, .ref h1, .ref h2, .ref h3, .ref h4, .ref h5, .ref h6, .ref h7, .ref h8, .ref h9, .ref h10, .ref h11, .ref h12, .int 0, .ref h13, .ref h14, .ref h15, .ref h16, .int p3, .int p4, .ref h17, .ref h18, .ref h19, .int p5, .ref h20, .int p6, .int p7, .ref h21, .ref h22, .ref h23, .ref h24, .ref h25, .ref h26, .ref h27, .ref h28, .int p8, .int p9, .ref h29, .ref h30, .ref h31, .ref h32, .ref h33, .ref h34, .ref h35, .ref h36, .int p10, .ref h37], ia h13 k12 784 g, ia h14 k13 155 f13, ia h15 k14 2635 f14, la h17 k16 1200000 f16, ia h18 k17 240000 f17, ia h19 k18 65536 f18, la h20 k19 5 f19] H ∧ va_S A s.heap H locs ∧ lv_has ls 2 [(1, .int (nI i)), (0, .ref h0)]) ⟨f12, fun j hj => absurd hj (Nat.not_lt_zero j), hP, hS, hl⟩ ?_ ?_
  · intro i H locs ls hi hI ih
    obtain ⟨g, hg, hP, hS, hl⟩ := hI
    refine lv_iload_n hx hb d_Ref_findRaces_9 rfl (lv_at hl 0 rfl) ?_
    refine lv_sipush (v := 784) hx hb d_Ref_findRaces_10 (by decide) ?_
    refine lv_icmp_ge (tgt := 29) hx hb d_Ref_findRaces_13 (by decide) (fun c9 => absurd c9 (nI_ge hi (by decide))) (fun _ => ?_)
    refine lv_aload_n hx hb d_Ref_findRaces_16 rfl (lv_at hl 1 rfl) ?_
    refine va_get (D := (dC, dI)) (ci := 8) (v := .ref h13) (C := R_Ref) (T := F_Ref) (N := 48) hx hb hw i_Ref hown hK hP 0 rfl rfl 15 (by decide) (hw _ m_914) (fun _ h9 => h9) rfl d_Ref_findRaces_17 ?_
    refine lv_iload_n hx hb d_Ref_findRaces_20 rfl (lv_at hl 0 rfl) ?_
    refine lv_iconst (v := 0) hx hb d_Ref_findRaces_21 (by decide) ?_
    refine va_zast (D := (dC, dI)) hx hb hK hP (dd_D hD rfl) hS 1 0 rfl rfl (i := nI i) (x := 0) (vp_in_nI hi (by decide)) d_Ref_findRaces_22 ?_
    intro H locs hP _ hS
    rw [nI_clamp (Nat.lt_trans hi (by decide))] at hP
    rw [show vp_nar .boolean 0 = 0 from by decide] at hP
    refine lv_iinc (v := nI (i + 1)) (lv' := [(1, .int (nI (i + 1))), (0, .ref h0)]) hx hb d_Ref_findRaces_23 hl (k := 0) rfl (nI_1 i) (by decide) rfl ?_
    intro ls hl
    refine lv_goto (tgt := 9) hx hb d_Ref_findRaces_26 (by decide) ?_
    exact ih _ _ _ ⟨upd g i 0, fun j hj => by by_cases e9 : j = i; (subst e9; simp [upd]); (simp [upd, e9]; exact hg j (by omega)), hP, hS, lv_sub hl [0, 1] rfl⟩
  · intro H locs ls hI
    obtain ⟨g, hg, hP, hS, hl⟩ := hI
    replace hP : va_P (dC, dI) classes [oc h0 8 [.int 0, .int p1, .ref h1, .ref h2, .ref h3, .ref h4, .ref h5, .ref h6, .ref h7, .ref h8, .ref h9, .ref h10, .ref h11, .ref h12, .int 0, .ref h13, .ref h14, .ref h15, .ref h16, .int p3, .int p4, .ref h17, .ref h18, .ref h19, .int p5, .ref h20, .int p6, .int p7, .ref h21, .ref h22, .ref h23, .ref h24, .ref h25, .ref h26, .ref h27, .ref h28, .int p8, .int p9, .ref h29, .ref h30, .ref h31, .ref h32, .ref h33, .ref h34, .ref h35, .ref h36, .int p10, .ref h37], ia h13 k12 784 (fun _ => 0), ia h14 k13 155 f13, ia h15 k14 2635 f14, la h17 k16 1200000 f16, ia h18 k17 240000 f17, ia h19 k18 65536 f18, la h20 k19 5 f19] H := P_cg 1 rfl hg hP
    replace hl : lv_has ls 2 [(1, .int 784), (0, .ref h0)] := hl
    refine lv_iload_n hx hb d_Ref_findRaces_9 rfl (lv_at hl 0 rfl) ?_
    refine lv_sipush (v := 784) hx hb d_Ref_findRaces_10 (by decide) ?_
    refine lv_icmp_ge (tgt := 29) hx hb d_Ref_findRaces_13 (by decide) (fun c_2 => ?_) (fun c_2 => absurd c_2 (by decide))
    refine tp_pc (pc' := 29) (by rfl) ?_
    refine lv_aload_n hx hb d_Ref_findRaces_29 rfl (lv_at hl 1 rfl) ?_
    refine lv_iconst (v := 0) hx hb d_Ref_findRaces_30 (by decide) ?_
    refine lv_iconst (v := 1) hx hb d_Ref_findRaces_31 (by decide) ?_
    obtain ⟨hPc, hDc, hFc⟩ := cut3 (wc := [oc h0 8 [.int 0, .int p1, .ref h1, .ref h2, .ref h3, .ref h4, .ref h5, .ref h6, .ref h7, .ref h8, .ref h9, .ref h10, .ref h11, .ref h12, .int 0, .ref h13, .ref h14, .ref h15, .ref h16, .int p3, .int p4, .ref h17, .ref h18, .ref h19, .int p5, .ref h20, .int p6, .int p7, .ref h21, .ref h22, .ref h23, .ref h24, .ref h25, .ref h26, .ref h27, .ref h28, .int p8, .int p9, .ref h29, .ref h30, .ref h31, .ref h32, .ref h33, .ref h34, .ref h35, .ref h36, .int p10, .ref h37], ia h14 k13 155 f13, ia h15 k14 2635 f14, la h17 k16 1200000 f16, ia h18 k17 240000 f17, ia h19 k18 65536 f18, la h20 k19 5 f19]) hP hD rfl hS hA [0, 2, 3, 4, 5, 6, 7] (by decide +kernel) rfl
    have hKc := hK.sub (tys' := [(k13, .int), (k14, .int), (k16, .long), (k17, .int), (k18, .int), (k19, .long)]) [1, 2, 3, 4, 5, 6] rfl
    refine va_callv (va_runV (As := [.int 0, .int 1]) (rest := []) ⟨hx, hb, hml, hown, hw⟩ (c_Ref_search_v5 l dC dI h0 p1 h1 h2 h3 h4 h5 h6 h7 h8 h9 h10 h11 h12 0 h13 h14 h15 h16 p3 p4 h17 h18 h19 p5 h20 p6 p7 h21 h22 h23 h24 h25 h26 h27 h28 p8 p9 h29 h30 h31 h32 h33 h34 h35 h36 p10 h37 k13 f13 k14 f14 k16 f16 k17 f17 k18 f18 k19 f19 H.size) (cw_V 2 hw g_Ref_search rfl rfl rfl (hw _ m_109) (hw _ m_1073) (hw _ m_1075) (hw _ m_53) (by decide +kernel) ⟨Nat.le_of_ble_eq_true rfl, Nat.le_of_ble_eq_true rfl⟩) ⟨fun a U g mk q => by obtain ⟨q0, q1, qP, qK, qD, qN⟩ := q; exact ⟨q0, q1, qP, va_K.moved (u := U) (U := U.calling g mk a) (Vm.Alike.refl U.vm) qK, qD, nw_call qN⟩, va_recv hKc hPc (ci := 8) (q0 := 0) rfl rfl, fun U hU hW => ⟨rfl, by rw [hU], by rw [hU]; exact hPc, va_K.moved hW.alike hKc, hDc.weaken (fun _ _ _ _ => trivial), nw_warm hW hn⟩⟩ rfl rfl hl.1 rfl (lv_room (Nat.le_of_ble_eq_true rfl)) d_Ref_findRaces_32 ⟨Nat.le_of_ble_eq_true rfl, Nat.le_of_ble_eq_true rfl⟩) hS (fun q _ h => hFc q h) hFc ?_
    intro u t H1 locs1 ht hvm hw1 hB hz1 hk1 hS1
    obtain ⟨g_3, hP1, hK1, hD1⟩ := hB
    rw [ht] at hP1
    replace hK1 := va_K.moved hvm.symm hK1
    have hPD := join3 hP hD rfl [0, 2, 3, 4, 5, 6, 7] [1] rfl (by rfl) (by decide +kernel) (by decide +kernel) hk1 hFc hP1 hD1
    replace hK : va_K (dC, dI) classes [(k12, .boolean), (k13, .int), (k14, .int), (k16, .long), (k17, .int), (k18, .int), (k19, .long)] s := hK.app hK1
    clear hP1 hK1 hD1 hk1 hz1 hFc hKc hDc hPc hvm ht hP hS t locs H
    have hP : va_P (dC, dI) classes [ia h13 k12 784 (fun _ => 0), oc h0 8 [.int 0, .int p1, .ref h1, .ref h2, .ref h3, .ref h4, .ref h5, .ref h6, .ref h7, .ref h8, .ref h9, .ref h10, .ref h11, .ref h12, .int 0, .ref h13, .ref h14, .ref h15, .ref h16, .int 0, .int 37, .ref h17, .ref h18, .ref h19, .int 1, .ref h20, .int 89, .int 1, .ref h21, .ref h22, .ref h23, .ref h24, .ref h25, .ref h26, .ref h27, .ref h28, .int p8, .int p9, .ref h29, .ref h30, .ref h31, .ref h32, .ref h33, .ref h34, .ref h35, .ref h36, .int p10, .ref h37], ia h14 k13 155 (fun _ => 0), ia h15 k14 2635 g_3, la h17 k16 1200000 (vp_updL (vp_updL (vp_updL (vp_updL (vp_updL f16 0 1161999626690363392) 1 16909320) 2 0) 3 0) 4 0), ia h18 k17 240000 (upd f17 0 (-1)), ia h19 k18 65536 (upd (fun _ => (-1)) 22162 0), la h20 k19 5 (vp_updL (vp_updL (vp_updL (vp_updL (vp_updL (vp_updL (vp_updL (vp_updL (vp_updL (vp_updL (vp_updL (vp_updL (vp_updL (vp_updL (vp_updL (vp_updL (vp_updL (vp_updL (vp_updL (vp_updL (vp_updL f19 0 0) 1 0) 2 0) 3 0) 4 0) 0 0) 0 0) 0 0) 0 0) 0 262144) 0 33816576) 0 4328783872) 0 554084597760) 0 70922828775424) 0 9078122083516416) 0 1161999626690363392) 0 1161999626690363392) 1 8) 1 1032) 1 132104) 1 16909320)] H1 := hPD.1
    replace hD : dd A [h13, h0, h14, h15, h17, h18, h19, h20] := dd_of hPD.2 rfl
    clear hPD
    revert H1 locs1
    intro H locs hS hP
    clear hw1 u
    refine tp_pc (pc' := 35) (by rfl) ?_
    refine lv_aload_n hx hb d_Ref_findRaces_35 rfl (lv_at hl 1 rfl) ?_
    refine lv_iconst (v := 1) hx hb d_Ref_findRaces_36 (by decide) ?_
    refine va_put (D := (dC, dI)) (ci := 8) (v := .int 1) (ty := .boolean) (C := R_Ref) (T := F_Ref) (N := 48) hx hb hw i_Ref t_Ref t_Ref_ok n_Ref hown hK hP (dd_D hD rfl) hS 1 rfl rfl 14 (by decide) (hw _ m_913) (fun _ h9 => h9) rfl (by decide +kernel) (by decide) rfl (Nat.le_of_ble_eq_true rfl) d_Ref_findRaces_37 ?_
    clear hP hS locs H
    intro H locs (hP : va_P (dC, dI) classes [ia h13 k12 784 (fun _ => 0), oc h0 8 [.int 0, .int p1, .ref h1, .ref h2, .ref h3, .ref h4, .ref h5, .ref h6, .ref h7, .ref h8, .ref h9, .ref h10, .ref h11, .ref h12, .int 1, .ref h13, .ref h14, .ref h15, .ref h16, .int 0, .int 37, .ref h17, .ref h18, .ref h19, .int 1, .ref h20, .int 89, .int 1, .ref h21, .ref h22, .ref h23, .ref h24, .ref h25, .ref h26, .ref h27, .ref h28, .int p8, .int p9, .ref h29, .ref h30, .ref h31, .ref h32, .ref h33, .ref h34, .ref h35, .ref h36, .int p10, .ref h37], ia h14 k13 155 (fun _ => 0), ia h15 k14 2635 g_3, la h17 k16 1200000 (vp_updL (vp_updL (vp_updL (vp_updL (vp_updL f16 0 1161999626690363392) 1 16909320) 2 0) 3 0) 4 0), ia h18 k17 240000 (upd f17 0 (-1)), ia h19 k18 65536 (upd (fun _ => (-1)) 22162 0), la h20 k19 5 (vp_updL (vp_updL (vp_updL (vp_updL (vp_updL (vp_updL (vp_updL (vp_updL (vp_updL (vp_updL (vp_updL (vp_updL (vp_updL (vp_updL (vp_updL (vp_updL (vp_updL (vp_updL (vp_updL (vp_updL (vp_updL f19 0 0) 1 0) 2 0) 3 0) 4 0) 0 0) 0 0) 0 0) 0 0) 0 262144) 0 33816576) 0 4328783872) 0 554084597760) 0 70922828775424) 0 9078122083516416) 0 1161999626690363392) 0 1161999626690363392) 1 8) 1 1032) 1 132104) 1 16909320)] H) _ hS
    refine tp_pc (pc' := 40) (by rfl) ?_
    obtain ⟨hP9, hD9, -⟩ := cut3 (wc := [oc h0 8 [.int 0, .int p1, .ref h1, .ref h2, .ref h3, .ref h4, .ref h5, .ref h6, .ref h7, .ref h8, .ref h9, .ref h10, .ref h11, .ref h12, .int 1, .ref h13, .ref h14, .ref h15, .ref h16, .int 0, .int 37, .ref h17, .ref h18, .ref h19, .int 1, .ref h20, .int 89, .int 1, .ref h21, .ref h22, .ref h23, .ref h24, .ref h25, .ref h26, .ref h27, .ref h28, .int p8, .int p9, .ref h29, .ref h30, .ref h31, .ref h32, .ref h33, .ref h34, .ref h35, .ref h36, .int p10, .ref h37], ia h13 k12 784 (fun _ => 0), ia h14 k13 155 (fun _ => 0), ia h15 k14 2635 g_3, la h17 k16 1200000 (vp_updL (vp_updL (vp_updL (vp_updL (vp_updL f16 0 1161999626690363392) 1 16909320) 2 0) 3 0) 4 0), ia h18 k17 240000 (upd f17 0 (-1)), ia h19 k18 65536 (upd (fun _ => (-1)) 22162 0), la h20 k19 5 (vp_updL (vp_updL (vp_updL (vp_updL (vp_updL (vp_updL (vp_updL (vp_updL (vp_updL (vp_updL (vp_updL (vp_updL (vp_updL (vp_updL (vp_updL (vp_updL (vp_updL (vp_updL (vp_updL (vp_updL (vp_updL f19 0 0) 1 0) 2 0) 3 0) 4 0) 0 0) 0 0) 0 0) 0 0) 0 262144) 0 33816576) 0 4328783872) 0 554084597760) 0 70922828775424) 0 9078122083516416) 0 1161999626690363392) 0 1161999626690363392) 1 8) 1 1032) 1 132104) 1 16909320)]) hP hD rfl hS hA [1, 0, 2, 3, 4, 5, 6, 7] (by decide +kernel) rfl
    have hK9 := hK.sub (tys' := []) [] rfl
    refine W.widen (k := 0) (n := 0) (by exact Nat.le_of_ble_eq_true rfl) (by exact Nat.le_of_ble_eq_true rfl) ?_
    exact W.vret hx hb hr (fun t ht hW => ⟨⟨(), rfl, trivial, g_3, by rw [ht]; exact hP9, va_K.moved hW.alike hK9, hD9⟩, hS.F ht⟩) hS.2.2 d_Ref_findRaces_40
set_option maxHeartbeats 4000000 in
set_option maxRecDepth 100000 in
theorem c_Ref_races (l : Launch) (dC : Nat → ClassId) (dI : Nat → Nat → Nat) (h0 : Nat) (p1 : Int32) (h1 : Nat) (h2 : Nat) (h3 : Nat) (h4 : Nat) (h5 : Nat) (h6 : Nat) (h7 : Nat) (h8 : Nat) (h9 : Nat) (h10 : Nat) (h11 : Nat) (h12 : Nat) (h13 : Nat) (h14 : Nat) (h15 : Nat) (h16 : Nat) (p3 : Int32) (p4 : Int32) (h17 : Nat) (h18 : Nat) (h19 : Nat) (p5 : Int32) (h20 : Nat) (p6 : Int32) (p7 : Int32) (h21 : Nat) (h22 : Nat) (h23 : Nat) (h24 : Nat) (h25 : Nat) (h26 : Nat) (h27 : Nat) (h28 : Nat) (p8 : Int32) (p9 : Int32) (h29 : Nat) (h30 : Nat) (h31 : Nat) (h32 : Nat) (h33 : Nat) (h34 : Nat) (h35 : Nat) (h36 : Nat) (p10 : Int32) (h37 : Nat) (k12 : ClassId) (f12 : Nat → Int32) (k13 : ClassId) (f13 : Nat → Int32) (k14 : ClassId) (f14 : Nat → Int32) (k16 : ClassId) (f16 : Nat → Int64) (k17 : ClassId) (f17 : Nat → Int32) (k18 : ClassId) (f18 : Nat → Int32) (k19 : ClassId) (f19 : Nat → Int64) (sz : Nat) : Met l y_Ref_races w_Ref_races ({ frames := 6, cells := 0, slots := 0, locals := 145 }) (va_Pc [.ref h0] (fun U => U.heap.size = sz ∧ va_P (dC, dI) classes [oc h0 8 [.int 0, .int p1, .ref h1, .ref h2, .ref h3, .ref h4, .ref h5, .ref h6, .ref h7, .ref h8, .ref h9, .ref h10, .ref h11, .ref h12, .int 0, .ref h13, .ref h14, .ref h15, .ref h16, .int p3, .int p4, .ref h17, .ref h18, .ref h19, .int p5, .ref h20, .int p6, .int p7, .ref h21, .ref h22, .ref h23, .ref h24, .ref h25, .ref h26, .ref h27, .ref h28, .int p8, .int p9, .ref h29, .ref h30, .ref h31, .ref h32, .ref h33, .ref h34, .ref h35, .ref h36, .int p10, .ref h37], ia h13 k12 784 f12, ia h14 k13 155 f13, ia h15 k14 2635 f14, la h17 k16 1200000 f16, ia h18 k17 240000 f17, ia h19 k18 65536 f18, la h20 k19 5 f19] U.heap ∧ va_K (dC, dI) classes [(k12, .boolean), (k13, .int), (k14, .int), (k16, .long), (k17, .int), (k18, .int), (k19, .long)] U ∧ va_D (fun _ => True) [oc h0 8 [.int 0, .int p1, .ref h1, .ref h2, .ref h3, .ref h4, .ref h5, .ref h6, .ref h7, .ref h8, .ref h9, .ref h10, .ref h11, .ref h12, .int 0, .ref h13, .ref h14, .ref h15, .ref h16, .int p3, .int p4, .ref h17, .ref h18, .ref h19, .int p5, .ref h20, .int p6, .int p7, .ref h21, .ref h22, .ref h23, .ref h24, .ref h25, .ref h26, .ref h27, .ref h28, .int p8, .int p9, .ref h29, .ref h30, .ref h31, .ref h32, .ref h33, .ref h34, .ref h35, .ref h36, .int p10, .ref h37], ia h13 k12 784 f12, ia h14 k13 155 f13, ia h15 k14 2635 f14, la h17 k16 1200000 f16, ia h18 k17 240000 f17, ia h19 k18 65536 f18, la h20 k19 5 f19] ∧ nw U)) (va_Qi (fun (r : Int32) (_ : Unit) => r = 0) (fun _ t => va_P (dC, dI) classes [] t.heap ∧ va_K (dC, dI) classes [] t ∧ va_D (va_A [oc h0 8 [.int 0, .int p1, .ref h1, .ref h2, .ref h3, .ref h4, .ref h5, .ref h6, .ref h7, .ref h8, .ref h9, .ref h10, .ref h11, .ref h12, .int 0, .ref h13, .ref h14, .ref h15, .ref h16, .int p3, .int p4, .ref h17, .ref h18, .ref h19, .int p5, .ref h20, .int p6, .int p7, .ref h21, .ref h22, .ref h23, .ref h24, .ref h25, .ref h26, .ref h27, .ref h28, .int p8, .int p9, .ref h29, .ref h30, .ref h31, .ref h32, .ref h33, .ref h34, .ref h35, .ref h36, .int p10, .ref h37], ia h13 k12 784 f12, ia h14 k13 155 f13, ia h15 k14 2635 f14, la h17 k16 1200000 f16, ia h18 k17 240000 f17, ia h19 k18 65536 f18, la h20 k19 5 f19] sz) []) (va_A [oc h0 8 [.int 0, .int p1, .ref h1, .ref h2, .ref h3, .ref h4, .ref h5, .ref h6, .ref h7, .ref h8, .ref h9, .ref h10, .ref h11, .ref h12, .int 0, .ref h13, .ref h14, .ref h15, .ref h16, .int p3, .int p4, .ref h17, .ref h18, .ref h19, .int p5, .ref h20, .int p6, .int p7, .ref h21, .ref h22, .ref h23, .ref h24, .ref h25, .ref h26, .ref h27, .ref h28, .int p8, .int p9, .ref h29, .ref h30, .ref h31, .ref h32, .ref h33, .ref h34, .ref h35, .ref h36, .int p10, .ref h37], ia h13 k12 784 f12, ia h14 k13 155 f13, ia h15 k14 2635 f14, la h17 k16 1200000 f16, ia h18 k17 240000 f17, ia h19 k18 65536 f18, la h20 k19 5 f19] sz)) 0 0 (va_A [oc h0 8 [.int 0, .int p1, .ref h1, .ref h2, .ref h3, .ref h4, .ref h5, .ref h6, .ref h7, .ref h8, .ref h9, .ref h10, .ref h11, .ref h12, .int 0, .ref h13, .ref h14, .ref h15, .ref h16, .int p3, .int p4, .ref h17, .ref h18, .ref h19, .int p5, .ref h20, .int p6, .int p7, .ref h21, .ref h22, .ref h23, .ref h24, .ref h25, .ref h26, .ref h27, .ref h28, .int p8, .int p9, .ref h29, .ref h30, .ref h31, .ref h32, .ref h33, .ref h34, .ref h35, .ref h36, .int p10, .ref h37], ia h13 k12 784 f12, ia h14 k13 155 f13, ia h15 k14 2635 f14, la h17 k16 1200000 f16, ia h18 k17 240000 f17, ia h19 k18 65536 f18, la h20 k19 5 f19] sz) := by
  refine Met.ofW (cc := b_Ref_races) (maxL := 4) (ret := (some .int)) (by decide) rfl ?_
  intro p e s m args below meth c s₁ B hml hv
  obtain ⟨rfl, hsz, hP, hK, hD0, hn⟩ := hv
  have hx := B.exec
  have hb := B.bytes
  have hr := B.returns
  have hw := fun w (h : w ∈ wt) => atoms_spec (ws := w_Ref_races) B.pre w (List.mem_cons_of_mem _ h)
  have hown : s.vm.findClass R_Ref = some m.cls := findClass_of_methodNamed B.named
  have hlocks := B.notSynchronized
  subst hsz
  have hD1 := hD0.self (sz := s.heap.size)
  generalize hAe : va_A [oc h0 8 [.int 0, .int p1, .ref h1, .ref h2, .ref h3, .ref h4, .ref h5, .ref h6, .ref h7, .ref h8, .ref h9, .ref h10, .ref h11, .ref h12, .int 0, .ref h13, .ref h14, .ref h15, .ref h16, .int p3, .int p4, .ref h17, .ref h18, .ref h19, .int p5, .ref h20, .int p6, .int p7, .ref h21, .ref h22, .ref h23, .ref h24, .ref h25, .ref h26, .ref h27, .ref h28, .int p8, .int p9, .ref h29, .ref h30, .ref h31, .ref h32, .ref h33, .ref h34, .ref h35, .ref h36, .int p10, .ref h37], ia h13 k12 784 f12, ia h14 k13 155 f13, ia h15 k14 2635 f14, la h17 k16 1200000 f16, ia h18 k17 240000 f17, ia h19 k18 65536 f18, la h20 k19 5 f19] s.heap.size = A at hD1 ⊢
  have hA : ∀ q : Nat, s.heap.size ≤ q → A q := fun q h => by rw [← hAe]; exact Or.inr h
  have hD : dd A [h0, h13, h14, h15, h17, h18, h19, h20] := dd_of hD1 rfl
  clear hAe hD0 hD1
  have hS : va_S A s.heap s.heap [] := va_S.rf
  replace hP : va_P (dC, dI) classes [oc h0 8 [.int 0, .int p1, .ref h1, .ref h2, .ref h3, .ref h4, .ref h5, .ref h6, .ref h7, .ref h8, .ref h9, .ref h10, .ref h11, .ref h12, .int 0, .ref h13, .ref h14, .ref h15, .ref h16, .int p3, .int p4, .ref h17, .ref h18, .ref h19, .int p5, .ref h20, .int p6, .int p7, .ref h21, .ref h22, .ref h23, .ref h24, .ref h25, .ref h26, .ref h27, .ref h28, .int p8, .int p9, .ref h29, .ref h30, .ref h31, .ref h32, .ref h33, .ref h34, .ref h35, .ref h36, .int p10, .ref h37], ia h13 k12 784 f12, ia h14 k13 155 f13, ia h15 k14 2635 f14, la h17 k16 1200000 f16, ia h18 k17 240000 f17, ia h19 k18 65536 f18, la h20 k19 5 f19] s.heap := hP
  have hl := lv_entry ([.ref h0]) (n := 4) (Nat.le_of_ble_eq_true rfl)
  rw [lg_entry_eq]
  generalize (lg_sl ([.ref h0]) ++ List.replicate (4 - (lg_sl ([.ref h0])).length) Slot.unset).toArray = ls at hl ⊢
  replace hl : lv_has ls 4 [(0, .ref h0)] := hl
  refine lv_aload_n hx hb d_Ref_races_0 rfl (lv_at hl 0 rfl) ?_
  obtain ⟨hPc, hDc, hFc⟩ := cut3 (wc := [oc h0 8 [.int 0, .int p1, .ref h1, .ref h2, .ref h3, .ref h4, .ref h5, .ref h6, .ref h7, .ref h8, .ref h9, .ref h10, .ref h11, .ref h12, .int 0, .ref h13, .ref h14, .ref h15, .ref h16, .int p3, .int p4, .ref h17, .ref h18, .ref h19, .int p5, .ref h20, .int p6, .int p7, .ref h21, .ref h22, .ref h23, .ref h24, .ref h25, .ref h26, .ref h27, .ref h28, .int p8, .int p9, .ref h29, .ref h30, .ref h31, .ref h32, .ref h33, .ref h34, .ref h35, .ref h36, .int p10, .ref h37], ia h13 k12 784 f12, ia h14 k13 155 f13, ia h15 k14 2635 f14, la h17 k16 1200000 f16, ia h18 k17 240000 f17, ia h19 k18 65536 f18, la h20 k19 5 f19]) hP hD rfl hS hA [0, 1, 2, 3, 4, 5, 6, 7] (by decide +kernel) rfl
  have hKc := hK.sub (tys' := [(k12, .boolean), (k13, .int), (k14, .int), (k16, .long), (k17, .int), (k18, .int), (k19, .long)]) [0, 1, 2, 3, 4, 5, 6] rfl
  refine va_callv (va_runV (As := []) (rest := []) ⟨hx, hb, hml, hown, hw⟩ (c_Ref_findRaces l dC dI h0 p1 h1 h2 h3 h4 h5 h6 h7 h8 h9 h10 h11 h12 h13 h14 h15 h16 p3 p4 h17 h18 h19 p5 h20 p6 p7 h21 h22 h23 h24 h25 h26 h27 h28 p8 p9 h29 h30 h31 h32 h33 h34 h35 h36 p10 h37 k12 f12 k13 f13 k14 f14 k16 f16 k17 f17 k18 f18 k19 f19 s.heap.size) (cw_V 0 hw g_Ref_findRaces rfl rfl rfl (hw _ m_109) (hw _ m_1288) (hw _ m_1290) (hw _ m_98) (by decide +kernel) ⟨Nat.le_of_ble_eq_true rfl, Nat.le_of_ble_eq_true rfl⟩) ⟨fun a U g mk q => by obtain ⟨q0, q1, qP, qK, qD, qN⟩ := q; exact ⟨q0, q1, qP, va_K.moved (u := U) (U := U.calling g mk a) (Vm.Alike.refl U.vm) qK, qD, nw_call qN⟩, va_recv hKc hPc (ci := 8) (q0 := 0) rfl rfl, fun U hU hW => ⟨rfl, by rw [hU], by rw [hU]; exact hPc, va_K.moved hW.alike hKc, hDc.weaken (fun _ _ _ _ => trivial), nw_warm hW hn⟩⟩ rfl rfl hl.1 rfl (lv_room (Nat.le_of_ble_eq_true rfl)) d_Ref_races_1 ⟨Nat.le_of_ble_eq_true rfl, Nat.le_of_ble_eq_true rfl⟩) hS (fun q _ h => hFc q h) hFc ?_
  intro u t H1 locs1 ht hvm hw1 hB hz1 hk1 hS1
  obtain ⟨g_1, hP1, hK1, hD1⟩ := hB
  rw [ht] at hP1
  replace hK1 := va_K.moved hvm.symm hK1
  have hPD := join3 hP hD rfl [0, 1, 2, 3, 4, 5, 6, 7] [] rfl (by rfl) (by decide +kernel) (by decide +kernel) hk1 hFc hP1 hD1
  replace hK : va_K (dC, dI) classes [(k12, .boolean), (k13, .int), (k14, .int), (k16, .long), (k17, .int), (k18, .int), (k19, .long)] s := hK.app hK1
  clear hP1 hK1 hD1 hk1 hz1 hFc hKc hDc hPc hvm ht hP hS t
  have hP : va_P (dC, dI) classes [oc h0 8 [.int 0, .int p1, .ref h1, .ref h2, .ref h3, .ref h4, .ref h5, .ref h6, .ref h7, .ref h8, .ref h9, .ref h10, .ref h11, .ref h12, .int 1, .ref h13, .ref h14, .ref h15, .ref h16, .int 0, .int 37, .ref h17, .ref h18, .ref h19, .int 1, .ref h20, .int 89, .int 1, .ref h21, .ref h22, .ref h23, .ref h24, .ref h25, .ref h26, .ref h27, .ref h28, .int p8, .int p9, .ref h29, .ref h30, .ref h31, .ref h32, .ref h33, .ref h34, .ref h35, .ref h36, .int p10, .ref h37], ia h13 k12 784 (fun _ => 0), ia h14 k13 155 (fun _ => 0), ia h15 k14 2635 g_1, la h17 k16 1200000 (vp_updL (vp_updL (vp_updL (vp_updL (vp_updL f16 0 1161999626690363392) 1 16909320) 2 0) 3 0) 4 0), ia h18 k17 240000 (upd f17 0 (-1)), ia h19 k18 65536 (upd (fun _ => (-1)) 22162 0), la h20 k19 5 (vp_updL (vp_updL (vp_updL (vp_updL (vp_updL (vp_updL (vp_updL (vp_updL (vp_updL (vp_updL (vp_updL (vp_updL (vp_updL (vp_updL (vp_updL (vp_updL (vp_updL (vp_updL (vp_updL (vp_updL (vp_updL f19 0 0) 1 0) 2 0) 3 0) 4 0) 0 0) 0 0) 0 0) 0 0) 0 262144) 0 33816576) 0 4328783872) 0 554084597760) 0 70922828775424) 0 9078122083516416) 0 1161999626690363392) 0 1161999626690363392) 1 8) 1 1032) 1 132104) 1 16909320)] H1 := hPD.1
  replace hD : dd A [h0, h13, h14, h15, h17, h18, h19, h20] := dd_of hPD.2 rfl
  clear hPD
  revert H1 locs1
  intro H locs hS hP
  clear hw1 u
  refine tp_pc (pc' := 4) (by rfl) ?_
  refine lv_iconst (v := 0) hx hb d_Ref_races_4 (by decide) ?_
  refine lv_istore_n (lv' := [(1, .int 0), (0, .ref h0)]) hx hb d_Ref_races_5 rfl hl (by decide) rfl ?_
  clear hl ls
  intro ls hl
  refine lv_iconst (v := 0) hx hb d_Ref_races_6 (by decide) ?_
  refine lv_istore_n (lv' := [(2, .int 0), (1, .int 0), (0, .ref h0)]) hx hb d_Ref_races_7 rfl hl (by decide) rfl ?_
  clear hl ls
  intro ls hl
  refine lp_l 28 (fun a ls => lv_has ls 4 [(2, .int (nI a)), (1, .int 0), (0, .ref h0)]) (lv_sub hl [0, 1, 2] rfl) ?_ ?_
  · intro a ls ha hl ih0
    refine lv_iload_n hx hb d_Ref_races_8 rfl (lv_at hl 0 rfl) ?_
    refine lv_bipush (v := 28) hx hb d_Ref_races_9 (by decide) ?_
    refine lv_icmp_ge (tgt := 58) hx hb d_Ref_races_11 (by decide) (fun c9 => absurd c9 (nI_ge ha (by decide))) (fun _ => ?_)
    refine lv_iload_n hx hb d_Ref_races_14 rfl (lv_at hl 0 rfl) ?_
    refine lv_iconst (v := 1) hx hb d_Ref_races_15 (by decide) ?_
    refine lv_iadd hx hb d_Ref_races_16 ?_
    refine tp_i (y := nI (a + 1 + 0)) (nI_1 a) ?_
    refine lv_istore_n (lv' := [(3, .int (nI (a + 1 + 0))), (2, .int (nI a)), (1, .int 0), (0, .ref h0)]) hx hb d_Ref_races_17 rfl hl (by decide) rfl ?_
    clear hl ls
    intro ls hl
    refine tp_pc (pc' := 18) (by rfl) ?_
    refine lp_l (27 - a) (fun b ls => lv_has ls 4 [(3, .int (nI (a + 1 + b))), (2, .int (nI a)), (1, .int 0), (0, .ref h0)]) hl ?_ ?_
    · intro b ls hb9 hl ih1
      refine lv_iload_n hx hb d_Ref_races_18 rfl (lv_at hl 0 rfl) ?_
      refine lv_bipush (v := 28) hx hb d_Ref_races_19 (by decide) ?_
      refine lv_icmp_ge (tgt := 52) hx hb d_Ref_races_21 (by decide) (fun c9 => absurd c9 (nI_ge (show a + 1 + b < 28 by omega) (by decide))) (fun _ => ?_)
      refine lv_iload_n hx hb d_Ref_races_24 rfl (lv_at hl 2 rfl) ?_
      refine lv_aload_n hx hb d_Ref_races_25 rfl (lv_at hl 3 rfl) ?_
      refine va_get (D := (dC, dI)) (ci := 8) (v := .ref h13) (C := R_Ref) (T := F_Ref) (N := 48) hx hb hw i_Ref hown hK hP 0 rfl rfl 15 (by decide) (hw _ m_914) (fun _ h9 => h9) rfl d_Ref_races_26 ?_
      refine lv_bipush (v := 28) hx hb d_Ref_races_29 (by decide) ?_
      refine lv_iload_n hx hb d_Ref_races_31 rfl (lv_at hl 1 rfl) ?_
      refine lv_imul hx hb d_Ref_races_32 ?_
      refine tp_i (y := nI (28 * a)) (pk_mul 28 a) ?_
      refine lv_iload_n hx hb d_Ref_races_33 rfl (lv_at hl 0 rfl) ?_
      refine lv_iadd hx hb d_Ref_races_34 ?_
      refine tp_i (y := nI (28 * a + (a + 1 + b))) (nI_add _ _) ?_
      refine va_zald (D := (dC, dI)) hx hb hK hP 1 0 rfl rfl (i := nI (28 * a + (a + 1 + b))) (vp_in_nI (by omega) (by decide)) d_Ref_races_35 ?_
      refine tp_i (y := 0) (by rfl) ?_
      refine lv_if_eq (tgt := 43) hx hb d_Ref_races_36 (by decide) (fun c_3 => ?_) (fun c_3 => absurd c_3 (by decide))
      refine lv_iconst (v := 0) hx hb d_Ref_races_43 (by decide) ?_
      refine lv_iadd hx hb d_Ref_races_44 ?_
      refine tp_i (y := 0) (by first | rfl | decide) ?_
      refine lv_istore_n (lv' := [(1, .int 0), (3, .int (nI (a + 1 + b))), (2, .int (nI a)), (0, .ref h0)]) hx hb d_Ref_races_45 rfl hl (by decide) rfl ?_
      clear hl ls
      intro ls hl
      refine lv_iinc (v := nI (a + 1 + (b + 1))) (lv' := [(3, .int (nI (a + 1 + (b + 1)))), (1, .int 0), (2, .int (nI a)), (0, .ref h0)]) hx hb d_Ref_races_46 hl (k := 1) rfl (nI_1 (a + 1 + b)) (by decide) rfl ?_
      clear hl ls
      intro ls hl
      refine lv_goto (tgt := 18) hx hb d_Ref_races_49 (by decide) ?_
      exact ih1 _ (lv_sub hl [0, 2, 1, 3] rfl)
    · intro ls hl
      rw [show a + 1 + (27 - a) = 28 from by omega] at hl
      refine lv_iload_n hx hb d_Ref_races_18 rfl (lv_at hl 0 rfl) ?_
      refine lv_bipush (v := 28) hx hb d_Ref_races_19 (by decide) ?_
      refine lv_icmp_ge (tgt := 52) hx hb d_Ref_races_21 (by decide) (fun _ => ?_) (fun c9 => absurd (nI_le (Nat.le_refl 28) (by decide)) c9)
      refine lv_iinc (v := nI (a + 1)) (lv' := [(2, .int (nI (a + 1))), (3, .int (nI 28)), (1, .int 0), (0, .ref h0)]) hx hb d_Ref_races_52 hl (k := 1) rfl (nI_1 a) (by decide) rfl ?_
      clear hl ls
      intro ls hl
      refine lv_goto (tgt := 8) hx hb d_Ref_races_55 (by decide) ?_
      exact ih0 _ (lv_sub hl [0, 2, 3] rfl)
  · intro ls hl
    replace hl : lv_has ls 4 [(2, .int 28), (1, .int 0), (0, .ref h0)] := hl
    refine lv_iload_n hx hb d_Ref_races_8 rfl (lv_at hl 0 rfl) ?_
    refine lv_bipush (v := 28) hx hb d_Ref_races_9 (by decide) ?_
    refine lv_icmp_ge (tgt := 58) hx hb d_Ref_races_11 (by decide) (fun c_4 => ?_) (fun c_4 => absurd c_4 (by decide))
    refine tp_pc (pc' := 58) (by rfl) ?_
    refine lv_iload_n hx hb d_Ref_races_58 rfl (lv_at hl 1 rfl) ?_
    obtain ⟨hP9, hD9, -⟩ := cut3 (wc := []) hP hD rfl hS hA [] (by decide +kernel) rfl
    have hK9 := hK.sub (tys' := []) [] rfl
    refine W.widen (k := 0) (n := 0) (by exact Nat.le_of_ble_eq_true rfl) (by exact Nat.le_of_ble_eq_true rfl) ?_
    exact W.iret (v := 0) hx hb hr (fun t ht hW => ⟨⟨0, (), rfl, rfl, by rw [ht]; exact hP9, va_K.moved hW.alike hK9, hD9⟩, hS.F ht⟩) hS.2.2 d_Ref_races_59
set_option maxHeartbeats 4000000 in
set_option maxRecDepth 100000 in
theorem c_Ref_isAction (l : Launch) (dC : Nat → ClassId) (dI : Nat → Nat → Nat) (h0 : Nat) (p0 : Int32) (p1 : Int32) (p3 : Int32) (h1 : Nat) (h2 : Nat) (h3 : Nat) (h4 : Nat) (h5 : Nat) (h6 : Nat) (h7 : Nat) (h8 : Nat) (h9 : Nat) (h10 : Nat) (h11 : Nat) (h12 : Nat) (p4 : Int32) (h13 : Nat) (h14 : Nat) (h15 : Nat) (h16 : Nat) (p5 : Int32) (p6 : Int32) (h17 : Nat) (h18 : Nat) (h19 : Nat) (p7 : Int32) (h20 : Nat) (p8 : Int32) (p9 : Int32) (h21 : Nat) (h22 : Nat) (h23 : Nat) (h24 : Nat) (h25 : Nat) (h26 : Nat) (h27 : Nat) (h28 : Nat) (p10 : Int32) (p11 : Int32) (h29 : Nat) (h30 : Nat) (h31 : Nat) (h32 : Nat) (h33 : Nat) (h34 : Nat) (h35 : Nat) (h36 : Nat) (p12 : Int32) (h37 : Nat) (sz : Nat) : Met l y_Ref_isAction w_Ref_isAction ({ frames := 0, cells := 0, slots := 0, locals := 0 }) (va_Pc [.ref h0, .int p0, .int p1] (fun U => U.heap.size = sz ∧ va_P (dC, dI) classes [oc h0 8 [.int 0, .int p3, .ref h1, .ref h2, .ref h3, .ref h4, .ref h5, .ref h6, .ref h7, .ref h8, .ref h9, .ref h10, .ref h11, .ref h12, .int p4, .ref h13, .ref h14, .ref h15, .ref h16, .int p5, .int p6, .ref h17, .ref h18, .ref h19, .int p7, .ref h20, .int p8, .int p9, .ref h21, .ref h22, .ref h23, .ref h24, .ref h25, .ref h26, .ref h27, .ref h28, .int p10, .int p11, .ref h29, .ref h30, .ref h31, .ref h32, .ref h33, .ref h34, .ref h35, .ref h36, .int p12, .ref h37]] U.heap ∧ va_K (dC, dI) classes [] U ∧ va_D (fun _ => True) [oc h0 8 [.int 0, .int p3, .ref h1, .ref h2, .ref h3, .ref h4, .ref h5, .ref h6, .ref h7, .ref h8, .ref h9, .ref h10, .ref h11, .ref h12, .int p4, .ref h13, .ref h14, .ref h15, .ref h16, .int p5, .int p6, .ref h17, .ref h18, .ref h19, .int p7, .ref h20, .int p8, .int p9, .ref h21, .ref h22, .ref h23, .ref h24, .ref h25, .ref h26, .ref h27, .ref h28, .int p10, .int p11, .ref h29, .ref h30, .ref h31, .ref h32, .ref h33, .ref h34, .ref h35, .ref h36, .int p12, .ref h37]] ∧ nw U)) (va_Qi (fun (r : Int32) (_ : Unit) => r = 0) (fun _ t => va_P (dC, dI) classes [oc h0 8 [.int 0, .int p3, .ref h1, .ref h2, .ref h3, .ref h4, .ref h5, .ref h6, .ref h7, .ref h8, .ref h9, .ref h10, .ref h11, .ref h12, .int p4, .ref h13, .ref h14, .ref h15, .ref h16, .int p5, .int p6, .ref h17, .ref h18, .ref h19, .int p7, .ref h20, .int p8, .int p9, .ref h21, .ref h22, .ref h23, .ref h24, .ref h25, .ref h26, .ref h27, .ref h28, .int p10, .int p11, .ref h29, .ref h30, .ref h31, .ref h32, .ref h33, .ref h34, .ref h35, .ref h36, .int p12, .ref h37]] t.heap ∧ va_K (dC, dI) classes [] t ∧ va_D (va_A [oc h0 8 [.int 0, .int p3, .ref h1, .ref h2, .ref h3, .ref h4, .ref h5, .ref h6, .ref h7, .ref h8, .ref h9, .ref h10, .ref h11, .ref h12, .int p4, .ref h13, .ref h14, .ref h15, .ref h16, .int p5, .int p6, .ref h17, .ref h18, .ref h19, .int p7, .ref h20, .int p8, .int p9, .ref h21, .ref h22, .ref h23, .ref h24, .ref h25, .ref h26, .ref h27, .ref h28, .int p10, .int p11, .ref h29, .ref h30, .ref h31, .ref h32, .ref h33, .ref h34, .ref h35, .ref h36, .int p12, .ref h37]] sz) [oc h0 8 [.int 0, .int p3, .ref h1, .ref h2, .ref h3, .ref h4, .ref h5, .ref h6, .ref h7, .ref h8, .ref h9, .ref h10, .ref h11, .ref h12, .int p4, .ref h13, .ref h14, .ref h15, .ref h16, .int p5, .int p6, .ref h17, .ref h18, .ref h19, .int p7, .ref h20, .int p8, .int p9, .ref h21, .ref h22, .ref h23, .ref h24, .ref h25, .ref h26, .ref h27, .ref h28, .int p10, .int p11, .ref h29, .ref h30, .ref h31, .ref h32, .ref h33, .ref h34, .ref h35, .ref h36, .int p12, .ref h37]]) (va_A [oc h0 8 [.int 0, .int p3, .ref h1, .ref h2, .ref h3, .ref h4, .ref h5, .ref h6, .ref h7, .ref h8, .ref h9, .ref h10, .ref h11, .ref h12, .int p4, .ref h13, .ref h14, .ref h15, .ref h16, .int p5, .int p6, .ref h17, .ref h18, .ref h19, .int p7, .ref h20, .int p8, .int p9, .ref h21, .ref h22, .ref h23, .ref h24, .ref h25, .ref h26, .ref h27, .ref h28, .int p10, .int p11, .ref h29, .ref h30, .ref h31, .ref h32, .ref h33, .ref h34, .ref h35, .ref h36, .int p12, .ref h37]] sz)) 0 0 (va_A [oc h0 8 [.int 0, .int p3, .ref h1, .ref h2, .ref h3, .ref h4, .ref h5, .ref h6, .ref h7, .ref h8, .ref h9, .ref h10, .ref h11, .ref h12, .int p4, .ref h13, .ref h14, .ref h15, .ref h16, .int p5, .int p6, .ref h17, .ref h18, .ref h19, .int p7, .ref h20, .int p8, .int p9, .ref h21, .ref h22, .ref h23, .ref h24, .ref h25, .ref h26, .ref h27, .ref h28, .int p10, .int p11, .ref h29, .ref h30, .ref h31, .ref h32, .ref h33, .ref h34, .ref h35, .ref h36, .int p12, .ref h37]] sz) := by
  refine Met.ofW (cc := b_Ref_isAction) (maxL := 3) (ret := (some .boolean)) (by decide) rfl ?_
  intro p e s m args below meth c s₁ B hml hv
  obtain ⟨rfl, hsz, hP, hK, hD0, hn⟩ := hv
  have hx := B.exec
  have hb := B.bytes
  have hr := B.returns
  have hw := fun w (h : w ∈ wt) => atoms_spec (ws := w_Ref_isAction) B.pre w (List.mem_cons_of_mem _ h)
  have hown : s.vm.findClass R_Ref = some m.cls := findClass_of_methodNamed B.named
  have hlocks := B.notSynchronized
  subst hsz
  have hD1 := hD0.self (sz := s.heap.size)
  generalize hAe : va_A [oc h0 8 [.int 0, .int p3, .ref h1, .ref h2, .ref h3, .ref h4, .ref h5, .ref h6, .ref h7, .ref h8, .ref h9, .ref h10, .ref h11, .ref h12, .int p4, .ref h13, .ref h14, .ref h15, .ref h16, .int p5, .int p6, .ref h17, .ref h18, .ref h19, .int p7, .ref h20, .int p8, .int p9, .ref h21, .ref h22, .ref h23, .ref h24, .ref h25, .ref h26, .ref h27, .ref h28, .int p10, .int p11, .ref h29, .ref h30, .ref h31, .ref h32, .ref h33, .ref h34, .ref h35, .ref h36, .int p12, .ref h37]] s.heap.size = A at hD1 ⊢
  have hA : ∀ q : Nat, s.heap.size ≤ q → A q := fun q h => by rw [← hAe]; exact Or.inr h
  have hD : dd A [h0] := dd_of hD1 rfl
  clear hAe hD0 hD1
  have hS : va_S A s.heap s.heap [] := va_S.rf
  replace hP : va_P (dC, dI) classes [oc h0 8 [.int 0, .int p3, .ref h1, .ref h2, .ref h3, .ref h4, .ref h5, .ref h6, .ref h7, .ref h8, .ref h9, .ref h10, .ref h11, .ref h12, .int p4, .ref h13, .ref h14, .ref h15, .ref h16, .int p5, .int p6, .ref h17, .ref h18, .ref h19, .int p7, .ref h20, .int p8, .int p9, .ref h21, .ref h22, .ref h23, .ref h24, .ref h25, .ref h26, .ref h27, .ref h28, .int p10, .int p11, .ref h29, .ref h30, .ref h31, .ref h32, .ref h33, .ref h34, .ref h35, .ref h36, .int p12, .ref h37]] s.heap := hP
  have hl := lv_entry ([.ref h0, .int p0, .int p1]) (n := 3) (Nat.le_of_ble_eq_true rfl)
  rw [lg_entry_eq]
  generalize (lg_sl ([.ref h0, .int p0, .int p1]) ++ List.replicate (3 - (lg_sl ([.ref h0, .int p0, .int p1])).length) Slot.unset).toArray = ls at hl ⊢
  replace hl : lv_has ls 3 [(0, .ref h0), (1, .int p0), (2, .int p1)] := hl
  refine lv_iload_n hx hb d_Ref_isAction_0 rfl (lv_at hl 1 rfl) ?_
  refine lv_if_lt (tgt := 30) hx hb d_Ref_isAction_1 (by decide) (fun c_1 => ?_) (fun c_1 => ?_)
  · skip
    refine lv_iconst (v := 0) hx hb d_Ref_isAction_30 (by decide) ?_
    obtain ⟨hP9, hD9, -⟩ := cut3 (wc := [oc h0 8 [.int 0, .int p3, .ref h1, .ref h2, .ref h3, .ref h4, .ref h5, .ref h6, .ref h7, .ref h8, .ref h9, .ref h10, .ref h11, .ref h12, .int p4, .ref h13, .ref h14, .ref h15, .ref h16, .int p5, .int p6, .ref h17, .ref h18, .ref h19, .int p7, .ref h20, .int p8, .int p9, .ref h21, .ref h22, .ref h23, .ref h24, .ref h25, .ref h26, .ref h27, .ref h28, .int p10, .int p11, .ref h29, .ref h30, .ref h31, .ref h32, .ref h33, .ref h34, .ref h35, .ref h36, .int p12, .ref h37]]) hP hD rfl hS hA [0] (by decide +kernel) rfl
    have hK9 := hK.sub (tys' := []) [] rfl
    refine W.widen (k := 0) (n := 0) (by exact Nat.le_of_ble_eq_true rfl) (by exact Nat.le_of_ble_eq_true rfl) ?_
    exact W.zret (v := 0) (ty := .boolean) hx hb hr (by decide) (fun t ht hW => ⟨⟨0, (), rfl, rfl, by rw [ht]; exact hP9, va_K.moved hW.alike hK9, hD9⟩, hS.F ht⟩) hS.2.2 d_Ref_isAction_31
  · skip
    refine lv_iload_n hx hb d_Ref_isAction_4 rfl (lv_at hl 1 rfl) ?_
    refine lv_aload_n hx hb d_Ref_isAction_5 rfl (lv_at hl 0 rfl) ?_
    refine va_get (D := (dC, dI)) (ci := 8) (v := .int 0) (C := R_Ref) (T := F_Ref) (N := 48) hx hb hw i_Ref hown hK hP 0 rfl rfl 0 (by decide) (hw _ m_899) (fun _ h9 => h9) rfl d_Ref_isAction_6 ?_
    refine lv_icmp_ge (tgt := 30) hx hb d_Ref_isAction_9 (by decide) (fun c_2 => ?_) (fun c_2 => ?_)
    · skip
      refine lv_iconst (v := 0) hx hb d_Ref_isAction_30 (by decide) ?_
      obtain ⟨hP9, hD9, -⟩ := cut3 (wc := [oc h0 8 [.int 0, .int p3, .ref h1, .ref h2, .ref h3, .ref h4, .ref h5, .ref h6, .ref h7, .ref h8, .ref h9, .ref h10, .ref h11, .ref h12, .int p4, .ref h13, .ref h14, .ref h15, .ref h16, .int p5, .int p6, .ref h17, .ref h18, .ref h19, .int p7, .ref h20, .int p8, .int p9, .ref h21, .ref h22, .ref h23, .ref h24, .ref h25, .ref h26, .ref h27, .ref h28, .int p10, .int p11, .ref h29, .ref h30, .ref h31, .ref h32, .ref h33, .ref h34, .ref h35, .ref h36, .int p12, .ref h37]]) hP hD rfl hS hA [0] (by decide +kernel) rfl
      have hK9 := hK.sub (tys' := []) [] rfl
      refine W.widen (k := 0) (n := 0) (by exact Nat.le_of_ble_eq_true rfl) (by exact Nat.le_of_ble_eq_true rfl) ?_
      exact W.zret (v := 0) (ty := .boolean) hx hb hr (by decide) (fun t ht hW => ⟨⟨0, (), rfl, rfl, by rw [ht]; exact hP9, va_K.moved hW.alike hK9, hD9⟩, hS.F ht⟩) hS.2.2 d_Ref_isAction_31
    · skip
      exfalso
      simp only [Int32.lt_iff_toInt_lt, Int32.le_iff_toInt_le, ← Int32.toInt_inj] at c_1 c_2
      have k0 : (0 : Int32).toInt = 0 := by decide
      omega
set_option maxHeartbeats 4000000 in
set_option maxRecDepth 100000 in
theorem c_Ref_race (l : Launch) (dC : Nat → ClassId) (dI : Nat → Nat → Nat) (h0 : Nat) (p0 : Int32) (p1 : Int32) (p2 : Int32) (p3 : Int32) (p5 : Int32) (h1 : Nat) (h2 : Nat) (h3 : Nat) (h4 : Nat) (h5 : Nat) (h6 : Nat) (h7 : Nat) (h8 : Nat) (h9 : Nat) (h10 : Nat) (h11 : Nat) (h12 : Nat) (p6 : Int32) (h13 : Nat) (h14 : Nat) (h15 : Nat) (h16 : Nat) (p7 : Int32) (p8 : Int32) (h17 : Nat) (h18 : Nat) (h19 : Nat) (p9 : Int32) (h20 : Nat) (p10 : Int32) (p11 : Int32) (h21 : Nat) (h22 : Nat) (h23 : Nat) (h24 : Nat) (h25 : Nat) (h26 : Nat) (h27 : Nat) (h28 : Nat) (p12 : Int32) (p13 : Int32) (h29 : Nat) (h30 : Nat) (h31 : Nat) (h32 : Nat) (h33 : Nat) (h34 : Nat) (h35 : Nat) (h36 : Nat) (p14 : Int32) (h37 : Nat) (sz : Nat) : Met l y_Ref_race w_Ref_race ({ frames := 1, cells := 0, slots := 0, locals := 22 }) (va_Pc [.ref h0, .int p0, .int p1, .int p2, .int p3] (fun U => U.heap.size = sz ∧ va_P (dC, dI) classes [oc h0 8 [.int 0, .int p5, .ref h1, .ref h2, .ref h3, .ref h4, .ref h5, .ref h6, .ref h7, .ref h8, .ref h9, .ref h10, .ref h11, .ref h12, .int p6, .ref h13, .ref h14, .ref h15, .ref h16, .int p7, .int p8, .ref h17, .ref h18, .ref h19, .int p9, .ref h20, .int p10, .int p11, .ref h21, .ref h22, .ref h23, .ref h24, .ref h25, .ref h26, .ref h27, .ref h28, .int p12, .int p13, .ref h29, .ref h30, .ref h31, .ref h32, .ref h33, .ref h34, .ref h35, .ref h36, .int p14, .ref h37]] U.heap ∧ va_K (dC, dI) classes [] U ∧ va_D (fun _ => True) [oc h0 8 [.int 0, .int p5, .ref h1, .ref h2, .ref h3, .ref h4, .ref h5, .ref h6, .ref h7, .ref h8, .ref h9, .ref h10, .ref h11, .ref h12, .int p6, .ref h13, .ref h14, .ref h15, .ref h16, .int p7, .int p8, .ref h17, .ref h18, .ref h19, .int p9, .ref h20, .int p10, .int p11, .ref h21, .ref h22, .ref h23, .ref h24, .ref h25, .ref h26, .ref h27, .ref h28, .int p12, .int p13, .ref h29, .ref h30, .ref h31, .ref h32, .ref h33, .ref h34, .ref h35, .ref h36, .int p14, .ref h37]] ∧ nw U)) (va_Qi (fun (r : Int32) (_ : Unit) => r = (-1)) (fun _ t => va_P (dC, dI) classes [] t.heap ∧ va_K (dC, dI) classes [] t ∧ va_D (va_A [oc h0 8 [.int 0, .int p5, .ref h1, .ref h2, .ref h3, .ref h4, .ref h5, .ref h6, .ref h7, .ref h8, .ref h9, .ref h10, .ref h11, .ref h12, .int p6, .ref h13, .ref h14, .ref h15, .ref h16, .int p7, .int p8, .ref h17, .ref h18, .ref h19, .int p9, .ref h20, .int p10, .int p11, .ref h21, .ref h22, .ref h23, .ref h24, .ref h25, .ref h26, .ref h27, .ref h28, .int p12, .int p13, .ref h29, .ref h30, .ref h31, .ref h32, .ref h33, .ref h34, .ref h35, .ref h36, .int p14, .ref h37]] sz) []) (va_A [oc h0 8 [.int 0, .int p5, .ref h1, .ref h2, .ref h3, .ref h4, .ref h5, .ref h6, .ref h7, .ref h8, .ref h9, .ref h10, .ref h11, .ref h12, .int p6, .ref h13, .ref h14, .ref h15, .ref h16, .int p7, .int p8, .ref h17, .ref h18, .ref h19, .int p9, .ref h20, .int p10, .int p11, .ref h21, .ref h22, .ref h23, .ref h24, .ref h25, .ref h26, .ref h27, .ref h28, .int p12, .int p13, .ref h29, .ref h30, .ref h31, .ref h32, .ref h33, .ref h34, .ref h35, .ref h36, .int p14, .ref h37]] sz)) 0 0 (va_A [oc h0 8 [.int 0, .int p5, .ref h1, .ref h2, .ref h3, .ref h4, .ref h5, .ref h6, .ref h7, .ref h8, .ref h9, .ref h10, .ref h11, .ref h12, .int p6, .ref h13, .ref h14, .ref h15, .ref h16, .int p7, .int p8, .ref h17, .ref h18, .ref h19, .int p9, .ref h20, .int p10, .int p11, .ref h21, .ref h22, .ref h23, .ref h24, .ref h25, .ref h26, .ref h27, .ref h28, .int p12, .int p13, .ref h29, .ref h30, .ref h31, .ref h32, .ref h33, .ref h34, .ref h35, .ref h36, .int p14, .ref h37]] sz) := by
  refine Met.ofW (cc := b_Ref_race) (maxL := 5) (ret := (some .int)) (by decide) rfl ?_
  intro p e s m args below meth c s₁ B hml hv
  obtain ⟨rfl, hsz, hP, hK, hD0, hn⟩ := hv
  have hx := B.exec
  have hb := B.bytes
  have hr := B.returns
  have hw := fun w (h : w ∈ wt) => atoms_spec (ws := w_Ref_race) B.pre w (List.mem_cons_of_mem _ h)
  have hown : s.vm.findClass R_Ref = some m.cls := findClass_of_methodNamed B.named
  have hlocks := B.notSynchronized
  subst hsz
  have hD1 := hD0.self (sz := s.heap.size)
  generalize hAe : va_A [oc h0 8 [.int 0, .int p5, .ref h1, .ref h2, .ref h3, .ref h4, .ref h5, .ref h6, .ref h7, .ref h8, .ref h9, .ref h10, .ref h11, .ref h12, .int p6, .ref h13, .ref h14, .ref h15, .ref h16, .int p7, .int p8, .ref h17, .ref h18, .ref h19, .int p9, .ref h20, .int p10, .int p11, .ref h21, .ref h22, .ref h23, .ref h24, .ref h25, .ref h26, .ref h27, .ref h28, .int p12, .int p13, .ref h29, .ref h30, .ref h31, .ref h32, .ref h33, .ref h34, .ref h35, .ref h36, .int p14, .ref h37]] s.heap.size = A at hD1 ⊢
  have hA : ∀ q : Nat, s.heap.size ≤ q → A q := fun q h => by rw [← hAe]; exact Or.inr h
  have hD : dd A [h0] := dd_of hD1 rfl
  clear hAe hD0 hD1
  have hS : va_S A s.heap s.heap [] := va_S.rf
  replace hP : va_P (dC, dI) classes [oc h0 8 [.int 0, .int p5, .ref h1, .ref h2, .ref h3, .ref h4, .ref h5, .ref h6, .ref h7, .ref h8, .ref h9, .ref h10, .ref h11, .ref h12, .int p6, .ref h13, .ref h14, .ref h15, .ref h16, .int p7, .int p8, .ref h17, .ref h18, .ref h19, .int p9, .ref h20, .int p10, .int p11, .ref h21, .ref h22, .ref h23, .ref h24, .ref h25, .ref h26, .ref h27, .ref h28, .int p12, .int p13, .ref h29, .ref h30, .ref h31, .ref h32, .ref h33, .ref h34, .ref h35, .ref h36, .int p14, .ref h37]] s.heap := hP
  have hl := lv_entry ([.ref h0, .int p0, .int p1, .int p2, .int p3]) (n := 5) (Nat.le_of_ble_eq_true rfl)
  rw [lg_entry_eq]
  generalize (lg_sl ([.ref h0, .int p0, .int p1, .int p2, .int p3]) ++ List.replicate (5 - (lg_sl ([.ref h0, .int p0, .int p1, .int p2, .int p3])).length) Slot.unset).toArray = ls at hl ⊢
  replace hl : lv_has ls 5 [(0, .ref h0), (1, .int p0), (2, .int p1), (3, .int p2), (4, .int p3)] := hl
  refine lv_aload_n hx hb d_Ref_race_0 rfl (lv_at hl 0 rfl) ?_
  refine lv_iload_n hx hb d_Ref_race_1 rfl (lv_at hl 1 rfl) ?_
  refine lv_iload_n hx hb d_Ref_race_2 rfl (lv_at hl 2 rfl) ?_
  obtain ⟨hPc, hDc, hFc⟩ := cut3 (wc := [oc h0 8 [.int 0, .int p5, .ref h1, .ref h2, .ref h3, .ref h4, .ref h5, .ref h6, .ref h7, .ref h8, .ref h9, .ref h10, .ref h11, .ref h12, .int p6, .ref h13, .ref h14, .ref h15, .ref h16, .int p7, .int p8, .ref h17, .ref h18, .ref h19, .int p9, .ref h20, .int p10, .int p11, .ref h21, .ref h22, .ref h23, .ref h24, .ref h25, .ref h26, .ref h27, .ref h28, .int p12, .int p13, .ref h29, .ref h30, .ref h31, .ref h32, .ref h33, .ref h34, .ref h35, .ref h36, .int p14, .ref h37]]) hP hD rfl hS hA [0] (by decide +kernel) rfl
  have hKc := hK.sub (tys' := []) [] rfl
  refine va_calli (va_runV (As := [.int p0, .int p1]) (rest := []) ⟨hx, hb, hml, hown, hw⟩ (c_Ref_isAction l dC dI h0 p0 p1 p5 h1 h2 h3 h4 h5 h6 h7 h8 h9 h10 h11 h12 p6 h13 h14 h15 h16 p7 p8 h17 h18 h19 p9 h20 p10 p11 h21 h22 h23 h24 h25 h26 h27 h28 p12 p13 h29 h30 h31 h32 h33 h34 h35 h36 p14 h37 s.heap.size) (cw_V 2 hw g_Ref_isAction rfl rfl rfl (hw _ m_109) (hw _ m_1296) (hw _ m_1298) (hw _ m_99) (by decide +kernel) ⟨Nat.le_of_ble_eq_true rfl, Nat.le_of_ble_eq_true rfl⟩) ⟨fun a U g mk q => by obtain ⟨q0, q1, qP, qK, qD, qN⟩ := q; exact ⟨q0, q1, qP, va_K.moved (u := U) (U := U.calling g mk a) (Vm.Alike.refl U.vm) qK, qD, nw_call qN⟩, va_recv hKc hPc (ci := 8) (q0 := 0) rfl rfl, fun U hU hW => ⟨rfl, by rw [hU], by rw [hU]; exact hPc, va_K.moved hW.alike hKc, hDc.weaken (fun _ _ _ _ => trivial), nw_warm hW hn⟩⟩ rfl rfl hl.1 rfl (lv_room (Nat.le_of_ble_eq_true rfl)) d_Ref_race_3 ⟨Nat.le_of_ble_eq_true rfl, Nat.le_of_ble_eq_true rfl⟩) hS (fun q _ h => hFc q h) hFc ?_
  intro r_1 u t H1 locs1 ht hvm hw1 hB hz1 hk1 hS1
  obtain ⟨hP1, hK1, hD1⟩ := hB
  rw [ht] at hP1
  replace hK1 := va_K.moved hvm.symm hK1
  have hPD := join3 hP hD rfl [0] [] rfl (by rfl) (by decide +kernel) (by decide +kernel) hk1 hFc hP1 hD1
  replace hK : va_K (dC, dI) classes [] s := hK.app hK1
  clear hP1 hK1 hD1 hk1 hz1 hFc hKc hDc hPc hvm ht hP hS t
  have hP : va_P (dC, dI) classes [oc h0 8 [.int 0, .int p5, .ref h1, .ref h2, .ref h3, .ref h4, .ref h5, .ref h6, .ref h7, .ref h8, .ref h9, .ref h10, .ref h11, .ref h12, .int p6, .ref h13, .ref h14, .ref h15, .ref h16, .int p7, .int p8, .ref h17, .ref h18, .ref h19, .int p9, .ref h20, .int p10, .int p11, .ref h21, .ref h22, .ref h23, .ref h24, .ref h25, .ref h26, .ref h27, .ref h28, .int p12, .int p13, .ref h29, .ref h30, .ref h31, .ref h32, .ref h33, .ref h34, .ref h35, .ref h36, .int p14, .ref h37]] H1 := hPD.1
  replace hD : dd A [h0] := dd_of hPD.2 rfl
  clear hPD
  revert H1 locs1
  intro H locs hS hP
  refine tp_i (y := 0) hw1 ?_
  clear hw1 r_1 u
  refine tp_pc (pc' := 6) (by rfl) ?_
  refine lv_if_eq (tgt := 24) hx hb d_Ref_race_6 (by decide) (fun c_2 => ?_) (fun c_2 => absurd c_2 (by decide))
  refine tp_pc (pc' := 24) (by rfl) ?_
  refine lv_iconst (v := (-1)) hx hb d_Ref_race_24 (by decide) ?_
  obtain ⟨hP9, hD9, -⟩ := cut3 (wc := []) hP hD rfl hS hA [] (by decide +kernel) rfl
  have hK9 := hK.sub (tys' := []) [] rfl
  refine W.widen (k := 0) (n := 0) (by exact Nat.le_of_ble_eq_true rfl) (by exact Nat.le_of_ble_eq_true rfl) ?_
  exact W.iret (v := (-1)) hx hb hr (fun t ht hW => ⟨⟨(-1), (), rfl, rfl, by rw [ht]; exact hP9, va_K.moved hW.alike hK9, hD9⟩, hS.F ht⟩) hS.2.2 d_Ref_race_25
set_option maxHeartbeats 4000000 in
set_option maxRecDepth 100000 in
theorem c_Ref_find_v5 (l : Launch) (dC : Nat → ClassId) (dI : Nat → Nat → Nat) (h0 : Nat) (p1 : Int32) (p2 : Int32) (h1 : Nat) (h2 : Nat) (h3 : Nat) (h4 : Nat) (h5 : Nat) (h6 : Nat) (h7 : Nat) (h8 : Nat) (h9 : Nat) (h10 : Nat) (h11 : Nat) (h12 : Nat) (p3 : Int32) (h13 : Nat) (h14 : Nat) (h15 : Nat) (h16 : Nat) (p4 : Int32) (p5 : Int32) (h17 : Nat) (h18 : Nat) (h19 : Nat) (p6 : Int32) (h20 : Nat) (p7 : Int32) (p8 : Int32) (h21 : Nat) (h22 : Nat) (h23 : Nat) (h24 : Nat) (h25 : Nat) (h26 : Nat) (h27 : Nat) (h28 : Nat) (p9 : Int32) (p10 : Int32) (h29 : Nat) (h30 : Nat) (h31 : Nat) (h32 : Nat) (h33 : Nat) (h34 : Nat) (h35 : Nat) (h36 : Nat) (p11 : Int32) (h37 : Nat) (k5 : ClassId) (sz : Nat) : Met l y_Ref_find w_Ref_find ({ frames := 0, cells := 0, slots := 0, locals := 0 }) (va_Pc [.ref h0, .int 0] (fun U => U.heap.size = sz ∧ va_P (dC, dI) classes [oc h0 8 [.int p1, .int p2, .ref h1, .ref h2, .ref h3, .ref h4, .ref h5, .ref h6, .ref h7, .ref h8, .ref h9, .ref h10, .ref h11, .ref h12, .int p3, .ref h13, .ref h14, .ref h15, .ref h16, .int p4, .int p5, .ref h17, .ref h18, .ref h19, .int p6, .ref h20, .int p7, .int p8, .ref h21, .ref h22, .ref h23, .ref h24, .ref h25, .ref h26, .ref h27, .ref h28, .int p9, .int p10, .ref h29, .ref h30, .ref h31, .ref h32, .ref h33, .ref h34, .ref h35, .ref h36, .int p11, .ref h37], ia h6 k5 8 (upd (fun _ => 0) 0 1)] U.heap ∧ va_K (dC, dI) classes [(k5, .boolean)] U ∧ va_D (fun _ => True) [oc h0 8 [.int p1, .int p2, .ref h1, .ref h2, .ref h3, .ref h4, .ref h5, .ref h6, .ref h7, .ref h8, .ref h9, .ref h10, .ref h11, .ref h12, .int p3, .ref h13, .ref h14, .ref h15, .ref h16, .int p4, .int p5, .ref h17, .ref h18, .ref h19, .int p6, .ref h20, .int p7, .int p8, .ref h21, .ref h22, .ref h23, .ref h24, .ref h25, .ref h26, .ref h27, .ref h28, .int p9, .int p10, .ref h29, .ref h30, .ref h31, .ref h32, .ref h33, .ref h34, .ref h35, .ref h36, .int p11, .ref h37], ia h6 k5 8 (upd (fun _ => 0) 0 1)] ∧ nw U)) (va_Qv (fun _ : Unit => True) (fun _ t => va_P (dC, dI) classes [oc h0 8 [.int p1, .int p2, .ref h1, .ref h2, .ref h3, .ref h4, .ref h5, .ref h6, .ref h7, .ref h8, .ref h9, .ref h10, .ref h11, .ref h12, .int p3, .ref h13, .ref h14, .ref h15, .ref h16, .int p4, .int p5, .ref h17, .ref h18, .ref h19, .int p6, .ref h20, .int p7, .int p8, .ref h21, .ref h22, .ref h23, .ref h24, .ref h25, .ref h26, .ref h27, .ref h28, .int p9, .int p10, .ref h29, .ref h30, .ref h31, .ref h32, .ref h33, .ref h34, .ref h35, .ref h36, .int p11, .ref h37], ia h6 k5 8 (upd (fun _ => 0) 0 1)] t.heap ∧ va_K (dC, dI) classes [] t ∧ va_D (va_A [oc h0 8 [.int p1, .int p2, .ref h1, .ref h2, .ref h3, .ref h4, .ref h5, .ref h6, .ref h7, .ref h8, .ref h9, .ref h10, .ref h11, .ref h12, .int p3, .ref h13, .ref h14, .ref h15, .ref h16, .int p4, .int p5, .ref h17, .ref h18, .ref h19, .int p6, .ref h20, .int p7, .int p8, .ref h21, .ref h22, .ref h23, .ref h24, .ref h25, .ref h26, .ref h27, .ref h28, .int p9, .int p10, .ref h29, .ref h30, .ref h31, .ref h32, .ref h33, .ref h34, .ref h35, .ref h36, .int p11, .ref h37], ia h6 k5 8 (upd (fun _ => 0) 0 1)] sz) [oc h0 8 [.int p1, .int p2, .ref h1, .ref h2, .ref h3, .ref h4, .ref h5, .ref h6, .ref h7, .ref h8, .ref h9, .ref h10, .ref h11, .ref h12, .int p3, .ref h13, .ref h14, .ref h15, .ref h16, .int p4, .int p5, .ref h17, .ref h18, .ref h19, .int p6, .ref h20, .int p7, .int p8, .ref h21, .ref h22, .ref h23, .ref h24, .ref h25, .ref h26, .ref h27, .ref h28, .int p9, .int p10, .ref h29, .ref h30, .ref h31, .ref h32, .ref h33, .ref h34, .ref h35, .ref h36, .int p11, .ref h37], ia h6 k5 8 (upd (fun _ => 0) 0 1)]) (va_A [oc h0 8 [.int p1, .int p2, .ref h1, .ref h2, .ref h3, .ref h4, .ref h5, .ref h6, .ref h7, .ref h8, .ref h9, .ref h10, .ref h11, .ref h12, .int p3, .ref h13, .ref h14, .ref h15, .ref h16, .int p4, .int p5, .ref h17, .ref h18, .ref h19, .int p6, .ref h20, .int p7, .int p8, .ref h21, .ref h22, .ref h23, .ref h24, .ref h25, .ref h26, .ref h27, .ref h28, .int p9, .int p10, .ref h29, .ref h30, .ref h31, .ref h32, .ref h33, .ref h34, .ref h35, .ref h36, .int p11, .ref h37], ia h6 k5 8 (upd (fun _ => 0) 0 1)] sz)) 0 0 (va_A [oc h0 8 [.int p1, .int p2, .ref h1, .ref h2, .ref h3, .ref h4, .ref h5, .ref h6, .ref h7, .ref h8, .ref h9, .ref h10, .ref h11, .ref h12, .int p3, .ref h13, .ref h14, .ref h15, .ref h16, .int p4, .int p5, .ref h17, .ref h18, .ref h19, .int p6, .ref h20, .int p7, .int p8, .ref h21, .ref h22, .ref h23, .ref h24, .ref h25, .ref h26, .ref h27, .ref h28, .int p9, .int p10, .ref h29, .ref h30, .ref h31, .ref h32, .ref h33, .ref h34, .ref h35, .ref h36, .int p11, .ref h37], ia h6 k5 8 (upd (fun _ => 0) 0 1)] sz) := by
  refine Met.ofW (cc := b_Ref_find) (maxL := 2) (ret := none) (by decide) rfl ?_
  intro p e s m args below meth c s₁ B hml hv
  obtain ⟨rfl, hsz, hP, hK, hD0, hn⟩ := hv
  have hx := B.exec
  have hb := B.bytes
  have hr := B.returns
  have hw := fun w (h : w ∈ wt) => atoms_spec (ws := w_Ref_find) B.pre w (List.mem_cons_of_mem _ h)
  have hown : s.vm.findClass R_Ref = some m.cls := findClass_of_methodNamed B.named
  have hlocks := B.notSynchronized
  subst hsz
  have hD1 := hD0.self (sz := s.heap.size)
  generalize hAe : va_A [oc h0 8 [.int p1, .int p2, .ref h1, .ref h2, .ref h3, .ref h4, .ref h5, .ref h6, .ref h7, .ref h8, .ref h9, .ref h10, .ref h11, .ref h12, .int p3, .ref h13, .ref h14, .ref h15, .ref h16, .int p4, .int p5, .ref h17, .ref h18, .ref h19, .int p6, .ref h20, .int p7, .int p8, .ref h21, .ref h22, .ref h23, .ref h24, .ref h25, .ref h26, .ref h27, .ref h28, .int p9, .int p10, .ref h29, .ref h30, .ref h31, .ref h32, .ref h33, .ref h34, .ref h35, .ref h36, .int p11, .ref h37], ia h6 k5 8 (upd (fun _ => 0) 0 1)] s.heap.size = A at hD1 ⊢
  have hA : ∀ q : Nat, s.heap.size ≤ q → A q := fun q h => by rw [← hAe]; exact Or.inr h
  have hD : dd A [h0, h6] := dd_of hD1 rfl
  clear hAe hD0 hD1
  have hS : va_S A s.heap s.heap [] := va_S.rf
  replace hP : va_P (dC, dI) classes [oc h0 8 [.int p1, .int p2, .ref h1, .ref h2, .ref h3, .ref h4, .ref h5, .ref h6, .ref h7, .ref h8, .ref h9, .ref h10, .ref h11, .ref h12, .int p3, .ref h13, .ref h14, .ref h15, .ref h16, .int p4, .int p5, .ref h17, .ref h18, .ref h19, .int p6, .ref h20, .int p7, .int p8, .ref h21, .ref h22, .ref h23, .ref h24, .ref h25, .ref h26, .ref h27, .ref h28, .int p9, .int p10, .ref h29, .ref h30, .ref h31, .ref h32, .ref h33, .ref h34, .ref h35, .ref h36, .int p11, .ref h37], ia h6 k5 8 (upd (fun _ => 0) 0 1)] s.heap := hP
  have hl := lv_entry ([.ref h0, .int 0]) (n := 2) (Nat.le_of_ble_eq_true rfl)
  rw [lg_entry_eq]
  generalize (lg_sl ([.ref h0, .int 0]) ++ List.replicate (2 - (lg_sl ([.ref h0, .int 0])).length) Slot.unset).toArray = ls at hl ⊢
  replace hl : lv_has ls 2 [(0, .ref h0), (1, .int 0)] := hl
  refine lv_aload_n hx hb d_Ref_find_0 rfl (lv_at hl 0 rfl) ?_
  refine va_get (D := (dC, dI)) (ci := 8) (v := .ref h6) (C := R_Ref) (T := F_Ref) (N := 48) hx hb hw i_Ref hown hK hP 0 rfl rfl 7 (by decide) (hw _ m_906) (fun _ h9 => h9) rfl d_Ref_find_1 ?_
  refine lv_iload_n hx hb d_Ref_find_4 rfl (lv_at hl 1 rfl) ?_
  refine va_zald (D := (dC, dI)) hx hb hK hP 1 0 rfl rfl (i := 0) (vp_c (by decide)) d_Ref_find_5 ?_
  refine tp_i (y := 1) (by first | rfl | decide) ?_
  refine lv_if_ne (tgt := 22) hx hb d_Ref_find_6 (by decide) (fun c_1 => ?_) (fun c_1 => absurd c_1 (by decide))
  refine tp_pc (pc' := 22) (by rfl) ?_
  obtain ⟨hP9, hD9, -⟩ := cut3 (wc := [oc h0 8 [.int p1, .int p2, .ref h1, .ref h2, .ref h3, .ref h4, .ref h5, .ref h6, .ref h7, .ref h8, .ref h9, .ref h10, .ref h11, .ref h12, .int p3, .ref h13, .ref h14, .ref h15, .ref h16, .int p4, .int p5, .ref h17, .ref h18, .ref h19, .int p6, .ref h20, .int p7, .int p8, .ref h21, .ref h22, .ref h23, .ref h24, .ref h25, .ref h26, .ref h27, .ref h28, .int p9, .int p10, .ref h29, .ref h30, .ref h31, .ref h32, .ref h33, .ref h34, .ref h35, .ref h36, .int p11, .ref h37], ia h6 k5 8 (upd (fun _ => 0) 0 1)]) hP hD rfl hS hA [0, 1] (by decide +kernel) rfl
  have hK9 := hK.sub (tys' := []) [] rfl
  refine W.widen (k := 0) (n := 0) (by exact Nat.le_of_ble_eq_true rfl) (by exact Nat.le_of_ble_eq_true rfl) ?_
  exact W.vret hx hb hr (fun t ht hW => ⟨⟨(), rfl, trivial, by rw [ht]; exact hP9, va_K.moved hW.alike hK9, hD9⟩, hS.F ht⟩) hS.2.2 d_Ref_find_22
