set_option maxHeartbeats 4000000 in
set_option maxRecDepth 100000 in
theorem c_Ref_wasMet_v3 (l : Launch) (dC : Nat → ClassId) (dI : Nat → Nat → Nat) (h0 : Nat) (p0 : Int32) (p1 : Int32) (h1 : Nat) (h2 : Nat) (h3 : Nat) (h4 : Nat) (h5 : Nat) (h6 : Nat) (h7 : Nat) (h8 : Nat) (h9 : Nat) (h10 : Nat) (h11 : Nat) (h12 : Nat) (p2 : Int32) (h13 : Nat) (h14 : Nat) (h15 : Nat) (h16 : Nat) (p4 : Int32) (h17 : Nat) (h18 : Nat) (h19 : Nat) (h20 : Nat) (p6 : Int32) (p7 : Int32) (h21 : Nat) (h22 : Nat) (h23 : Nat) (h24 : Nat) (h25 : Nat) (h26 : Nat) (h27 : Nat) (h28 : Nat) (p8 : Int32) (p9 : Int32) (h29 : Nat) (h30 : Nat) (h31 : Nat) (h32 : Nat) (h33 : Nat) (h34 : Nat) (h35 : Nat) (h36 : Nat) (p10 : Int32) (h37 : Nat) (k13 : ClassId) (k16 : ClassId) (f16 : Nat → Int64) (k17 : ClassId) (f17 : Nat → Int32) (k18 : ClassId) (k19 : ClassId) (f19 : Nat → Int64) (sz : Nat) : Met l y_Ref_wasMet w_Ref_wasMet ({ frames := 2, cells := 0, slots := 0, locals := 51 }) (va_Pc [.ref h0] (fun U => U.heap.size = sz ∧ va_P (dC, dI) classes [oc h0 8 [.int p0, .int p1, .ref h1, .ref h2, .ref h3, .ref h4, .ref h5, .ref h6, .ref h7, .ref h8, .ref h9, .ref h10, .ref h11, .ref h12, .int p2, .ref h13, .ref h14, .ref h15, .ref h16, .int 2, .int p4, .ref h17, .ref h18, .ref h19, .int 0, .ref h20, .int p6, .int p7, .ref h21, .ref h22, .ref h23, .ref h24, .ref h25, .ref h26, .ref h27, .ref h28, .int p8, .int p9, .ref h29, .ref h30, .ref h31, .ref h32, .ref h33, .ref h34, .ref h35, .ref h36, .int p10, .ref h37], ia h14 k13 155 (fun _ => 0), la h17 k16 1200000 f16, ia h18 k17 240000 f17, ia h19 k18 65536 (fun _ => (-1)), la h20 k19 5 f19] U.heap ∧ va_K (dC, dI) classes [(k13, .int), (k16, .long), (k17, .int), (k18, .int), (k19, .long)] U ∧ va_D (fun _ => True) [oc h0 8 [.int p0, .int p1, .ref h1, .ref h2, .ref h3, .ref h4, .ref h5, .ref h6, .ref h7, .ref h8, .ref h9, .ref h10, .ref h11, .ref h12, .int p2, .ref h13, .ref h14, .ref h15, .ref h16, .int 2, .int p4, .ref h17, .ref h18, .ref h19, .int 0, .ref h20, .int p6, .int p7, .ref h21, .ref h22, .ref h23, .ref h24, .ref h25, .ref h26, .ref h27, .ref h28, .int p8, .int p9, .ref h29, .ref h30, .ref h31, .ref h32, .ref h33, .ref h34, .ref h35, .ref h36, .int p10, .ref h37], ia h14 k13 155 (fun _ => 0), la h17 k16 1200000 f16, ia h18 k17 240000 f17, ia h19 k18 65536 (fun _ => (-1)), la h20 k19 5 f19] ∧ nw U)) (va_Qi (fun (r : Int32) (_ : Unit) => r = 0) (fun _ t => va_P (dC, dI) classes [oc h0 8 [.int p0, .int p1, .ref h1, .ref h2, .ref h3, .ref h4, .ref h5, .ref h6, .ref h7, .ref h8, .ref h9, .ref h10, .ref h11, .ref h12, .int p2, .ref h13, .ref h14, .ref h15, .ref h16, .int 2, .int p4, .ref h17, .ref h18, .ref h19, .int 1, .ref h20, .int 125, .int p7, .ref h21, .ref h22, .ref h23, .ref h24, .ref h25, .ref h26, .ref h27, .ref h28, .int p8, .int p9, .ref h29, .ref h30, .ref h31, .ref h32, .ref h33, .ref h34, .ref h35, .ref h36, .int p10, .ref h37], ia h14 k13 155 (fun _ => 0), la h17 k16 1200000 (vp_updL (vp_updL (vp_updL (vp_updL (vp_updL f16 0 1161999626690363392) 1 16909320) 2 0) 3 0) 4 0), ia h18 k17 240000 (upd f17 0 (-1)), ia h19 k18 65536 (upd (fun _ => (-1)) 22162 0), la h20 k19 5 (vp_updL (vp_updL (vp_updL (vp_updL (vp_updL (vp_updL (vp_updL (vp_updL (vp_updL (vp_updL (vp_updL (vp_updL (vp_updL (vp_updL (vp_updL (vp_updL (vp_updL (vp_updL (vp_updL (vp_updL (vp_updL (vp_updL (vp_updL (vp_updL (vp_updL (vp_updL (vp_updL (vp_updL (vp_updL (vp_updL (vp_updL (vp_updL (vp_updL f19 0 0) 1 0) 2 0) 3 0) 4 0) 0 0) 0 0) 0 0) 0 0) 0 262144) 0 33816576) 0 4328783872) 0 554084597760) 0 70922828775424) 0 9078122083516416) 0 1161999626690363392) 0 1161999626690363392) 1 8) 1 1032) 1 132104) 1 16909320) 1 16909320) 1 16909320) 1 16909320) 1 16909320) 1 16909320) 1 16909320) 1 16909320) 1 16909320) 1 16909320) 1 16909320) 1 16909320) 1 16909320)] t.heap ∧ va_K (dC, dI) classes [] t ∧ va_D (va_A [oc h0 8 [.int p0, .int p1, .ref h1, .ref h2, .ref h3, .ref h4, .ref h5, .ref h6, .ref h7, .ref h8, .ref h9, .ref h10, .ref h11, .ref h12, .int p2, .ref h13, .ref h14, .ref h15, .ref h16, .int 2, .int p4, .ref h17, .ref h18, .ref h19, .int 0, .ref h20, .int p6, .int p7, .ref h21, .ref h22, .ref h23, .ref h24, .ref h25, .ref h26, .ref h27, .ref h28, .int p8, .int p9, .ref h29, .ref h30, .ref h31, .ref h32, .ref h33, .ref h34, .ref h35, .ref h36, .int p10, .ref h37], ia h14 k13 155 (fun _ => 0), la h17 k16 1200000 f16, ia h18 k17 240000 f17, ia h19 k18 65536 (fun _ => (-1)), la h20 k19 5 f19] sz) [oc h0 8 [.int p0, .int p1, .ref h1, .ref h2, .ref h3, .ref h4, .ref h5, .ref h6, .ref h7, .ref h8, .ref h9, .ref h10, .ref h11, .ref h12, .int p2, .ref h13, .ref h14, .ref h15, .ref h16, .int 2, .int p4, .ref h17, .ref h18, .ref h19, .int 1, .ref h20, .int 125, .int p7, .ref h21, .ref h22, .ref h23, .ref h24, .ref h25, .ref h26, .ref h27, .ref h28, .int p8, .int p9, .ref h29, .ref h30, .ref h31, .ref h32, .ref h33, .ref h34, .ref h35, .ref h36, .int p10, .ref h37], ia h14 k13 155 (fun _ => 0), la h17 k16 1200000 (vp_updL (vp_updL (vp_updL (vp_updL (vp_updL f16 0 1161999626690363392) 1 16909320) 2 0) 3 0) 4 0), ia h18 k17 240000 (upd f17 0 (-1)), ia h19 k18 65536 (upd (fun _ => (-1)) 22162 0), la h20 k19 5 (vp_updL (vp_updL (vp_updL (vp_updL (vp_updL (vp_updL (vp_updL (vp_updL (vp_updL (vp_updL (vp_updL (vp_updL (vp_updL (vp_updL (vp_updL (vp_updL (vp_updL (vp_updL (vp_updL (vp_updL (vp_updL (vp_updL (vp_updL (vp_updL (vp_updL (vp_updL (vp_updL (vp_updL (vp_updL (vp_updL (vp_updL (vp_updL (vp_updL f19 0 0) 1 0) 2 0) 3 0) 4 0) 0 0) 0 0) 0 0) 0 0) 0 262144) 0 33816576) 0 4328783872) 0 554084597760) 0 70922828775424) 0 9078122083516416) 0 1161999626690363392) 0 1161999626690363392) 1 8) 1 1032) 1 132104) 1 16909320) 1 16909320) 1 16909320) 1 16909320) 1 16909320) 1 16909320) 1 16909320) 1 16909320) 1 16909320) 1 16909320) 1 16909320) 1 16909320) 1 16909320)]) (va_A [oc h0 8 [.int p0, .int p1, .ref h1, .ref h2, .ref h3, .ref h4, .ref h5, .ref h6, .ref h7, .ref h8, .ref h9, .ref h10, .ref h11, .ref h12, .int p2, .ref h13, .ref h14, .ref h15, .ref h16, .int 2, .int p4, .ref h17, .ref h18, .ref h19, .int 0, .ref h20, .int p6, .int p7, .ref h21, .ref h22, .ref h23, .ref h24, .ref h25, .ref h26, .ref h27, .ref h28, .int p8, .int p9, .ref h29, .ref h30, .ref h31, .ref h32, .ref h33, .ref h34, .ref h35, .ref h36, .int p10, .ref h37], ia h14 k13 155 (fun _ => 0), la h17 k16 1200000 f16, ia h18 k17 240000 f17, ia h19 k18 65536 (fun _ => (-1)), la h20 k19 5 f19] sz)) 0 0 (va_A [oc h0 8 [.int p0, .int p1, .ref h1, .ref h2, .ref h3, .ref h4, .ref h5, .ref h6, .ref h7, .ref h8, .ref h9, .ref h10, .ref h11, .ref h12, .int p2, .ref h13, .ref h14, .ref h15, .ref h16, .int 2, .int p4, .ref h17, .ref h18, .ref h19, .int 0, .ref h20, .int p6, .int p7, .ref h21, .ref h22, .ref h23, .ref h24, .ref h25, .ref h26, .ref h27, .ref h28, .int p8, .int p9, .ref h29, .ref h30, .ref h31, .ref h32, .ref h33, .ref h34, .ref h35, .ref h36, .int p10, .ref h37], ia h14 k13 155 (fun _ => 0), la h17 k16 1200000 f16, ia h18 k17 240000 f17, ia h19 k18 65536 (fun _ => (-1)), la h20 k19 5 f19] sz) := by
  refine Met.ofW (cc := b_Ref_wasMet) (maxL := 7) (ret := (some .boolean)) (by decide) rfl ?_
  intro p e s m args below meth c s₁ B hml hv
  obtain ⟨rfl, hsz, hP, hK, hD0, hn⟩ := hv
  have hx := B.exec
  have hb := B.bytes
  have hr := B.returns
  have hw := fun w (h : w ∈ wt) => atoms_spec (ws := w_Ref_wasMet) B.pre w (List.mem_cons_of_mem _ h)
  have hown : s.vm.findClass R_Ref = some m.cls := findClass_of_methodNamed B.named
  have hlocks := B.notSynchronized
  subst hsz
  have hD1 := hD0.self (sz := s.heap.size)
  generalize hAe : va_A [oc h0 8 [.int p0, .int p1, .ref h1, .ref h2, .ref h3, .ref h4, .ref h5, .ref h6, .ref h7, .ref h8, .ref h9, .ref h10, .ref h11, .ref h12, .int p2, .ref h13, .ref h14, .ref h15, .ref h16, .int 2, .int p4, .ref h17, .ref h18, .ref h19, .int 0, .ref h20, .int p6, .int p7, .ref h21, .ref h22, .ref h23, .ref h24, .ref h25, .ref h26, .ref h27, .ref h28, .int p8, .int p9, .ref h29, .ref h30, .ref h31, .ref h32, .ref h33, .ref h34, .ref h35, .ref h36, .int p10, .ref h37], ia h14 k13 155 (fun _ => 0), la h17 k16 1200000 f16, ia h18 k17 240000 f17, ia h19 k18 65536 (fun _ => (-1)), la h20 k19 5 f19] s.heap.size = A at hD1 ⊢
  have hA : ∀ q : Nat, s.heap.size ≤ q → A q := fun q h => by rw [← hAe]; exact Or.inr h
  have hD : dd A [h0, h14, h17, h18, h19, h20] := dd_of hD1 rfl
  clear hAe hD0 hD1
  have hS : va_S A s.heap s.heap [] := va_S.rf
  replace hP : va_P (dC, dI) classes [oc h0 8 [.int p0, .int p1, .ref h1, .ref h2, .ref h3, .ref h4, .ref h5, .ref h6, .ref h7, .ref h8, .ref h9, .ref h10, .ref h11, .ref h12, .int p2, .ref h13, .ref h14, .ref h15, .ref h16, .int 2, .int p4, .ref h17, .ref h18, .ref h19, .int 0, .ref h20, .int p6, .int p7, .ref h21, .ref h22, .ref h23, .ref h24, .ref h25, .ref h26, .ref h27, .ref h28, .int p8, .int p9, .ref h29, .ref h30, .ref h31, .ref h32, .ref h33, .ref h34, .ref h35, .ref h36, .int p10, .ref h37], ia h14 k13 155 (fun _ => 0), la h17 k16 1200000 f16, ia h18 k17 240000 f17, ia h19 k18 65536 (fun _ => (-1)), la h20 k19 5 f19] s.heap := hP
  have hl := lv_entry ([.ref h0]) (n := 7) (Nat.le_of_ble_eq_true rfl)
  rw [lg_entry_eq]
  generalize (lg_sl ([.ref h0]) ++ List.replicate (7 - (lg_sl ([.ref h0])).length) Slot.unset).toArray = ls at hl ⊢
  replace hl : lv_has ls 7 [(0, .ref h0)] := hl
  refine lv_aload_n hx hb d_Ref_wasMet_0 rfl (lv_at hl 0 rfl) ?_
  obtain ⟨hPc, hDc, hFc⟩ := cut3 (wc := [oc h0 8 [.int p0, .int p1, .ref h1, .ref h2, .ref h3, .ref h4, .ref h5, .ref h6, .ref h7, .ref h8, .ref h9, .ref h10, .ref h11, .ref h12, .int p2, .ref h13, .ref h14, .ref h15, .ref h16, .int 2, .int p4, .ref h17, .ref h18, .ref h19, .int 0, .ref h20, .int p6, .int p7, .ref h21, .ref h22, .ref h23, .ref h24, .ref h25, .ref h26, .ref h27, .ref h28, .int p8, .int p9, .ref h29, .ref h30, .ref h31, .ref h32, .ref h33, .ref h34, .ref h35, .ref h36, .int p10, .ref h37], ia h14 k13 155 (fun _ => 0), la h20 k19 5 f19]) hP hD rfl hS hA [0, 1, 5] (by decide +kernel) rfl
  have hKc := hK.sub (tys' := [(k13, .int), (k19, .long)]) [0, 4] rfl
  refine va_callv (va_runV (As := []) (rest := []) ⟨hx, hb, hml, hown, hw⟩ (c_Ref_encode_v3 l dC dI h0 p0 p1 h1 h2 h3 h4 h5 h6 h7 h8 h9 h10 h11 h12 p2 h13 h14 h15 h16 p4 h17 h18 h19 0 h20 p6 p7 h21 h22 h23 h24 h25 h26 h27 h28 p8 p9 h29 h30 h31 h32 h33 h34 h35 h36 p10 h37 k13 k19 f19 s.heap.size) (cw_V 0 hw g_Ref_encode rfl rfl rfl (hw _ m_109) (hw _ m_1089) (hw _ m_1091) (hw _ m_57) (by decide +kernel) ⟨Nat.le_of_ble_eq_true rfl, Nat.le_of_ble_eq_true rfl⟩) ⟨fun a U g mk q => by obtain ⟨q0, q1, qP, qK, qD, qN⟩ := q; exact ⟨q0, q1, qP, va_K.moved (u := U) (U := U.calling g mk a) (Vm.Alike.refl U.vm) qK, qD, nw_call qN⟩, va_recv hKc hPc (ci := 8) (q0 := 0) rfl rfl, fun U hU hW => ⟨rfl, by rw [hU], by rw [hU]; exact hPc, va_K.moved hW.alike hKc, hDc.weaken (fun _ _ _ _ => trivial), nw_warm hW hn⟩⟩ rfl rfl hl.1 rfl (lv_room (Nat.le_of_ble_eq_true rfl)) d_Ref_wasMet_1 ⟨Nat.le_of_ble_eq_true rfl, Nat.le_of_ble_eq_true rfl⟩) hS (fun q _ h => hFc q h) hFc ?_
  intro u t H1 locs1 ht hvm hw1 hB hz1 hk1 hS1
  obtain ⟨hP1, hK1, hD1⟩ := hB
  rw [ht] at hP1
  replace hK1 := va_K.moved hvm.symm hK1
  have hPD := join3 hP hD rfl [0, 1, 5] [2, 3, 4] rfl (by rfl) (by decide +kernel) (by decide +kernel) hk1 hFc hP1 hD1
  replace hK : va_K (dC, dI) classes [(k13, .int), (k16, .long), (k17, .int), (k18, .int), (k19, .long)] s := hK.app hK1
  clear hP1 hK1 hD1 hk1 hz1 hFc hKc hDc hPc hvm ht hP hS t
  have hP : va_P (dC, dI) classes [la h17 k16 1200000 f16, ia h18 k17 240000 f17, ia h19 k18 65536 (fun _ => (-1)), oc h0 8 [.int p0, .int p1, .ref h1, .ref h2, .ref h3, .ref h4, .ref h5, .ref h6, .ref h7, .ref h8, .ref h9, .ref h10, .ref h11, .ref h12, .int p2, .ref h13, .ref h14, .ref h15, .ref h16, .int 2, .int p4, .ref h17, .ref h18, .ref h19, .int 0, .ref h20, .int 125, .int p7, .ref h21, .ref h22, .ref h23, .ref h24, .ref h25, .ref h26, .ref h27, .ref h28, .int p8, .int p9, .ref h29, .ref h30, .ref h31, .ref h32, .ref h33, .ref h34, .ref h35, .ref h36, .int p10, .ref h37], ia h14 k13 155 (fun _ => 0), la h20 k19 5 (vp_updL (vp_updL (vp_updL (vp_updL (vp_updL (vp_updL (vp_updL (vp_updL (vp_updL (vp_updL (vp_updL (vp_updL (vp_updL (vp_updL (vp_updL (vp_updL (vp_updL (vp_updL (vp_updL (vp_updL (vp_updL (vp_updL (vp_updL (vp_updL (vp_updL (vp_updL (vp_updL (vp_updL (vp_updL (vp_updL (vp_updL (vp_updL (vp_updL f19 0 0) 1 0) 2 0) 3 0) 4 0) 0 0) 0 0) 0 0) 0 0) 0 262144) 0 33816576) 0 4328783872) 0 554084597760) 0 70922828775424) 0 9078122083516416) 0 1161999626690363392) 0 1161999626690363392) 1 8) 1 1032) 1 132104) 1 16909320) 1 16909320) 1 16909320) 1 16909320) 1 16909320) 1 16909320) 1 16909320) 1 16909320) 1 16909320) 1 16909320) 1 16909320) 1 16909320) 1 16909320)] H1 := hPD.1
  replace hD : dd A [h17, h18, h19, h0, h14, h20] := dd_of hPD.2 rfl
  clear hPD
  revert H1 locs1
  intro H locs hS hP
  clear hw1 u
  refine tp_pc (pc' := 4) (by rfl) ?_
  refine lv_lconst (v := 0) hx hb d_Ref_wasMet_4 (by decide) ?_
  refine lv_lstore_n (lv' := [(1, .long 0), (0, .ref h0)]) hx hb d_Ref_wasMet_5 rfl hl (by decide) rfl ?_
  clear hl ls
  intro ls hl
  refine lv_iconst (v := 0) hx hb d_Ref_wasMet_6 (by decide) ?_
  refine lv_istore_n (lv' := [(3, .int 0), (1, .long 0), (0, .ref h0)]) hx hb d_Ref_wasMet_7 rfl hl (by decide) rfl ?_
  clear hl ls
  intro ls hl
  refine lv_iload_n hx hb d_Ref_wasMet_8 rfl (lv_at hl 0 rfl) ?_
  refine lv_iconst (v := 5) hx hb d_Ref_wasMet_9 (by decide) ?_
  refine lv_icmp_ge (tgt := 39) hx hb d_Ref_wasMet_10 (by decide) (fun c_2 => absurd c_2 (by decide)) (fun c_2 => ?_)
  refine tp_pc (pc' := 13) (by rfl) ?_
  refine lv_lload_n hx hb d_Ref_wasMet_13 rfl (lv_at hl 1 rfl) ?_
  refine lv_aload_n hx hb d_Ref_wasMet_14 rfl (lv_at hl 2 rfl) ?_
  refine va_get (D := (dC, dI)) (ci := 8) (v := .ref h20) (C := R_Ref) (T := F_Ref) (N := 48) hx hb hw i_Ref hown hK hP 3 rfl rfl 25 (by decide) (hw _ m_924) (fun _ h9 => h9) rfl d_Ref_wasMet_15 ?_
  refine lv_iload_n hx hb d_Ref_wasMet_18 rfl (lv_at hl 0 rfl) ?_
  refine va_lald (D := (dC, dI)) hx hb hK hP 5 4 rfl rfl (i := 0) (vp_c (by decide)) d_Ref_wasMet_19 ?_
  refine tp_l (y := 1161999626690363392) (by first | rfl | decide) ?_
  refine lv_lxor hx hb d_Ref_wasMet_20 ?_
  refine tp_l (y := 1161999626690363392) (by first | rfl | decide) ?_
  refine lv_ldc2 hx hb hown (hw _ m_1109) d_Ref_wasMet_21 ?_
  refine lv_lmul hx hb d_Ref_wasMet_24 ?_
  refine tp_l (y := (-1147757411582083072)) (by first | rfl | decide) ?_
  refine lv_lstore_n (lv' := [(1, .long (-1147757411582083072)), (3, .int 0), (0, .ref h0)]) hx hb d_Ref_wasMet_25 rfl hl (by decide) rfl ?_
  clear hl ls
  intro ls hl
  refine lv_lload_n hx hb d_Ref_wasMet_26 rfl (lv_at hl 0 rfl) ?_
  refine lv_lload_n hx hb d_Ref_wasMet_27 rfl (lv_at hl 0 rfl) ?_
  refine lv_bipush (v := 29) hx hb d_Ref_wasMet_28 (by decide) ?_
  refine lv_lushr (v := 32221873592) hx hb d_Ref_wasMet_30 (by first | rfl | decide) ?_
  refine lv_lxor hx hb d_Ref_wasMet_31 ?_
  refine tp_l (y := (-1147757439491848776)) (by first | rfl | decide) ?_
  refine lv_lstore_n (lv' := [(1, .long (-1147757439491848776)), (3, .int 0), (0, .ref h0)]) hx hb d_Ref_wasMet_32 rfl hl (by decide) rfl ?_
  clear hl ls
  intro ls hl
  refine lv_iinc (v := 1) (lv' := [(3, .int 1), (1, .long (-1147757439491848776)), (0, .ref h0)]) hx hb d_Ref_wasMet_33 hl (k := 1) rfl (by first | rfl | decide) (by decide) rfl ?_
  clear hl ls
  intro ls hl
  refine lv_goto (tgt := 8) hx hb d_Ref_wasMet_36 (by decide) ?_
  refine tp_pc (pc' := 8) (by rfl) ?_
  refine lv_iload_n hx hb d_Ref_wasMet_8 rfl (lv_at hl 0 rfl) ?_
  refine lv_iconst (v := 5) hx hb d_Ref_wasMet_9 (by decide) ?_
  refine lv_icmp_ge (tgt := 39) hx hb d_Ref_wasMet_10 (by decide) (fun c_3 => absurd c_3 (by decide)) (fun c_3 => ?_)
  refine tp_pc (pc' := 13) (by rfl) ?_
  refine lv_lload_n hx hb d_Ref_wasMet_13 rfl (lv_at hl 1 rfl) ?_
  refine lv_aload_n hx hb d_Ref_wasMet_14 rfl (lv_at hl 2 rfl) ?_
  refine va_get (D := (dC, dI)) (ci := 8) (v := .ref h20) (C := R_Ref) (T := F_Ref) (N := 48) hx hb hw i_Ref hown hK hP 3 rfl rfl 25 (by decide) (hw _ m_924) (fun _ h9 => h9) rfl d_Ref_wasMet_15 ?_
  refine lv_iload_n hx hb d_Ref_wasMet_18 rfl (lv_at hl 0 rfl) ?_
  refine va_lald (D := (dC, dI)) hx hb hK hP 5 4 rfl rfl (i := 1) (vp_c (by decide)) d_Ref_wasMet_19 ?_
  refine tp_l (y := 16909320) (by first | rfl | decide) ?_
  refine lv_lxor hx hb d_Ref_wasMet_20 ?_
  refine tp_l (y := (-1147757439475203664)) (by first | rfl | decide) ?_
  refine lv_ldc2 hx hb hown (hw _ m_1109) d_Ref_wasMet_21 ?_
  refine lv_lmul hx hb d_Ref_wasMet_24 ?_
  refine tp_l (y := (-6749034272111910032)) (by first | rfl | decide) ?_
  refine lv_lstore_n (lv' := [(1, .long (-6749034272111910032)), (3, .int 1), (0, .ref h0)]) hx hb d_Ref_wasMet_25 rfl hl (by decide) rfl ?_
  clear hl ls
  intro ls hl
  refine lv_lload_n hx hb d_Ref_wasMet_26 rfl (lv_at hl 0 rfl) ?_
  refine lv_lload_n hx hb d_Ref_wasMet_27 rfl (lv_at hl 0 rfl) ?_
  refine lv_bipush (v := 29) hx hb d_Ref_wasMet_28 (by decide) ?_
  refine lv_lushr (v := 21788682419) hx hb d_Ref_wasMet_30 (by first | rfl | decide) ?_
  refine lv_lxor hx hb d_Ref_wasMet_31 ?_
  refine tp_l (y := (-6749034284702381117)) (by first | rfl | decide) ?_
  refine lv_lstore_n (lv' := [(1, .long (-6749034284702381117)), (3, .int 1), (0, .ref h0)]) hx hb d_Ref_wasMet_32 rfl hl (by decide) rfl ?_
  clear hl ls
  intro ls hl
  refine lv_iinc (v := 2) (lv' := [(3, .int 2), (1, .long (-6749034284702381117)), (0, .ref h0)]) hx hb d_Ref_wasMet_33 hl (k := 1) rfl (by first | rfl | decide) (by decide) rfl ?_
  clear hl ls
  intro ls hl
  refine lv_goto (tgt := 8) hx hb d_Ref_wasMet_36 (by decide) ?_
  refine tp_pc (pc' := 8) (by rfl) ?_
  refine lv_iload_n hx hb d_Ref_wasMet_8 rfl (lv_at hl 0 rfl) ?_
  refine lv_iconst (v := 5) hx hb d_Ref_wasMet_9 (by decide) ?_
  refine lv_icmp_ge (tgt := 39) hx hb d_Ref_wasMet_10 (by decide) (fun c_4 => absurd c_4 (by decide)) (fun c_4 => ?_)
  refine tp_pc (pc' := 13) (by rfl) ?_
  refine lv_lload_n hx hb d_Ref_wasMet_13 rfl (lv_at hl 1 rfl) ?_
  refine lv_aload_n hx hb d_Ref_wasMet_14 rfl (lv_at hl 2 rfl) ?_
  refine va_get (D := (dC, dI)) (ci := 8) (v := .ref h20) (C := R_Ref) (T := F_Ref) (N := 48) hx hb hw i_Ref hown hK hP 3 rfl rfl 25 (by decide) (hw _ m_924) (fun _ h9 => h9) rfl d_Ref_wasMet_15 ?_
  refine lv_iload_n hx hb d_Ref_wasMet_18 rfl (lv_at hl 0 rfl) ?_
  refine va_lald (D := (dC, dI)) hx hb hK hP 5 4 rfl rfl (i := 2) (vp_c (by decide)) d_Ref_wasMet_19 ?_
  refine tp_l (y := 0) (by first | rfl | decide) ?_
  refine lv_lxor hx hb d_Ref_wasMet_20 ?_
  refine tp_l (y := (-6749034284702381117)) (by first | rfl | decide) ?_
  refine lv_ldc2 hx hb hown (hw _ m_1109) d_Ref_wasMet_21 ?_
  refine lv_lmul hx hb d_Ref_wasMet_24 ?_
  refine tp_l (y := 1075682743227394815) (by first | rfl | decide) ?_
  refine lv_lstore_n (lv' := [(1, .long 1075682743227394815), (3, .int 2), (0, .ref h0)]) hx hb d_Ref_wasMet_25 rfl hl (by decide) rfl ?_
  clear hl ls
  intro ls hl
  refine lv_lload_n hx hb d_Ref_wasMet_26 rfl (lv_at hl 0 rfl) ?_
  refine lv_lload_n hx hb d_Ref_wasMet_27 rfl (lv_at hl 0 rfl) ?_
  refine lv_bipush (v := 29) hx hb d_Ref_wasMet_28 (by decide) ?_
  refine lv_lushr (v := 2003615243) hx hb d_Ref_wasMet_30 (by first | rfl | decide) ?_
  refine lv_lxor hx hb d_Ref_wasMet_31 ?_
  refine tp_l (y := 1075682741438813428) (by first | rfl | decide) ?_
  refine lv_lstore_n (lv' := [(1, .long 1075682741438813428), (3, .int 2), (0, .ref h0)]) hx hb d_Ref_wasMet_32 rfl hl (by decide) rfl ?_
  clear hl ls
  intro ls hl
  refine lv_iinc (v := 3) (lv' := [(3, .int 3), (1, .long 1075682741438813428), (0, .ref h0)]) hx hb d_Ref_wasMet_33 hl (k := 1) rfl (by first | rfl | decide) (by decide) rfl ?_
  clear hl ls
  intro ls hl
  refine lv_goto (tgt := 8) hx hb d_Ref_wasMet_36 (by decide) ?_
  refine tp_pc (pc' := 8) (by rfl) ?_
  refine lv_iload_n hx hb d_Ref_wasMet_8 rfl (lv_at hl 0 rfl) ?_
  refine lv_iconst (v := 5) hx hb d_Ref_wasMet_9 (by decide) ?_
  refine lv_icmp_ge (tgt := 39) hx hb d_Ref_wasMet_10 (by decide) (fun c_5 => absurd c_5 (by decide)) (fun c_5 => ?_)
  refine tp_pc (pc' := 13) (by rfl) ?_
  refine lv_lload_n hx hb d_Ref_wasMet_13 rfl (lv_at hl 1 rfl) ?_
  refine lv_aload_n hx hb d_Ref_wasMet_14 rfl (lv_at hl 2 rfl) ?_
  refine va_get (D := (dC, dI)) (ci := 8) (v := .ref h20) (C := R_Ref) (T := F_Ref) (N := 48) hx hb hw i_Ref hown hK hP 3 rfl rfl 25 (by decide) (hw _ m_924) (fun _ h9 => h9) rfl d_Ref_wasMet_15 ?_
  refine lv_iload_n hx hb d_Ref_wasMet_18 rfl (lv_at hl 0 rfl) ?_
  refine va_lald (D := (dC, dI)) hx hb hK hP 5 4 rfl rfl (i := 3) (vp_c (by decide)) d_Ref_wasMet_19 ?_
  refine tp_l (y := 0) (by first | rfl | decide) ?_
  refine lv_lxor hx hb d_Ref_wasMet_20 ?_
  refine tp_l (y := 1075682741438813428) (by first | rfl | decide) ?_
  refine lv_ldc2 hx hb hown (hw _ m_1109) d_Ref_wasMet_21 ?_
  refine lv_lmul hx hb d_Ref_wasMet_24 ?_
  refine tp_l (y := (-980397677688887292)) (by first | rfl | decide) ?_
  refine lv_lstore_n (lv' := [(1, .long (-980397677688887292)), (3, .int 3), (0, .ref h0)]) hx hb d_Ref_wasMet_25 rfl hl (by decide) rfl ?_
  clear hl ls
  intro ls hl
  refine lv_lload_n hx hb d_Ref_wasMet_26 rfl (lv_at hl 0 rfl) ?_
  refine lv_lload_n hx hb d_Ref_wasMet_27 rfl (lv_at hl 0 rfl) ?_
  refine lv_bipush (v := 29) hx hb d_Ref_wasMet_28 (by decide) ?_
  refine lv_lushr (v := 32533605389) hx hb d_Ref_wasMet_30 (by first | rfl | decide) ?_
  refine lv_lxor hx hb d_Ref_wasMet_31 ?_
  refine tp_l (y := (-980397658112064503)) (by first | rfl | decide) ?_
  refine lv_lstore_n (lv' := [(1, .long (-980397658112064503)), (3, .int 3), (0, .ref h0)]) hx hb d_Ref_wasMet_32 rfl hl (by decide) rfl ?_
  clear hl ls
  intro ls hl
  refine lv_iinc (v := 4) (lv' := [(3, .int 4), (1, .long (-980397658112064503)), (0, .ref h0)]) hx hb d_Ref_wasMet_33 hl (k := 1) rfl (by first | rfl | decide) (by decide) rfl ?_
  clear hl ls
  intro ls hl
  refine lv_goto (tgt := 8) hx hb d_Ref_wasMet_36 (by decide) ?_
  refine tp_pc (pc' := 8) (by rfl) ?_
  refine lv_iload_n hx hb d_Ref_wasMet_8 rfl (lv_at hl 0 rfl) ?_
  refine lv_iconst (v := 5) hx hb d_Ref_wasMet_9 (by decide) ?_
  refine lv_icmp_ge (tgt := 39) hx hb d_Ref_wasMet_10 (by decide) (fun c_6 => absurd c_6 (by decide)) (fun c_6 => ?_)
  refine tp_pc (pc' := 13) (by rfl) ?_
  refine lv_lload_n hx hb d_Ref_wasMet_13 rfl (lv_at hl 1 rfl) ?_
  refine lv_aload_n hx hb d_Ref_wasMet_14 rfl (lv_at hl 2 rfl) ?_
  refine va_get (D := (dC, dI)) (ci := 8) (v := .ref h20) (C := R_Ref) (T := F_Ref) (N := 48) hx hb hw i_Ref hown hK hP 3 rfl rfl 25 (by decide) (hw _ m_924) (fun _ h9 => h9) rfl d_Ref_wasMet_15 ?_
  refine lv_iload_n hx hb d_Ref_wasMet_18 rfl (lv_at hl 0 rfl) ?_
  refine va_lald (D := (dC, dI)) hx hb hK hP 5 4 rfl rfl (i := 4) (vp_c (by decide)) d_Ref_wasMet_19 ?_
  refine tp_l (y := 0) (by first | rfl | decide) ?_
  refine lv_lxor hx hb d_Ref_wasMet_20 ?_
  refine tp_l (y := (-980397658112064503)) (by first | rfl | decide) ?_
  refine lv_ldc2 hx hb hown (hw _ m_1109) d_Ref_wasMet_21 ?_
  refine lv_lmul hx hb d_Ref_wasMet_24 ?_
  refine tp_l (y := 6238111357032837309) (by first | rfl | decide) ?_
  refine lv_lstore_n (lv' := [(1, .long 6238111357032837309), (3, .int 4), (0, .ref h0)]) hx hb d_Ref_wasMet_25 rfl hl (by decide) rfl ?_
  clear hl ls
  intro ls hl
  refine lv_lload_n hx hb d_Ref_wasMet_26 rfl (lv_at hl 0 rfl) ?_
  refine lv_lload_n hx hb d_Ref_wasMet_27 rfl (lv_at hl 0 rfl) ?_
  refine lv_bipush (v := 29) hx hb d_Ref_wasMet_28 (by decide) ?_
  refine lv_lushr (v := 11619387859) hx hb d_Ref_wasMet_30 (by first | rfl | decide) ?_
  refine lv_lxor hx hb d_Ref_wasMet_31 ?_
  refine tp_l (y := 6238111349861546350) (by first | rfl | decide) ?_
  refine lv_lstore_n (lv' := [(1, .long 6238111349861546350), (3, .int 4), (0, .ref h0)]) hx hb d_Ref_wasMet_32 rfl hl (by decide) rfl ?_
  clear hl ls
  intro ls hl
  refine lv_iinc (v := 5) (lv' := [(3, .int 5), (1, .long 6238111349861546350), (0, .ref h0)]) hx hb d_Ref_wasMet_33 hl (k := 1) rfl (by first | rfl | decide) (by decide) rfl ?_
  clear hl ls
  intro ls hl
  refine lv_goto (tgt := 8) hx hb d_Ref_wasMet_36 (by decide) ?_
  refine tp_pc (pc' := 8) (by rfl) ?_
  refine lv_iload_n hx hb d_Ref_wasMet_8 rfl (lv_at hl 0 rfl) ?_
  refine lv_iconst (v := 5) hx hb d_Ref_wasMet_9 (by decide) ?_
  refine lv_icmp_ge (tgt := 39) hx hb d_Ref_wasMet_10 (by decide) (fun c_7 => ?_) (fun c_7 => absurd c_7 (by decide))
  refine tp_pc (pc' := 39) (by rfl) ?_
  refine lv_lload_n hx hb d_Ref_wasMet_39 rfl (lv_at hl 1 rfl) ?_
  refine lv_bipush (v := 48) hx hb d_Ref_wasMet_40 (by decide) ?_
  refine lv_lushr (v := 22162) hx hb d_Ref_wasMet_42 (by first | rfl | decide) ?_
  refine lv_l2i (v := 22162) hx hb d_Ref_wasMet_43 (by decide) ?_
  refine lv_istore_n (lv' := [(3, .int 22162), (1, .long 6238111349861546350), (0, .ref h0)]) hx hb d_Ref_wasMet_44 rfl hl (by decide) rfl ?_
  clear hl ls
  intro ls hl
  refine lv_aload_n hx hb d_Ref_wasMet_45 rfl (lv_at hl 2 rfl) ?_
  refine va_get (D := (dC, dI)) (ci := 8) (v := .ref h19) (C := R_Ref) (T := F_Ref) (N := 48) hx hb hw i_Ref hown hK hP 3 rfl rfl 23 (by decide) (hw _ m_922) (fun _ h9 => h9) rfl d_Ref_wasMet_46 ?_
  refine lv_iload_n hx hb d_Ref_wasMet_49 rfl (lv_at hl 0 rfl) ?_
  refine va_iald (D := (dC, dI)) hx hb hK hP 2 3 rfl rfl (i := 22162) (vp_c (by decide)) d_Ref_wasMet_50 ?_
  refine tp_i (y := (-1)) (by first | rfl | decide) ?_
  refine lv_istore (lv' := [(4, .int (-1)), (3, .int 22162), (1, .long 6238111349861546350), (0, .ref h0)]) hx hb d_Ref_wasMet_51 hl (by decide) rfl ?_
  clear hl ls
  intro ls hl
  refine lv_iload hx hb d_Ref_wasMet_53 (lv_at hl 0 rfl) ?_
  refine lv_if_lt (tgt := 130) hx hb d_Ref_wasMet_55 (by decide) (fun c_8 => ?_) (fun c_8 => absurd c_8 (by decide))
  refine tp_pc (pc' := 130) (by rfl) ?_
  refine lv_aload_n hx hb d_Ref_wasMet_130 rfl (lv_at hl 3 rfl) ?_
  refine va_get (D := (dC, dI)) (ci := 8) (v := .int 0) (C := R_Ref) (T := F_Ref) (N := 48) hx hb hw i_Ref hown hK hP 3 rfl rfl 24 (by decide) (hw _ m_923) (fun _ h9 => h9) rfl d_Ref_wasMet_131 ?_
  refine lv_ldc hx hb hown (hw _ m_897) d_Ref_wasMet_134 ?_
  refine lv_icmp_ge (tgt := 210) hx hb d_Ref_wasMet_136 (by decide) (fun c_9 => absurd c_9 (by decide)) (fun c_9 => ?_)
  refine tp_pc (pc' := 139) (by rfl) ?_
  refine lv_iconst (v := 0) hx hb d_Ref_wasMet_139 (by decide) ?_
  refine lv_istore (lv' := [(4, .int 0), (3, .int 22162), (1, .long 6238111349861546350), (0, .ref h0)]) hx hb d_Ref_wasMet_140 hl (by decide) rfl ?_
  clear hl ls
  intro ls hl
  refine lv_iload hx hb d_Ref_wasMet_142 (lv_at hl 0 rfl) ?_
  refine lv_iconst (v := 5) hx hb d_Ref_wasMet_144 (by decide) ?_
  refine lv_icmp_ge (tgt := 175) hx hb d_Ref_wasMet_145 (by decide) (fun c_10 => absurd c_10 (by decide)) (fun c_10 => ?_)
  refine tp_pc (pc' := 148) (by rfl) ?_
  refine lv_aload_n hx hb d_Ref_wasMet_148 rfl (lv_at hl 3 rfl) ?_
  refine va_get (D := (dC, dI)) (ci := 8) (v := .ref h17) (C := R_Ref) (T := F_Ref) (N := 48) hx hb hw i_Ref hown hK hP 3 rfl rfl 21 (by decide) (hw _ m_920) (fun _ h9 => h9) rfl d_Ref_wasMet_149 ?_
  refine lv_iconst (v := 5) hx hb d_Ref_wasMet_152 (by decide) ?_
  refine lv_aload_n hx hb d_Ref_wasMet_153 rfl (lv_at hl 3 rfl) ?_
  refine va_get (D := (dC, dI)) (ci := 8) (v := .int 0) (C := R_Ref) (T := F_Ref) (N := 48) hx hb hw i_Ref hown hK hP 3 rfl rfl 24 (by decide) (hw _ m_923) (fun _ h9 => h9) rfl d_Ref_wasMet_154 ?_
  refine lv_imul hx hb d_Ref_wasMet_157 ?_
  refine tp_i (y := 0) (by first | rfl | decide) ?_
  refine lv_iload hx hb d_Ref_wasMet_158 (lv_at hl 0 rfl) ?_
  refine lv_iadd hx hb d_Ref_wasMet_160 ?_
  refine tp_i (y := 0) (by first | rfl | decide) ?_
  refine lv_aload_n hx hb d_Ref_wasMet_161 rfl (lv_at hl 3 rfl) ?_
  refine va_get (D := (dC, dI)) (ci := 8) (v := .ref h20) (C := R_Ref) (T := F_Ref) (N := 48) hx hb hw i_Ref hown hK hP 3 rfl rfl 25 (by decide) (hw _ m_924) (fun _ h9 => h9) rfl d_Ref_wasMet_162 ?_
  refine lv_iload hx hb d_Ref_wasMet_165 (lv_at hl 0 rfl) ?_
  refine va_lald (D := (dC, dI)) hx hb hK hP 5 4 rfl rfl (i := 0) (vp_c (by decide)) d_Ref_wasMet_167 ?_
  refine tp_l (y := 1161999626690363392) (by first | rfl | decide) ?_
  refine va_last (D := (dC, dI)) hx hb hK hP (dd_D hD rfl) hS 0 1 rfl rfl (i := 0) (x := 1161999626690363392) (vp_c (by decide)) d_Ref_wasMet_168 ?_
  clear hP hS locs H
  intro H locs (hP : va_P (dC, dI) classes [la h17 k16 1200000 (vp_updL f16 0 1161999626690363392), ia h18 k17 240000 f17, ia h19 k18 65536 (fun _ => (-1)), oc h0 8 [.int p0, .int p1, .ref h1, .ref h2, .ref h3, .ref h4, .ref h5, .ref h6, .ref h7, .ref h8, .ref h9, .ref h10, .ref h11, .ref h12, .int p2, .ref h13, .ref h14, .ref h15, .ref h16, .int 2, .int p4, .ref h17, .ref h18, .ref h19, .int 0, .ref h20, .int 125, .int p7, .ref h21, .ref h22, .ref h23, .ref h24, .ref h25, .ref h26, .ref h27, .ref h28, .int p8, .int p9, .ref h29, .ref h30, .ref h31, .ref h32, .ref h33, .ref h34, .ref h35, .ref h36, .int p10, .ref h37], ia h14 k13 155 (fun _ => 0), la h20 k19 5 (vp_updL (vp_updL (vp_updL (vp_updL (vp_updL (vp_updL (vp_updL (vp_updL (vp_updL (vp_updL (vp_updL (vp_updL (vp_updL (vp_updL (vp_updL (vp_updL (vp_updL (vp_updL (vp_updL (vp_updL (vp_updL (vp_updL (vp_updL (vp_updL (vp_updL (vp_updL (vp_updL (vp_updL (vp_updL (vp_updL (vp_updL (vp_updL (vp_updL f19 0 0) 1 0) 2 0) 3 0) 4 0) 0 0) 0 0) 0 0) 0 0) 0 262144) 0 33816576) 0 4328783872) 0 554084597760) 0 70922828775424) 0 9078122083516416) 0 1161999626690363392) 0 1161999626690363392) 1 8) 1 1032) 1 132104) 1 16909320) 1 16909320) 1 16909320) 1 16909320) 1 16909320) 1 16909320) 1 16909320) 1 16909320) 1 16909320) 1 16909320) 1 16909320) 1 16909320) 1 16909320)] H) _ hS
  refine tp_pc (pc' := 169) (by rfl) ?_
  refine lv_iinc (v := 1) (lv' := [(4, .int 1), (3, .int 22162), (1, .long 6238111349861546350), (0, .ref h0)]) hx hb d_Ref_wasMet_169 hl (k := 0) rfl (by first | rfl | decide) (by decide) rfl ?_
  clear hl ls
  intro ls hl
  refine lv_goto (tgt := 142) hx hb d_Ref_wasMet_172 (by decide) ?_
  refine tp_pc (pc' := 142) (by rfl) ?_
  refine lv_iload hx hb d_Ref_wasMet_142 (lv_at hl 0 rfl) ?_
  refine lv_iconst (v := 5) hx hb d_Ref_wasMet_144 (by decide) ?_
  refine lv_icmp_ge (tgt := 175) hx hb d_Ref_wasMet_145 (by decide) (fun c_11 => absurd c_11 (by decide)) (fun c_11 => ?_)
  refine tp_pc (pc' := 148) (by rfl) ?_
  refine lv_aload_n hx hb d_Ref_wasMet_148 rfl (lv_at hl 3 rfl) ?_
  refine va_get (D := (dC, dI)) (ci := 8) (v := .ref h17) (C := R_Ref) (T := F_Ref) (N := 48) hx hb hw i_Ref hown hK hP 3 rfl rfl 21 (by decide) (hw _ m_920) (fun _ h9 => h9) rfl d_Ref_wasMet_149 ?_
  refine lv_iconst (v := 5) hx hb d_Ref_wasMet_152 (by decide) ?_
  refine lv_aload_n hx hb d_Ref_wasMet_153 rfl (lv_at hl 3 rfl) ?_
  refine va_get (D := (dC, dI)) (ci := 8) (v := .int 0) (C := R_Ref) (T := F_Ref) (N := 48) hx hb hw i_Ref hown hK hP 3 rfl rfl 24 (by decide) (hw _ m_923) (fun _ h9 => h9) rfl d_Ref_wasMet_154 ?_
  refine lv_imul hx hb d_Ref_wasMet_157 ?_
  refine tp_i (y := 0) (by first | rfl | decide) ?_
  refine lv_iload hx hb d_Ref_wasMet_158 (lv_at hl 0 rfl) ?_
  refine lv_iadd hx hb d_Ref_wasMet_160 ?_
  refine tp_i (y := 1) (by first | rfl | decide) ?_
  refine lv_aload_n hx hb d_Ref_wasMet_161 rfl (lv_at hl 3 rfl) ?_
  refine va_get (D := (dC, dI)) (ci := 8) (v := .ref h20) (C := R_Ref) (T := F_Ref) (N := 48) hx hb hw i_Ref hown hK hP 3 rfl rfl 25 (by decide) (hw _ m_924) (fun _ h9 => h9) rfl d_Ref_wasMet_162 ?_
  refine lv_iload hx hb d_Ref_wasMet_165 (lv_at hl 0 rfl) ?_
  refine va_lald (D := (dC, dI)) hx hb hK hP 5 4 rfl rfl (i := 1) (vp_c (by decide)) d_Ref_wasMet_167 ?_
  refine tp_l (y := 16909320) (by first | rfl | decide) ?_
  refine va_last (D := (dC, dI)) hx hb hK hP (dd_D hD rfl) hS 0 1 rfl rfl (i := 1) (x := 16909320) (vp_c (by decide)) d_Ref_wasMet_168 ?_
  clear hP hS locs H
  intro H locs (hP : va_P (dC, dI) classes [la h17 k16 1200000 (vp_updL (vp_updL f16 0 1161999626690363392) 1 16909320), ia h18 k17 240000 f17, ia h19 k18 65536 (fun _ => (-1)), oc h0 8 [.int p0, .int p1, .ref h1, .ref h2, .ref h3, .ref h4, .ref h5, .ref h6, .ref h7, .ref h8, .ref h9, .ref h10, .ref h11, .ref h12, .int p2, .ref h13, .ref h14, .ref h15, .ref h16, .int 2, .int p4, .ref h17, .ref h18, .ref h19, .int 0, .ref h20, .int 125, .int p7, .ref h21, .ref h22, .ref h23, .ref h24, .ref h25, .ref h26, .ref h27, .ref h28, .int p8, .int p9, .ref h29, .ref h30, .ref h31, .ref h32, .ref h33, .ref h34, .ref h35, .ref h36, .int p10, .ref h37], ia h14 k13 155 (fun _ => 0), la h20 k19 5 (vp_updL (vp_updL (vp_updL (vp_updL (vp_updL (vp_updL (vp_updL (vp_updL (vp_updL (vp_updL (vp_updL (vp_updL (vp_updL (vp_updL (vp_updL (vp_updL (vp_updL (vp_updL (vp_updL (vp_updL (vp_updL (vp_updL (vp_updL (vp_updL (vp_updL (vp_updL (vp_updL (vp_updL (vp_updL (vp_updL (vp_updL (vp_updL (vp_updL f19 0 0) 1 0) 2 0) 3 0) 4 0) 0 0) 0 0) 0 0) 0 0) 0 262144) 0 33816576) 0 4328783872) 0 554084597760) 0 70922828775424) 0 9078122083516416) 0 1161999626690363392) 0 1161999626690363392) 1 8) 1 1032) 1 132104) 1 16909320) 1 16909320) 1 16909320) 1 16909320) 1 16909320) 1 16909320) 1 16909320) 1 16909320) 1 16909320) 1 16909320) 1 16909320) 1 16909320) 1 16909320)] H) _ hS
  refine tp_pc (pc' := 169) (by rfl) ?_
  refine lv_iinc (v := 2) (lv' := [(4, .int 2), (3, .int 22162), (1, .long 6238111349861546350), (0, .ref h0)]) hx hb d_Ref_wasMet_169 hl (k := 0) rfl (by first | rfl | decide) (by decide) rfl ?_
  clear hl ls
  intro ls hl
  refine lv_goto (tgt := 142) hx hb d_Ref_wasMet_172 (by decide) ?_
  refine tp_pc (pc' := 142) (by rfl) ?_
  refine lv_iload hx hb d_Ref_wasMet_142 (lv_at hl 0 rfl) ?_
  refine lv_iconst (v := 5) hx hb d_Ref_wasMet_144 (by decide) ?_
  refine lv_icmp_ge (tgt := 175) hx hb d_Ref_wasMet_145 (by decide) (fun c_12 => absurd c_12 (by decide)) (fun c_12 => ?_)
  refine tp_pc (pc' := 148) (by rfl) ?_
  refine lv_aload_n hx hb d_Ref_wasMet_148 rfl (lv_at hl 3 rfl) ?_
  refine va_get (D := (dC, dI)) (ci := 8) (v := .ref h17) (C := R_Ref) (T := F_Ref) (N := 48) hx hb hw i_Ref hown hK hP 3 rfl rfl 21 (by decide) (hw _ m_920) (fun _ h9 => h9) rfl d_Ref_wasMet_149 ?_
  refine lv_iconst (v := 5) hx hb d_Ref_wasMet_152 (by decide) ?_
  refine lv_aload_n hx hb d_Ref_wasMet_153 rfl (lv_at hl 3 rfl) ?_
  refine va_get (D := (dC, dI)) (ci := 8) (v := .int 0) (C := R_Ref) (T := F_Ref) (N := 48) hx hb hw i_Ref hown hK hP 3 rfl rfl 24 (by decide) (hw _ m_923) (fun _ h9 => h9) rfl d_Ref_wasMet_154 ?_
  refine lv_imul hx hb d_Ref_wasMet_157 ?_
  refine tp_i (y := 0) (by first | rfl | decide) ?_
  refine lv_iload hx hb d_Ref_wasMet_158 (lv_at hl 0 rfl) ?_
  refine lv_iadd hx hb d_Ref_wasMet_160 ?_
  refine tp_i (y := 2) (by first | rfl | decide) ?_
  refine lv_aload_n hx hb d_Ref_wasMet_161 rfl (lv_at hl 3 rfl) ?_
  refine va_get (D := (dC, dI)) (ci := 8) (v := .ref h20) (C := R_Ref) (T := F_Ref) (N := 48) hx hb hw i_Ref hown hK hP 3 rfl rfl 25 (by decide) (hw _ m_924) (fun _ h9 => h9) rfl d_Ref_wasMet_162 ?_
  refine lv_iload hx hb d_Ref_wasMet_165 (lv_at hl 0 rfl) ?_
  refine va_lald (D := (dC, dI)) hx hb hK hP 5 4 rfl rfl (i := 2) (vp_c (by decide)) d_Ref_wasMet_167 ?_
  refine tp_l (y := 0) (by first | rfl | decide) ?_
  refine va_last (D := (dC, dI)) hx hb hK hP (dd_D hD rfl) hS 0 1 rfl rfl (i := 2) (x := 0) (vp_c (by decide)) d_Ref_wasMet_168 ?_
  clear hP hS locs H
  intro H locs (hP : va_P (dC, dI) classes [la h17 k16 1200000 (vp_updL (vp_updL (vp_updL f16 0 1161999626690363392) 1 16909320) 2 0), ia h18 k17 240000 f17, ia h19 k18 65536 (fun _ => (-1)), oc h0 8 [.int p0, .int p1, .ref h1, .ref h2, .ref h3, .ref h4, .ref h5, .ref h6, .ref h7, .ref h8, .ref h9, .ref h10, .ref h11, .ref h12, .int p2, .ref h13, .ref h14, .ref h15, .ref h16, .int 2, .int p4, .ref h17, .ref h18, .ref h19, .int 0, .ref h20, .int 125, .int p7, .ref h21, .ref h22, .ref h23, .ref h24, .ref h25, .ref h26, .ref h27, .ref h28, .int p8, .int p9, .ref h29, .ref h30, .ref h31, .ref h32, .ref h33, .ref h34, .ref h35, .ref h36, .int p10, .ref h37], ia h14 k13 155 (fun _ => 0), la h20 k19 5 (vp_updL (vp_updL (vp_updL (vp_updL (vp_updL (vp_updL (vp_updL (vp_updL (vp_updL (vp_updL (vp_updL (vp_updL (vp_updL (vp_updL (vp_updL (vp_updL (vp_updL (vp_updL (vp_updL (vp_updL (vp_updL (vp_updL (vp_updL (vp_updL (vp_updL (vp_updL (vp_updL (vp_updL (vp_updL (vp_updL (vp_updL (vp_updL (vp_updL f19 0 0) 1 0) 2 0) 3 0) 4 0) 0 0) 0 0) 0 0) 0 0) 0 262144) 0 33816576) 0 4328783872) 0 554084597760) 0 70922828775424) 0 9078122083516416) 0 1161999626690363392) 0 1161999626690363392) 1 8) 1 1032) 1 132104) 1 16909320) 1 16909320) 1 16909320) 1 16909320) 1 16909320) 1 16909320) 1 16909320) 1 16909320) 1 16909320) 1 16909320) 1 16909320) 1 16909320) 1 16909320)] H) _ hS
  refine tp_pc (pc' := 169) (by rfl) ?_
  refine lv_iinc (v := 3) (lv' := [(4, .int 3), (3, .int 22162), (1, .long 6238111349861546350), (0, .ref h0)]) hx hb d_Ref_wasMet_169 hl (k := 0) rfl (by first | rfl | decide) (by decide) rfl ?_
  clear hl ls
  intro ls hl
  refine lv_goto (tgt := 142) hx hb d_Ref_wasMet_172 (by decide) ?_
  refine tp_pc (pc' := 142) (by rfl) ?_
  refine lv_iload hx hb d_Ref_wasMet_142 (lv_at hl 0 rfl) ?_
  refine lv_iconst (v := 5) hx hb d_Ref_wasMet_144 (by decide) ?_
  refine lv_icmp_ge (tgt := 175) hx hb d_Ref_wasMet_145 (by decide) (fun c_13 => absurd c_13 (by decide)) (fun c_13 => ?_)
  refine tp_pc (pc' := 148) (by rfl) ?_
  refine lv_aload_n hx hb d_Ref_wasMet_148 rfl (lv_at hl 3 rfl) ?_
  refine va_get (D := (dC, dI)) (ci := 8) (v := .ref h17) (C := R_Ref) (T := F_Ref) (N := 48) hx hb hw i_Ref hown hK hP 3 rfl rfl 21 (by decide) (hw _ m_920) (fun _ h9 => h9) rfl d_Ref_wasMet_149 ?_
  refine lv_iconst (v := 5) hx hb d_Ref_wasMet_152 (by decide) ?_
  refine lv_aload_n hx hb d_Ref_wasMet_153 rfl (lv_at hl 3 rfl) ?_
  refine va_get (D := (dC, dI)) (ci := 8) (v := .int 0) (C := R_Ref) (T := F_Ref) (N := 48) hx hb hw i_Ref hown hK hP 3 rfl rfl 24 (by decide) (hw _ m_923) (fun _ h9 => h9) rfl d_Ref_wasMet_154 ?_
  refine lv_imul hx hb d_Ref_wasMet_157 ?_
  refine tp_i (y := 0) (by first | rfl | decide) ?_
  refine lv_iload hx hb d_Ref_wasMet_158 (lv_at hl 0 rfl) ?_
  refine lv_iadd hx hb d_Ref_wasMet_160 ?_
  refine tp_i (y := 3) (by first | rfl | decide) ?_
  refine lv_aload_n hx hb d_Ref_wasMet_161 rfl (lv_at hl 3 rfl) ?_
  refine va_get (D := (dC, dI)) (ci := 8) (v := .ref h20) (C := R_Ref) (T := F_Ref) (N := 48) hx hb hw i_Ref hown hK hP 3 rfl rfl 25 (by decide) (hw _ m_924) (fun _ h9 => h9) rfl d_Ref_wasMet_162 ?_
  refine lv_iload hx hb d_Ref_wasMet_165 (lv_at hl 0 rfl) ?_
  refine va_lald (D := (dC, dI)) hx hb hK hP 5 4 rfl rfl (i := 3) (vp_c (by decide)) d_Ref_wasMet_167 ?_
  refine tp_l (y := 0) (by first | rfl | decide) ?_
  refine va_last (D := (dC, dI)) hx hb hK hP (dd_D hD rfl) hS 0 1 rfl rfl (i := 3) (x := 0) (vp_c (by decide)) d_Ref_wasMet_168 ?_
  clear hP hS locs H
  intro H locs (hP : va_P (dC, dI) classes [la h17 k16 1200000 (vp_updL (vp_updL (vp_updL (vp_updL f16 0 1161999626690363392) 1 16909320) 2 0) 3 0), ia h18 k17 240000 f17, ia h19 k18 65536 (fun _ => (-1)), oc h0 8 [.int p0, .int p1, .ref h1, .ref h2, .ref h3, .ref h4, .ref h5, .ref h6, .ref h7, .ref h8, .ref h9, .ref h10, .ref h11, .ref h12, .int p2, .ref h13, .ref h14, .ref h15, .ref h16, .int 2, .int p4, .ref h17, .ref h18, .ref h19, .int 0, .ref h20, .int 125, .int p7, .ref h21, .ref h22, .ref h23, .ref h24, .ref h25, .ref h26, .ref h27, .ref h28, .int p8, .int p9, .ref h29, .ref h30, .ref h31, .ref h32, .ref h33, .ref h34, .ref h35, .ref h36, .int p10, .ref h37], ia h14 k13 155 (fun _ => 0), la h20 k19 5 (vp_updL (vp_updL (vp_updL (vp_updL (vp_updL (vp_updL (vp_updL (vp_updL (vp_updL (vp_updL (vp_updL (vp_updL (vp_updL (vp_updL (vp_updL (vp_updL (vp_updL (vp_updL (vp_updL (vp_updL (vp_updL (vp_updL (vp_updL (vp_updL (vp_updL (vp_updL (vp_updL (vp_updL (vp_updL (vp_updL (vp_updL (vp_updL (vp_updL f19 0 0) 1 0) 2 0) 3 0) 4 0) 0 0) 0 0) 0 0) 0 0) 0 262144) 0 33816576) 0 4328783872) 0 554084597760) 0 70922828775424) 0 9078122083516416) 0 1161999626690363392) 0 1161999626690363392) 1 8) 1 1032) 1 132104) 1 16909320) 1 16909320) 1 16909320) 1 16909320) 1 16909320) 1 16909320) 1 16909320) 1 16909320) 1 16909320) 1 16909320) 1 16909320) 1 16909320) 1 16909320)] H) _ hS
  refine tp_pc (pc' := 169) (by rfl) ?_
  refine lv_iinc (v := 4) (lv' := [(4, .int 4), (3, .int 22162), (1, .long 6238111349861546350), (0, .ref h0)]) hx hb d_Ref_wasMet_169 hl (k := 0) rfl (by first | rfl | decide) (by decide) rfl ?_
  clear hl ls
  intro ls hl
  refine lv_goto (tgt := 142) hx hb d_Ref_wasMet_172 (by decide) ?_
  refine tp_pc (pc' := 142) (by rfl) ?_
  refine lv_iload hx hb d_Ref_wasMet_142 (lv_at hl 0 rfl) ?_
  refine lv_iconst (v := 5) hx hb d_Ref_wasMet_144 (by decide) ?_
  refine lv_icmp_ge (tgt := 175) hx hb d_Ref_wasMet_145 (by decide) (fun c_14 => absurd c_14 (by decide)) (fun c_14 => ?_)
  refine tp_pc (pc' := 148) (by rfl) ?_
  refine lv_aload_n hx hb d_Ref_wasMet_148 rfl (lv_at hl 3 rfl) ?_
  refine va_get (D := (dC, dI)) (ci := 8) (v := .ref h17) (C := R_Ref) (T := F_Ref) (N := 48) hx hb hw i_Ref hown hK hP 3 rfl rfl 21 (by decide) (hw _ m_920) (fun _ h9 => h9) rfl d_Ref_wasMet_149 ?_
  refine lv_iconst (v := 5) hx hb d_Ref_wasMet_152 (by decide) ?_
  refine lv_aload_n hx hb d_Ref_wasMet_153 rfl (lv_at hl 3 rfl) ?_
  refine va_get (D := (dC, dI)) (ci := 8) (v := .int 0) (C := R_Ref) (T := F_Ref) (N := 48) hx hb hw i_Ref hown hK hP 3 rfl rfl 24 (by decide) (hw _ m_923) (fun _ h9 => h9) rfl d_Ref_wasMet_154 ?_
  refine lv_imul hx hb d_Ref_wasMet_157 ?_
  refine tp_i (y := 0) (by first | rfl | decide) ?_
  refine lv_iload hx hb d_Ref_wasMet_158 (lv_at hl 0 rfl) ?_
  refine lv_iadd hx hb d_Ref_wasMet_160 ?_
  refine tp_i (y := 4) (by first | rfl | decide) ?_
  refine lv_aload_n hx hb d_Ref_wasMet_161 rfl (lv_at hl 3 rfl) ?_
  refine va_get (D := (dC, dI)) (ci := 8) (v := .ref h20) (C := R_Ref) (T := F_Ref) (N := 48) hx hb hw i_Ref hown hK hP 3 rfl rfl 25 (by decide) (hw _ m_924) (fun _ h9 => h9) rfl d_Ref_wasMet_162 ?_
  refine lv_iload hx hb d_Ref_wasMet_165 (lv_at hl 0 rfl) ?_
  refine va_lald (D := (dC, dI)) hx hb hK hP 5 4 rfl rfl (i := 4) (vp_c (by decide)) d_Ref_wasMet_167 ?_
  refine tp_l (y := 0) (by first | rfl | decide) ?_
  refine va_last (D := (dC, dI)) hx hb hK hP (dd_D hD rfl) hS 0 1 rfl rfl (i := 4) (x := 0) (vp_c (by decide)) d_Ref_wasMet_168 ?_
  clear hP hS locs H
  intro H locs (hP : va_P (dC, dI) classes [la h17 k16 1200000 (vp_updL (vp_updL (vp_updL (vp_updL (vp_updL f16 0 1161999626690363392) 1 16909320) 2 0) 3 0) 4 0), ia h18 k17 240000 f17, ia h19 k18 65536 (fun _ => (-1)), oc h0 8 [.int p0, .int p1, .ref h1, .ref h2, .ref h3, .ref h4, .ref h5, .ref h6, .ref h7, .ref h8, .ref h9, .ref h10, .ref h11, .ref h12, .int p2, .ref h13, .ref h14, .ref h15, .ref h16, .int 2, .int p4, .ref h17, .ref h18, .ref h19, .int 0, .ref h20, .int 125, .int p7, .ref h21, .ref h22, .ref h23, .ref h24, .ref h25, .ref h26, .ref h27, .ref h28, .int p8, .int p9, .ref h29, .ref h30, .ref h31, .ref h32, .ref h33, .ref h34, .ref h35, .ref h36, .int p10, .ref h37], ia h14 k13 155 (fun _ => 0), la h20 k19 5 (vp_updL (vp_updL (vp_updL (vp_updL (vp_updL (vp_updL (vp_updL (vp_updL (vp_updL (vp_updL (vp_updL (vp_updL (vp_updL (vp_updL (vp_updL (vp_updL (vp_updL (vp_updL (vp_updL (vp_updL (vp_updL (vp_updL (vp_updL (vp_updL (vp_updL (vp_updL (vp_updL (vp_updL (vp_updL (vp_updL (vp_updL (vp_updL (vp_updL f19 0 0) 1 0) 2 0) 3 0) 4 0) 0 0) 0 0) 0 0) 0 0) 0 262144) 0 33816576) 0 4328783872) 0 554084597760) 0 70922828775424) 0 9078122083516416) 0 1161999626690363392) 0 1161999626690363392) 1 8) 1 1032) 1 132104) 1 16909320) 1 16909320) 1 16909320) 1 16909320) 1 16909320) 1 16909320) 1 16909320) 1 16909320) 1 16909320) 1 16909320) 1 16909320) 1 16909320) 1 16909320)] H) _ hS
  refine tp_pc (pc' := 169) (by rfl) ?_
  refine lv_iinc (v := 5) (lv' := [(4, .int 5), (3, .int 22162), (1, .long 6238111349861546350), (0, .ref h0)]) hx hb d_Ref_wasMet_169 hl (k := 0) rfl (by first | rfl | decide) (by decide) rfl ?_
  clear hl ls
  intro ls hl
  refine lv_goto (tgt := 142) hx hb d_Ref_wasMet_172 (by decide) ?_
  refine tp_pc (pc' := 142) (by rfl) ?_
  refine lv_iload hx hb d_Ref_wasMet_142 (lv_at hl 0 rfl) ?_
  refine lv_iconst (v := 5) hx hb d_Ref_wasMet_144 (by decide) ?_
  refine lv_icmp_ge (tgt := 175) hx hb d_Ref_wasMet_145 (by decide) (fun c_15 => ?_) (fun c_15 => absurd c_15 (by decide))
  refine tp_pc (pc' := 175) (by rfl) ?_
  refine lv_aload_n hx hb d_Ref_wasMet_175 rfl (lv_at hl 3 rfl) ?_
  refine va_get (D := (dC, dI)) (ci := 8) (v := .ref h18) (C := R_Ref) (T := F_Ref) (N := 48) hx hb hw i_Ref hown hK hP 3 rfl rfl 22 (by decide) (hw _ m_921) (fun _ h9 => h9) rfl d_Ref_wasMet_176 ?_
  refine lv_aload_n hx hb d_Ref_wasMet_179 rfl (lv_at hl 3 rfl) ?_
  refine va_get (D := (dC, dI)) (ci := 8) (v := .int 0) (C := R_Ref) (T := F_Ref) (N := 48) hx hb hw i_Ref hown hK hP 3 rfl rfl 24 (by decide) (hw _ m_923) (fun _ h9 => h9) rfl d_Ref_wasMet_180 ?_
  refine lv_aload_n hx hb d_Ref_wasMet_183 rfl (lv_at hl 3 rfl) ?_
  refine va_get (D := (dC, dI)) (ci := 8) (v := .ref h19) (C := R_Ref) (T := F_Ref) (N := 48) hx hb hw i_Ref hown hK hP 3 rfl rfl 23 (by decide) (hw _ m_922) (fun _ h9 => h9) rfl d_Ref_wasMet_184 ?_
  refine lv_iload_n hx hb d_Ref_wasMet_187 rfl (lv_at hl 1 rfl) ?_
  refine va_iald (D := (dC, dI)) hx hb hK hP 2 3 rfl rfl (i := 22162) (vp_c (by decide)) d_Ref_wasMet_188 ?_
  refine tp_i (y := (-1)) (by first | rfl | decide) ?_
  refine va_iast (D := (dC, dI)) hx hb hK hP (dd_D hD rfl) hS 1 2 rfl rfl (i := 0) (x := (-1)) (vp_c (by decide)) d_Ref_wasMet_189 ?_
  clear hP hS locs H
  intro H locs (hP : va_P (dC, dI) classes [la h17 k16 1200000 (vp_updL (vp_updL (vp_updL (vp_updL (vp_updL f16 0 1161999626690363392) 1 16909320) 2 0) 3 0) 4 0), ia h18 k17 240000 (upd f17 0 (-1)), ia h19 k18 65536 (fun _ => (-1)), oc h0 8 [.int p0, .int p1, .ref h1, .ref h2, .ref h3, .ref h4, .ref h5, .ref h6, .ref h7, .ref h8, .ref h9, .ref h10, .ref h11, .ref h12, .int p2, .ref h13, .ref h14, .ref h15, .ref h16, .int 2, .int p4, .ref h17, .ref h18, .ref h19, .int 0, .ref h20, .int 125, .int p7, .ref h21, .ref h22, .ref h23, .ref h24, .ref h25, .ref h26, .ref h27, .ref h28, .int p8, .int p9, .ref h29, .ref h30, .ref h31, .ref h32, .ref h33, .ref h34, .ref h35, .ref h36, .int p10, .ref h37], ia h14 k13 155 (fun _ => 0), la h20 k19 5 (vp_updL (vp_updL (vp_updL (vp_updL (vp_updL (vp_updL (vp_updL (vp_updL (vp_updL (vp_updL (vp_updL (vp_updL (vp_updL (vp_updL (vp_updL (vp_updL (vp_updL (vp_updL (vp_updL (vp_updL (vp_updL (vp_updL (vp_updL (vp_updL (vp_updL (vp_updL (vp_updL (vp_updL (vp_updL (vp_updL (vp_updL (vp_updL (vp_updL f19 0 0) 1 0) 2 0) 3 0) 4 0) 0 0) 0 0) 0 0) 0 0) 0 262144) 0 33816576) 0 4328783872) 0 554084597760) 0 70922828775424) 0 9078122083516416) 0 1161999626690363392) 0 1161999626690363392) 1 8) 1 1032) 1 132104) 1 16909320) 1 16909320) 1 16909320) 1 16909320) 1 16909320) 1 16909320) 1 16909320) 1 16909320) 1 16909320) 1 16909320) 1 16909320) 1 16909320) 1 16909320)] H) _ hS
  refine tp_pc (pc' := 190) (by rfl) ?_
  refine lv_aload_n hx hb d_Ref_wasMet_190 rfl (lv_at hl 3 rfl) ?_
  refine va_get (D := (dC, dI)) (ci := 8) (v := .ref h19) (C := R_Ref) (T := F_Ref) (N := 48) hx hb hw i_Ref hown hK hP 3 rfl rfl 23 (by decide) (hw _ m_922) (fun _ h9 => h9) rfl d_Ref_wasMet_191 ?_
  refine lv_iload_n hx hb d_Ref_wasMet_194 rfl (lv_at hl 1 rfl) ?_
  refine lv_aload_n hx hb d_Ref_wasMet_195 rfl (lv_at hl 3 rfl) ?_
  refine va_get (D := (dC, dI)) (ci := 8) (v := .int 0) (C := R_Ref) (T := F_Ref) (N := 48) hx hb hw i_Ref hown hK hP 3 rfl rfl 24 (by decide) (hw _ m_923) (fun _ h9 => h9) rfl d_Ref_wasMet_196 ?_
  refine va_iast (D := (dC, dI)) hx hb hK hP (dd_D hD rfl) hS 2 3 rfl rfl (i := 22162) (x := 0) (vp_c (by decide)) d_Ref_wasMet_199 ?_
  clear hP hS locs H
  intro H locs (hP : va_P (dC, dI) classes [la h17 k16 1200000 (vp_updL (vp_updL (vp_updL (vp_updL (vp_updL f16 0 1161999626690363392) 1 16909320) 2 0) 3 0) 4 0), ia h18 k17 240000 (upd f17 0 (-1)), ia h19 k18 65536 (upd (fun _ => (-1)) 22162 0), oc h0 8 [.int p0, .int p1, .ref h1, .ref h2, .ref h3, .ref h4, .ref h5, .ref h6, .ref h7, .ref h8, .ref h9, .ref h10, .ref h11, .ref h12, .int p2, .ref h13, .ref h14, .ref h15, .ref h16, .int 2, .int p4, .ref h17, .ref h18, .ref h19, .int 0, .ref h20, .int 125, .int p7, .ref h21, .ref h22, .ref h23, .ref h24, .ref h25, .ref h26, .ref h27, .ref h28, .int p8, .int p9, .ref h29, .ref h30, .ref h31, .ref h32, .ref h33, .ref h34, .ref h35, .ref h36, .int p10, .ref h37], ia h14 k13 155 (fun _ => 0), la h20 k19 5 (vp_updL (vp_updL (vp_updL (vp_updL (vp_updL (vp_updL (vp_updL (vp_updL (vp_updL (vp_updL (vp_updL (vp_updL (vp_updL (vp_updL (vp_updL (vp_updL (vp_updL (vp_updL (vp_updL (vp_updL (vp_updL (vp_updL (vp_updL (vp_updL (vp_updL (vp_updL (vp_updL (vp_updL (vp_updL (vp_updL (vp_updL (vp_updL (vp_updL f19 0 0) 1 0) 2 0) 3 0) 4 0) 0 0) 0 0) 0 0) 0 0) 0 262144) 0 33816576) 0 4328783872) 0 554084597760) 0 70922828775424) 0 9078122083516416) 0 1161999626690363392) 0 1161999626690363392) 1 8) 1 1032) 1 132104) 1 16909320) 1 16909320) 1 16909320) 1 16909320) 1 16909320) 1 16909320) 1 16909320) 1 16909320) 1 16909320) 1 16909320) 1 16909320) 1 16909320) 1 16909320)] H) _ hS
  refine tp_pc (pc' := 200) (by rfl) ?_
  refine lv_aload_n hx hb d_Ref_wasMet_200 rfl (lv_at hl 3 rfl) ?_
  refine lv_dup hx hb d_Ref_wasMet_201 rfl ?_
  refine va_get (D := (dC, dI)) (ci := 8) (v := .int 0) (C := R_Ref) (T := F_Ref) (N := 48) hx hb hw i_Ref hown hK hP 3 rfl rfl 24 (by decide) (hw _ m_923) (fun _ h9 => h9) rfl d_Ref_wasMet_202 ?_
  refine lv_iconst (v := 1) hx hb d_Ref_wasMet_205 (by decide) ?_
  refine lv_iadd hx hb d_Ref_wasMet_206 ?_
  refine tp_i (y := 1) (by first | rfl | decide) ?_
  refine va_put (D := (dC, dI)) (ci := 8) (v := .int 1) (ty := .int) (C := R_Ref) (T := F_Ref) (N := 48) hx hb hw i_Ref t_Ref t_Ref_ok n_Ref hown hK hP (dd_D hD rfl) hS 3 rfl rfl 24 (by decide) (hw _ m_923) (fun _ h9 => h9) rfl (by decide +kernel) rfl rfl (Nat.le_of_ble_eq_true rfl) d_Ref_wasMet_207 ?_
  clear hP hS locs H
  intro H locs (hP : va_P (dC, dI) classes [la h17 k16 1200000 (vp_updL (vp_updL (vp_updL (vp_updL (vp_updL f16 0 1161999626690363392) 1 16909320) 2 0) 3 0) 4 0), ia h18 k17 240000 (upd f17 0 (-1)), ia h19 k18 65536 (upd (fun _ => (-1)) 22162 0), oc h0 8 [.int p0, .int p1, .ref h1, .ref h2, .ref h3, .ref h4, .ref h5, .ref h6, .ref h7, .ref h8, .ref h9, .ref h10, .ref h11, .ref h12, .int p2, .ref h13, .ref h14, .ref h15, .ref h16, .int 2, .int p4, .ref h17, .ref h18, .ref h19, .int 1, .ref h20, .int 125, .int p7, .ref h21, .ref h22, .ref h23, .ref h24, .ref h25, .ref h26, .ref h27, .ref h28, .int p8, .int p9, .ref h29, .ref h30, .ref h31, .ref h32, .ref h33, .ref h34, .ref h35, .ref h36, .int p10, .ref h37], ia h14 k13 155 (fun _ => 0), la h20 k19 5 (vp_updL (vp_updL (vp_updL (vp_updL (vp_updL (vp_updL (vp_updL (vp_updL (vp_updL (vp_updL (vp_updL (vp_updL (vp_updL (vp_updL (vp_updL (vp_updL (vp_updL (vp_updL (vp_updL (vp_updL (vp_updL (vp_updL (vp_updL (vp_updL (vp_updL (vp_updL (vp_updL (vp_updL (vp_updL (vp_updL (vp_updL (vp_updL (vp_updL f19 0 0) 1 0) 2 0) 3 0) 4 0) 0 0) 0 0) 0 0) 0 0) 0 262144) 0 33816576) 0 4328783872) 0 554084597760) 0 70922828775424) 0 9078122083516416) 0 1161999626690363392) 0 1161999626690363392) 1 8) 1 1032) 1 132104) 1 16909320) 1 16909320) 1 16909320) 1 16909320) 1 16909320) 1 16909320) 1 16909320) 1 16909320) 1 16909320) 1 16909320) 1 16909320) 1 16909320) 1 16909320)] H) _ hS
  refine tp_pc (pc' := 210) (by rfl) ?_
  refine lv_iconst (v := 0) hx hb d_Ref_wasMet_210 (by decide) ?_
  obtain ⟨hP9, hD9, -⟩ := cut3 (wc := [oc h0 8 [.int p0, .int p1, .ref h1, .ref h2, .ref h3, .ref h4, .ref h5, .ref h6, .ref h7, .ref h8, .ref h9, .ref h10, .ref h11, .ref h12, .int p2, .ref h13, .ref h14, .ref h15, .ref h16, .int 2, .int p4, .ref h17, .ref h18, .ref h19, .int 1, .ref h20, .int 125, .int p7, .ref h21, .ref h22, .ref h23, .ref h24, .ref h25, .ref h26, .ref h27, .ref h28, .int p8, .int p9, .ref h29, .ref h30, .ref h31, .ref h32, .ref h33, .ref h34, .ref h35, .ref h36, .int p10, .ref h37], ia h14 k13 155 (fun _ => 0), la h17 k16 1200000 (vp_updL (vp_updL (vp_updL (vp_updL (vp_updL f16 0 1161999626690363392) 1 16909320) 2 0) 3 0) 4 0), ia h18 k17 240000 (upd f17 0 (-1)), ia h19 k18 65536 (upd (fun _ => (-1)) 22162 0), la h20 k19 5 (vp_updL (vp_updL (vp_updL (vp_updL (vp_updL (vp_updL (vp_updL (vp_updL (vp_updL (vp_updL (vp_updL (vp_updL (vp_updL (vp_updL (vp_updL (vp_updL (vp_updL (vp_updL (vp_updL (vp_updL (vp_updL (vp_updL (vp_updL (vp_updL (vp_updL (vp_updL (vp_updL (vp_updL (vp_updL (vp_updL (vp_updL (vp_updL (vp_updL f19 0 0) 1 0) 2 0) 3 0) 4 0) 0 0) 0 0) 0 0) 0 0) 0 262144) 0 33816576) 0 4328783872) 0 554084597760) 0 70922828775424) 0 9078122083516416) 0 1161999626690363392) 0 1161999626690363392) 1 8) 1 1032) 1 132104) 1 16909320) 1 16909320) 1 16909320) 1 16909320) 1 16909320) 1 16909320) 1 16909320) 1 16909320) 1 16909320) 1 16909320) 1 16909320) 1 16909320) 1 16909320)]) hP hD rfl hS hA [3, 4, 0, 1, 2, 5] (by decide +kernel) rfl
  have hK9 := hK.sub (tys' := []) [] rfl
  refine W.widen (k := 0) (n := 0) (by exact Nat.le_of_ble_eq_true rfl) (by exact Nat.le_of_ble_eq_true rfl) ?_
  exact W.zret (v := 0) (ty := .boolean) hx hb hr (by decide) (fun t ht hW => ⟨⟨0, (), rfl, rfl, by rw [ht]; exact hP9, va_K.moved hW.alike hK9, hD9⟩, hS.F ht⟩) hS.2.2 d_Ref_wasMet_211
set_option maxHeartbeats 4000000 in
set_option maxRecDepth 100000 in
theorem c_Ref_addOutcome_v3 (l : Launch) (dC : Nat → ClassId) (dI : Nat → Nat → Nat) (h0 : Nat) (p1 : Int32) (p2 : Int32) (h1 : Nat) (h2 : Nat) (h3 : Nat) (h4 : Nat) (h5 : Nat) (h6 : Nat) (h7 : Nat) (h8 : Nat) (h9 : Nat) (h10 : Nat) (h11 : Nat) (h12 : Nat) (p3 : Int32) (h13 : Nat) (h14 : Nat) (h15 : Nat) (h16 : Nat) (p4 : Int32) (p5 : Int32) (h17 : Nat) (h18 : Nat) (h19 : Nat) (p6 : Int32) (h20 : Nat) (p7 : Int32) (p8 : Int32) (h21 : Nat) (h22 : Nat) (h23 : Nat) (h24 : Nat) (h25 : Nat) (h26 : Nat) (h27 : Nat) (h28 : Nat) (p9 : Int32) (p10 : Int32) (h29 : Nat) (h30 : Nat) (h31 : Nat) (h32 : Nat) (h33 : Nat) (h34 : Nat) (h35 : Nat) (h36 : Nat) (p11 : Int32) (h37 : Nat) (k6 : ClassId) (k7 : ClassId) (f7 : Nat → Int32) (k10 : ClassId) (f10 : Nat → Int32) (k20 : ClassId) (sz : Nat) : Met l y_Ref_addOutcome w_Ref_addOutcome ({ frames := 0, cells := 0, slots := 0, locals := 0 }) (va_Pc [.ref h0, .int 2] (fun U => U.heap.size = sz ∧ va_P (dC, dI) classes [oc h0 8 [.int p1, .int p2, .ref h1, .ref h2, .ref h3, .ref h4, .ref h5, .ref h6, .ref h7, .ref h8, .ref h9, .ref h10, .ref h11, .ref h12, .int p3, .ref h13, .ref h14, .ref h15, .ref h16, .int p4, .int p5, .ref h17, .ref h18, .ref h19, .int p6, .ref h20, .int p7, .int p8, .ref h21, .ref h22, .ref h23, .ref h24, .ref h25, .ref h26, .ref h27, .ref h28, .int p9, .int p10, .ref h29, .ref h30, .ref h31, .ref h32, .ref h33, .ref h34, .ref h35, .ref h36, .int p11, .ref h37], ia h7 k6 8 (fun _ => 0), ia h8 k7 352000 f7, ia h11 k10 32000 f10, ia h21 k20 11 (fun _ => 0)] U.heap ∧ va_K (dC, dI) classes [(k6, .int), (k7, .short), (k10, .int), (k20, .int)] U ∧ va_D (fun _ => True) [oc h0 8 [.int p1, .int p2, .ref h1, .ref h2, .ref h3, .ref h4, .ref h5, .ref h6, .ref h7, .ref h8, .ref h9, .ref h10, .ref h11, .ref h12, .int p3, .ref h13, .ref h14, .ref h15, .ref h16, .int p4, .int p5, .ref h17, .ref h18, .ref h19, .int p6, .ref h20, .int p7, .int p8, .ref h21, .ref h22, .ref h23, .ref h24, .ref h25, .ref h26, .ref h27, .ref h28, .int p9, .int p10, .ref h29, .ref h30, .ref h31, .ref h32, .ref h33, .ref h34, .ref h35, .ref h36, .int p11, .ref h37], ia h7 k6 8 (fun _ => 0), ia h8 k7 352000 f7, ia h11 k10 32000 f10, ia h21 k20 11 (fun _ => 0)] ∧ nw U)) (va_Qi (fun (r : Int32) (_ : Unit) => r = 0) (fun _ t => va_P (dC, dI) classes [oc h0 8 [.int p1, .int p2, .ref h1, .ref h2, .ref h3, .ref h4, .ref h5, .ref h6, .ref h7, .ref h8, .ref h9, .ref h10, .ref h11, .ref h12, .int p3, .ref h13, .ref h14, .ref h15, .ref h16, .int p4, .int p5, .ref h17, .ref h18, .ref h19, .int p6, .ref h20, .int p7, .int p8, .ref h21, .ref h22, .ref h23, .ref h24, .ref h25, .ref h26, .ref h27, .ref h28, .int p9, .int p10, .ref h29, .ref h30, .ref h31, .ref h32, .ref h33, .ref h34, .ref h35, .ref h36, .int p11, .ref h37], ia h7 k6 8 (upd (fun _ => 0) 2 1), ia h8 k7 352000 (upd (upd (upd (upd (upd (upd (upd (upd (upd (upd (upd f7 88000 0) 88001 0) 88002 0) 88003 0) 88004 0) 88005 0) 88006 0) 88007 0) 88008 0) 88009 0) 88010 0), ia h11 k10 32000 (upd f10 8000 0), ia h21 k20 11 (fun _ => 0)] t.heap ∧ va_K (dC, dI) classes [] t ∧ va_D (va_A [oc h0 8 [.int p1, .int p2, .ref h1, .ref h2, .ref h3, .ref h4, .ref h5, .ref h6, .ref h7, .ref h8, .ref h9, .ref h10, .ref h11, .ref h12, .int p3, .ref h13, .ref h14, .ref h15, .ref h16, .int p4, .int p5, .ref h17, .ref h18, .ref h19, .int p6, .ref h20, .int p7, .int p8, .ref h21, .ref h22, .ref h23, .ref h24, .ref h25, .ref h26, .ref h27, .ref h28, .int p9, .int p10, .ref h29, .ref h30, .ref h31, .ref h32, .ref h33, .ref h34, .ref h35, .ref h36, .int p11, .ref h37], ia h7 k6 8 (fun _ => 0), ia h8 k7 352000 f7, ia h11 k10 32000 f10, ia h21 k20 11 (fun _ => 0)] sz) [oc h0 8 [.int p1, .int p2, .ref h1, .ref h2, .ref h3, .ref h4, .ref h5, .ref h6, .ref h7, .ref h8, .ref h9, .ref h10, .ref h11, .ref h12, .int p3, .ref h13, .ref h14, .ref h15, .ref h16, .int p4, .int p5, .ref h17, .ref h18, .ref h19, .int p6, .ref h20, .int p7, .int p8, .ref h21, .ref h22, .ref h23, .ref h24, .ref h25, .ref h26, .ref h27, .ref h28, .int p9, .int p10, .ref h29, .ref h30, .ref h31, .ref h32, .ref h33, .ref h34, .ref h35, .ref h36, .int p11, .ref h37], ia h7 k6 8 (upd (fun _ => 0) 2 1), ia h8 k7 352000 (upd (upd (upd (upd (upd (upd (upd (upd (upd (upd (upd f7 88000 0) 88001 0) 88002 0) 88003 0) 88004 0) 88005 0) 88006 0) 88007 0) 88008 0) 88009 0) 88010 0), ia h11 k10 32000 (upd f10 8000 0), ia h21 k20 11 (fun _ => 0)]) (va_A [oc h0 8 [.int p1, .int p2, .ref h1, .ref h2, .ref h3, .ref h4, .ref h5, .ref h6, .ref h7, .ref h8, .ref h9, .ref h10, .ref h11, .ref h12, .int p3, .ref h13, .ref h14, .ref h15, .ref h16, .int p4, .int p5, .ref h17, .ref h18, .ref h19, .int p6, .ref h20, .int p7, .int p8, .ref h21, .ref h22, .ref h23, .ref h24, .ref h25, .ref h26, .ref h27, .ref h28, .int p9, .int p10, .ref h29, .ref h30, .ref h31, .ref h32, .ref h33, .ref h34, .ref h35, .ref h36, .int p11, .ref h37], ia h7 k6 8 (fun _ => 0), ia h8 k7 352000 f7, ia h11 k10 32000 f10, ia h21 k20 11 (fun _ => 0)] sz)) 0 0 (va_A [oc h0 8 [.int p1, .int p2, .ref h1, .ref h2, .ref h3, .ref h4, .ref h5, .ref h6, .ref h7, .ref h8, .ref h9, .ref h10, .ref h11, .ref h12, .int p3, .ref h13, .ref h14, .ref h15, .ref h16, .int p4, .int p5, .ref h17, .ref h18, .ref h19, .int p6, .ref h20, .int p7, .int p8, .ref h21, .ref h22, .ref h23, .ref h24, .ref h25, .ref h26, .ref h27, .ref h28, .int p9, .int p10, .ref h29, .ref h30, .ref h31, .ref h32, .ref h33, .ref h34, .ref h35, .ref h36, .int p11, .ref h37], ia h7 k6 8 (fun _ => 0), ia h8 k7 352000 f7, ia h11 k10 32000 f10, ia h21 k20 11 (fun _ => 0)] sz) := by
  refine Met.ofW (cc := b_Ref_addOutcome) (maxL := 7) (ret := (some .int)) (by decide) rfl ?_
  intro p e s m args below meth c s₁ B hml hv
  obtain ⟨rfl, hsz, hP, hK, hD0, hn⟩ := hv
  have hx := B.exec
  have hb := B.bytes
  have hr := B.returns
  have hw := fun w (h : w ∈ wt) => atoms_spec (ws := w_Ref_addOutcome) B.pre w (List.mem_cons_of_mem _ h)
  have hown : s.vm.findClass R_Ref = some m.cls := findClass_of_methodNamed B.named
  have hlocks := B.notSynchronized
  subst hsz
  have hD1 := hD0.self (sz := s.heap.size)
  generalize hAe : va_A [oc h0 8 [.int p1, .int p2, .ref h1, .ref h2, .ref h3, .ref h4, .ref h5, .ref h6, .ref h7, .ref h8, .ref h9, .ref h10, .ref h11, .ref h12, .int p3, .ref h13, .ref h14, .ref h15, .ref h16, .int p4, .int p5, .ref h17, .ref h18, .ref h19, .int p6, .ref h20, .int p7, .int p8, .ref h21, .ref h22, .ref h23, .ref h24, .ref h25, .ref h26, .ref h27, .ref h28, .int p9, .int p10, .ref h29, .ref h30, .ref h31, .ref h32, .ref h33, .ref h34, .ref h35, .ref h36, .int p11, .ref h37], ia h7 k6 8 (fun _ => 0), ia h8 k7 352000 f7, ia h11 k10 32000 f10, ia h21 k20 11 (fun _ => 0)] s.heap.size = A at hD1 ⊢
  have hA : ∀ q : Nat, s.heap.size ≤ q → A q := fun q h => by rw [← hAe]; exact Or.inr h
  have hD : dd A [h0, h7, h8, h11, h21] := dd_of hD1 rfl
  clear hAe hD0 hD1
  have hS : va_S A s.heap s.heap [] := va_S.rf
  replace hP : va_P (dC, dI) classes [oc h0 8 [.int p1, .int p2, .ref h1, .ref h2, .ref h3, .ref h4, .ref h5, .ref h6, .ref h7, .ref h8, .ref h9, .ref h10, .ref h11, .ref h12, .int p3, .ref h13, .ref h14, .ref h15, .ref h16, .int p4, .int p5, .ref h17, .ref h18, .ref h19, .int p6, .ref h20, .int p7, .int p8, .ref h21, .ref h22, .ref h23, .ref h24, .ref h25, .ref h26, .ref h27, .ref h28, .int p9, .int p10, .ref h29, .ref h30, .ref h31, .ref h32, .ref h33, .ref h34, .ref h35, .ref h36, .int p11, .ref h37], ia h7 k6 8 (fun _ => 0), ia h8 k7 352000 f7, ia h11 k10 32000 f10, ia h21 k20 11 (fun _ => 0)] s.heap := hP
  have hl := lv_entry ([.ref h0, .int 2]) (n := 7) (Nat.le_of_ble_eq_true rfl)
  rw [lg_entry_eq]
  generalize (lg_sl ([.ref h0, .int 2]) ++ List.replicate (7 - (lg_sl ([.ref h0, .int 2])).length) Slot.unset).toArray = ls at hl ⊢
  replace hl : lv_has ls 7 [(0, .ref h0), (1, .int 2)] := hl
  refine lv_sipush (v := 4000) hx hb d_Ref_addOutcome_0 (by decide) ?_
  refine lv_iload_n hx hb d_Ref_addOutcome_3 rfl (lv_at hl 1 rfl) ?_
  refine lv_imul hx hb d_Ref_addOutcome_4 ?_
  refine tp_i (y := 8000) (by first | rfl | decide) ?_
  refine lv_istore_n (lv' := [(2, .int 8000), (0, .ref h0), (1, .int 2)]) hx hb d_Ref_addOutcome_5 rfl hl (by decide) rfl ?_
  clear hl ls
  intro ls hl
  refine lv_iconst (v := 0) hx hb d_Ref_addOutcome_6 (by decide) ?_
  refine lv_istore_n (lv' := [(3, .int 0), (2, .int 8000), (0, .ref h0), (1, .int 2)]) hx hb d_Ref_addOutcome_7 rfl hl (by decide) rfl ?_
  clear hl ls
  intro ls hl
  refine lv_aload_n hx hb d_Ref_addOutcome_8 rfl (lv_at hl 2 rfl) ?_
  refine va_get (D := (dC, dI)) (ci := 8) (v := .ref h7) (C := R_Ref) (T := F_Ref) (N := 48) hx hb hw i_Ref hown hK hP 0 rfl rfl 8 (by decide) (hw _ m_907) (fun _ h9 => h9) rfl d_Ref_addOutcome_9 ?_
  refine lv_iload_n hx hb d_Ref_addOutcome_12 rfl (lv_at hl 3 rfl) ?_
  refine va_iald (D := (dC, dI)) hx hb hK hP 1 0 rfl rfl (i := 2) (vp_c (by decide)) d_Ref_addOutcome_13 ?_
  refine tp_i (y := 0) (by first | rfl | decide) ?_
  refine lv_istore (lv' := [(4, .int 0), (3, .int 0), (2, .int 8000), (0, .ref h0), (1, .int 2)]) hx hb d_Ref_addOutcome_14 hl (by decide) rfl ?_
  clear hl ls
  intro ls hl
  refine lv_iload_n hx hb d_Ref_addOutcome_16 rfl (lv_at hl 1 rfl) ?_
  refine lv_iload hx hb d_Ref_addOutcome_17 (lv_at hl 0 rfl) ?_
  refine lv_icmp_ge (tgt := 62) hx hb d_Ref_addOutcome_19 (by decide) (fun c_1 => ?_) (fun c_1 => absurd c_1 (by decide))
  refine tp_pc (pc' := 62) (by rfl) ?_
  refine lv_aload_n hx hb d_Ref_addOutcome_62 rfl (lv_at hl 3 rfl) ?_
  refine va_get (D := (dC, dI)) (ci := 8) (v := .ref h7) (C := R_Ref) (T := F_Ref) (N := 48) hx hb hw i_Ref hown hK hP 0 rfl rfl 8 (by decide) (hw _ m_907) (fun _ h9 => h9) rfl d_Ref_addOutcome_63 ?_
  refine lv_iload_n hx hb d_Ref_addOutcome_66 rfl (lv_at hl 4 rfl) ?_
  refine va_iald (D := (dC, dI)) hx hb hK hP 1 0 rfl rfl (i := 2) (vp_c (by decide)) d_Ref_addOutcome_67 ?_
  refine tp_i (y := 0) (by first | rfl | decide) ?_
  refine lv_istore (lv' := [(5, .int 0), (4, .int 0), (3, .int 0), (2, .int 8000), (0, .ref h0), (1, .int 2)]) hx hb d_Ref_addOutcome_68 hl (by decide) rfl ?_
  clear hl ls
  intro ls hl
  refine lv_iload_n hx hb d_Ref_addOutcome_70 rfl (lv_at hl 2 rfl) ?_
  refine lv_iload hx hb d_Ref_addOutcome_71 (lv_at hl 0 rfl) ?_
  refine lv_icmp_ge (tgt := 92) hx hb d_Ref_addOutcome_73 (by decide) (fun c_2 => ?_) (fun c_2 => absurd c_2 (by decide))
  refine tp_pc (pc' := 92) (by rfl) ?_
  refine lv_iload hx hb d_Ref_addOutcome_92 (lv_at hl 0 rfl) ?_
  refine lv_sipush (v := 4000) hx hb d_Ref_addOutcome_94 (by decide) ?_
  refine lv_icmp_ne (tgt := 102) hx hb d_Ref_addOutcome_97 (by decide) (fun c_3 => ?_) (fun c_3 => absurd c_3 (by decide))
  refine tp_pc (pc' := 102) (by rfl) ?_
  refine lv_iload hx hb d_Ref_addOutcome_102 (lv_at hl 0 rfl) ?_
  refine lv_istore (lv' := [(6, .int 0), (5, .int 0), (4, .int 0), (3, .int 0), (2, .int 8000), (0, .ref h0), (1, .int 2)]) hx hb d_Ref_addOutcome_104 hl (by decide) rfl ?_
  clear hl ls
  intro ls hl
  refine lv_iload hx hb d_Ref_addOutcome_106 (lv_at hl 0 rfl) ?_
  refine lv_iload_n hx hb d_Ref_addOutcome_108 rfl (lv_at hl 3 rfl) ?_
  refine lv_icmp_le (tgt := 138) hx hb d_Ref_addOutcome_109 (by decide) (fun c_4 => ?_) (fun c_4 => absurd c_4 (by decide))
  refine tp_pc (pc' := 138) (by rfl) ?_
  refine lv_aload_n hx hb d_Ref_addOutcome_138 rfl (lv_at hl 5 rfl) ?_
  refine va_get (D := (dC, dI)) (ci := 8) (v := .ref h11) (C := R_Ref) (T := F_Ref) (N := 48) hx hb hw i_Ref hown hK hP 0 rfl rfl 12 (by decide) (hw _ m_911) (fun _ h9 => h9) rfl d_Ref_addOutcome_139 ?_
  refine lv_iload_n hx hb d_Ref_addOutcome_142 rfl (lv_at hl 4 rfl) ?_
  refine lv_iload_n hx hb d_Ref_addOutcome_143 rfl (lv_at hl 3 rfl) ?_
  refine lv_iadd hx hb d_Ref_addOutcome_144 ?_
  refine tp_i (y := 8000) (by first | rfl | decide) ?_
  refine lv_iload hx hb d_Ref_addOutcome_145 (lv_at hl 1 rfl) ?_
  refine va_iast (D := (dC, dI)) hx hb hK hP (dd_D hD rfl) hS 3 2 rfl rfl (i := 8000) (x := 0) (vp_c (by decide)) d_Ref_addOutcome_147 ?_
  clear hP hS
  intro H locs (hP : va_P (dC, dI) classes [oc h0 8 [.int p1, .int p2, .ref h1, .ref h2, .ref h3, .ref h4, .ref h5, .ref h6, .ref h7, .ref h8, .ref h9, .ref h10, .ref h11, .ref h12, .int p3, .ref h13, .ref h14, .ref h15, .ref h16, .int p4, .int p5, .ref h17, .ref h18, .ref h19, .int p6, .ref h20, .int p7, .int p8, .ref h21, .ref h22, .ref h23, .ref h24, .ref h25, .ref h26, .ref h27, .ref h28, .int p9, .int p10, .ref h29, .ref h30, .ref h31, .ref h32, .ref h33, .ref h34, .ref h35, .ref h36, .int p11, .ref h37], ia h7 k6 8 (fun _ => 0), ia h8 k7 352000 f7, ia h11 k10 32000 (upd f10 8000 0), ia h21 k20 11 (fun _ => 0)] H) _ hS
  refine tp_pc (pc' := 148) (by rfl) ?_
  refine lv_aload_n hx hb d_Ref_addOutcome_148 rfl (lv_at hl 5 rfl) ?_
  refine va_get (D := (dC, dI)) (ci := 8) (v := .ref h7) (C := R_Ref) (T := F_Ref) (N := 48) hx hb hw i_Ref hown hK hP 0 rfl rfl 8 (by decide) (hw _ m_907) (fun _ h9 => h9) rfl d_Ref_addOutcome_149 ?_
  refine lv_iload_n hx hb d_Ref_addOutcome_152 rfl (lv_at hl 6 rfl) ?_
  refine lv_dup2_11 hx hb d_Ref_addOutcome_153 rfl rfl ?_
  refine va_iald (D := (dC, dI)) hx hb hK hP 1 0 rfl rfl (i := 2) (vp_c (by decide)) d_Ref_addOutcome_154 ?_
  refine tp_i (y := 0) (by first | rfl | decide) ?_
  refine lv_iconst (v := 1) hx hb d_Ref_addOutcome_155 (by decide) ?_
  refine lv_iadd hx hb d_Ref_addOutcome_156 ?_
  refine tp_i (y := 1) (by first | rfl | decide) ?_
  refine va_iast (D := (dC, dI)) hx hb hK hP (dd_D hD rfl) hS 1 0 rfl rfl (i := 2) (x := 1) (vp_c (by decide)) d_Ref_addOutcome_157 ?_
  clear hP hS locs H
  intro H locs (hP : va_P (dC, dI) classes [oc h0 8 [.int p1, .int p2, .ref h1, .ref h2, .ref h3, .ref h4, .ref h5, .ref h6, .ref h7, .ref h8, .ref h9, .ref h10, .ref h11, .ref h12, .int p3, .ref h13, .ref h14, .ref h15, .ref h16, .int p4, .int p5, .ref h17, .ref h18, .ref h19, .int p6, .ref h20, .int p7, .int p8, .ref h21, .ref h22, .ref h23, .ref h24, .ref h25, .ref h26, .ref h27, .ref h28, .int p9, .int p10, .ref h29, .ref h30, .ref h31, .ref h32, .ref h33, .ref h34, .ref h35, .ref h36, .int p11, .ref h37], ia h7 k6 8 (upd (fun _ => 0) 2 1), ia h8 k7 352000 f7, ia h11 k10 32000 (upd f10 8000 0), ia h21 k20 11 (fun _ => 0)] H) _ hS
  refine tp_pc (pc' := 158) (by rfl) ?_
  refine lv_iconst (v := 0) hx hb d_Ref_addOutcome_158 (by decide) ?_
  refine lv_istore (lv' := [(6, .int 0), (5, .int 0), (4, .int 0), (3, .int 0), (2, .int 8000), (0, .ref h0), (1, .int 2)]) hx hb d_Ref_addOutcome_159 hl (by decide) rfl ?_
  clear hl ls
  intro ls hl
  refine lv_iload hx hb d_Ref_addOutcome_161 (lv_at hl 0 rfl) ?_
  refine lv_bipush (v := 11) hx hb d_Ref_addOutcome_163 (by decide) ?_
  refine lv_icmp_ge (tgt := 197) hx hb d_Ref_addOutcome_165 (by decide) (fun c_5 => absurd c_5 (by decide)) (fun c_5 => ?_)
  refine tp_pc (pc' := 168) (by rfl) ?_
  refine lv_aload_n hx hb d_Ref_addOutcome_168 rfl (lv_at hl 5 rfl) ?_
  refine va_get (D := (dC, dI)) (ci := 8) (v := .ref h8) (C := R_Ref) (T := F_Ref) (N := 48) hx hb hw i_Ref hown hK hP 0 rfl rfl 9 (by decide) (hw _ m_908) (fun _ h9 => h9) rfl d_Ref_addOutcome_169 ?_
  refine lv_bipush (v := 11) hx hb d_Ref_addOutcome_172 (by decide) ?_
  refine lv_iload_n hx hb d_Ref_addOutcome_174 rfl (lv_at hl 4 rfl) ?_
  refine lv_iload hx hb d_Ref_addOutcome_175 (lv_at hl 1 rfl) ?_
  refine lv_iadd hx hb d_Ref_addOutcome_177 ?_
  refine tp_i (y := 8000) (by first | rfl | decide) ?_
  refine lv_imul hx hb d_Ref_addOutcome_178 ?_
  refine tp_i (y := 88000) (by first | rfl | decide) ?_
  refine lv_iload hx hb d_Ref_addOutcome_179 (lv_at hl 0 rfl) ?_
  refine lv_iadd hx hb d_Ref_addOutcome_181 ?_
  refine tp_i (y := 88000) (by first | rfl | decide) ?_
  refine lv_aload_n hx hb d_Ref_addOutcome_182 rfl (lv_at hl 5 rfl) ?_
  refine va_get (D := (dC, dI)) (ci := 8) (v := .ref h21) (C := R_Ref) (T := F_Ref) (N := 48) hx hb hw i_Ref hown hK hP 0 rfl rfl 28 (by decide) (hw _ m_927) (fun _ h9 => h9) rfl d_Ref_addOutcome_183 ?_
  refine lv_iload hx hb d_Ref_addOutcome_186 (lv_at hl 0 rfl) ?_
  refine va_iald (D := (dC, dI)) hx hb hK hP 4 3 rfl rfl (i := 0) (vp_c (by decide)) d_Ref_addOutcome_188 ?_
  refine tp_i (y := 0) (by first | rfl | decide) ?_
  refine lv_i2s (v := 0) hx hb d_Ref_addOutcome_189 (by decide) ?_
  refine va_sast (D := (dC, dI)) hx hb hK hP (dd_D hD rfl) hS 2 1 rfl rfl (i := 88000) (x := 0) (vp_c (by decide)) d_Ref_addOutcome_190 ?_
  clear hP hS locs H
  intro H locs (hP : va_P (dC, dI) classes [oc h0 8 [.int p1, .int p2, .ref h1, .ref h2, .ref h3, .ref h4, .ref h5, .ref h6, .ref h7, .ref h8, .ref h9, .ref h10, .ref h11, .ref h12, .int p3, .ref h13, .ref h14, .ref h15, .ref h16, .int p4, .int p5, .ref h17, .ref h18, .ref h19, .int p6, .ref h20, .int p7, .int p8, .ref h21, .ref h22, .ref h23, .ref h24, .ref h25, .ref h26, .ref h27, .ref h28, .int p9, .int p10, .ref h29, .ref h30, .ref h31, .ref h32, .ref h33, .ref h34, .ref h35, .ref h36, .int p11, .ref h37], ia h7 k6 8 (upd (fun _ => 0) 2 1), ia h8 k7 352000 (upd f7 88000 0), ia h11 k10 32000 (upd f10 8000 0), ia h21 k20 11 (fun _ => 0)] H) _ hS
  refine tp_pc (pc' := 191) (by rfl) ?_
  refine lv_iinc (v := 1) (lv' := [(6, .int 1), (5, .int 0), (4, .int 0), (3, .int 0), (2, .int 8000), (0, .ref h0), (1, .int 2)]) hx hb d_Ref_addOutcome_191 hl (k := 0) rfl (by first | rfl | decide) (by decide) rfl ?_
  clear hl ls
  intro ls hl
  refine lv_goto (tgt := 161) hx hb d_Ref_addOutcome_194 (by decide) ?_
  refine tp_pc (pc' := 161) (by rfl) ?_
  refine lv_iload hx hb d_Ref_addOutcome_161 (lv_at hl 0 rfl) ?_
  refine lv_bipush (v := 11) hx hb d_Ref_addOutcome_163 (by decide) ?_
  refine lv_icmp_ge (tgt := 197) hx hb d_Ref_addOutcome_165 (by decide) (fun c_6 => absurd c_6 (by decide)) (fun c_6 => ?_)
  refine tp_pc (pc' := 168) (by rfl) ?_
  refine lv_aload_n hx hb d_Ref_addOutcome_168 rfl (lv_at hl 5 rfl) ?_
  refine va_get (D := (dC, dI)) (ci := 8) (v := .ref h8) (C := R_Ref) (T := F_Ref) (N := 48) hx hb hw i_Ref hown hK hP 0 rfl rfl 9 (by decide) (hw _ m_908) (fun _ h9 => h9) rfl d_Ref_addOutcome_169 ?_
  refine lv_bipush (v := 11) hx hb d_Ref_addOutcome_172 (by decide) ?_
  refine lv_iload_n hx hb d_Ref_addOutcome_174 rfl (lv_at hl 4 rfl) ?_
  refine lv_iload hx hb d_Ref_addOutcome_175 (lv_at hl 1 rfl) ?_
  refine lv_iadd hx hb d_Ref_addOutcome_177 ?_
  refine tp_i (y := 8000) (by first | rfl | decide) ?_
  refine lv_imul hx hb d_Ref_addOutcome_178 ?_
  refine tp_i (y := 88000) (by first | rfl | decide) ?_
  refine lv_iload hx hb d_Ref_addOutcome_179 (lv_at hl 0 rfl) ?_
  refine lv_iadd hx hb d_Ref_addOutcome_181 ?_
  refine tp_i (y := 88001) (by first | rfl | decide) ?_
  refine lv_aload_n hx hb d_Ref_addOutcome_182 rfl (lv_at hl 5 rfl) ?_
  refine va_get (D := (dC, dI)) (ci := 8) (v := .ref h21) (C := R_Ref) (T := F_Ref) (N := 48) hx hb hw i_Ref hown hK hP 0 rfl rfl 28 (by decide) (hw _ m_927) (fun _ h9 => h9) rfl d_Ref_addOutcome_183 ?_
  refine lv_iload hx hb d_Ref_addOutcome_186 (lv_at hl 0 rfl) ?_
  refine va_iald (D := (dC, dI)) hx hb hK hP 4 3 rfl rfl (i := 1) (vp_c (by decide)) d_Ref_addOutcome_188 ?_
  refine tp_i (y := 0) (by first | rfl | decide) ?_
  refine lv_i2s (v := 0) hx hb d_Ref_addOutcome_189 (by decide) ?_
  refine va_sast (D := (dC, dI)) hx hb hK hP (dd_D hD rfl) hS 2 1 rfl rfl (i := 88001) (x := 0) (vp_c (by decide)) d_Ref_addOutcome_190 ?_
  clear hP hS locs H
  intro H locs (hP : va_P (dC, dI) classes [oc h0 8 [.int p1, .int p2, .ref h1, .ref h2, .ref h3, .ref h4, .ref h5, .ref h6, .ref h7, .ref h8, .ref h9, .ref h10, .ref h11, .ref h12, .int p3, .ref h13, .ref h14, .ref h15, .ref h16, .int p4, .int p5, .ref h17, .ref h18, .ref h19, .int p6, .ref h20, .int p7, .int p8, .ref h21, .ref h22, .ref h23, .ref h24, .ref h25, .ref h26, .ref h27, .ref h28, .int p9, .int p10, .ref h29, .ref h30, .ref h31, .ref h32, .ref h33, .ref h34, .ref h35, .ref h36, .int p11, .ref h37], ia h7 k6 8 (upd (fun _ => 0) 2 1), ia h8 k7 352000 (upd (upd f7 88000 0) 88001 0), ia h11 k10 32000 (upd f10 8000 0), ia h21 k20 11 (fun _ => 0)] H) _ hS
  refine tp_pc (pc' := 191) (by rfl) ?_
  refine lv_iinc (v := 2) (lv' := [(6, .int 2), (5, .int 0), (4, .int 0), (3, .int 0), (2, .int 8000), (0, .ref h0), (1, .int 2)]) hx hb d_Ref_addOutcome_191 hl (k := 0) rfl (by first | rfl | decide) (by decide) rfl ?_
  clear hl ls
  intro ls hl
  refine lv_goto (tgt := 161) hx hb d_Ref_addOutcome_194 (by decide) ?_
  refine tp_pc (pc' := 161) (by rfl) ?_
  refine lv_iload hx hb d_Ref_addOutcome_161 (lv_at hl 0 rfl) ?_
  refine lv_bipush (v := 11) hx hb d_Ref_addOutcome_163 (by decide) ?_
  refine lv_icmp_ge (tgt := 197) hx hb d_Ref_addOutcome_165 (by decide) (fun c_7 => absurd c_7 (by decide)) (fun c_7 => ?_)
  refine tp_pc (pc' := 168) (by rfl) ?_
  refine lv_aload_n hx hb d_Ref_addOutcome_168 rfl (lv_at hl 5 rfl) ?_
  refine va_get (D := (dC, dI)) (ci := 8) (v := .ref h8) (C := R_Ref) (T := F_Ref) (N := 48) hx hb hw i_Ref hown hK hP 0 rfl rfl 9 (by decide) (hw _ m_908) (fun _ h9 => h9) rfl d_Ref_addOutcome_169 ?_
  refine lv_bipush (v := 11) hx hb d_Ref_addOutcome_172 (by decide) ?_
  refine lv_iload_n hx hb d_Ref_addOutcome_174 rfl (lv_at hl 4 rfl) ?_
  refine lv_iload hx hb d_Ref_addOutcome_175 (lv_at hl 1 rfl) ?_
  refine lv_iadd hx hb d_Ref_addOutcome_177 ?_
  refine tp_i (y := 8000) (by first | rfl | decide) ?_
  refine lv_imul hx hb d_Ref_addOutcome_178 ?_
  refine tp_i (y := 88000) (by first | rfl | decide) ?_
  refine lv_iload hx hb d_Ref_addOutcome_179 (lv_at hl 0 rfl) ?_
  refine lv_iadd hx hb d_Ref_addOutcome_181 ?_
  refine tp_i (y := 88002) (by first | rfl | decide) ?_
  refine lv_aload_n hx hb d_Ref_addOutcome_182 rfl (lv_at hl 5 rfl) ?_
  refine va_get (D := (dC, dI)) (ci := 8) (v := .ref h21) (C := R_Ref) (T := F_Ref) (N := 48) hx hb hw i_Ref hown hK hP 0 rfl rfl 28 (by decide) (hw _ m_927) (fun _ h9 => h9) rfl d_Ref_addOutcome_183 ?_
  refine lv_iload hx hb d_Ref_addOutcome_186 (lv_at hl 0 rfl) ?_
  refine va_iald (D := (dC, dI)) hx hb hK hP 4 3 rfl rfl (i := 2) (vp_c (by decide)) d_Ref_addOutcome_188 ?_
  refine tp_i (y := 0) (by first | rfl | decide) ?_
  refine lv_i2s (v := 0) hx hb d_Ref_addOutcome_189 (by decide) ?_
  refine va_sast (D := (dC, dI)) hx hb hK hP (dd_D hD rfl) hS 2 1 rfl rfl (i := 88002) (x := 0) (vp_c (by decide)) d_Ref_addOutcome_190 ?_
  clear hP hS locs H
  intro H locs (hP : va_P (dC, dI) classes [oc h0 8 [.int p1, .int p2, .ref h1, .ref h2, .ref h3, .ref h4, .ref h5, .ref h6, .ref h7, .ref h8, .ref h9, .ref h10, .ref h11, .ref h12, .int p3, .ref h13, .ref h14, .ref h15, .ref h16, .int p4, .int p5, .ref h17, .ref h18, .ref h19, .int p6, .ref h20, .int p7, .int p8, .ref h21, .ref h22, .ref h23, .ref h24, .ref h25, .ref h26, .ref h27, .ref h28, .int p9, .int p10, .ref h29, .ref h30, .ref h31, .ref h32, .ref h33, .ref h34, .ref h35, .ref h36, .int p11, .ref h37], ia h7 k6 8 (upd (fun _ => 0) 2 1), ia h8 k7 352000 (upd (upd (upd f7 88000 0) 88001 0) 88002 0), ia h11 k10 32000 (upd f10 8000 0), ia h21 k20 11 (fun _ => 0)] H) _ hS
  refine tp_pc (pc' := 191) (by rfl) ?_
  refine lv_iinc (v := 3) (lv' := [(6, .int 3), (5, .int 0), (4, .int 0), (3, .int 0), (2, .int 8000), (0, .ref h0), (1, .int 2)]) hx hb d_Ref_addOutcome_191 hl (k := 0) rfl (by first | rfl | decide) (by decide) rfl ?_
  clear hl ls
  intro ls hl
  refine lv_goto (tgt := 161) hx hb d_Ref_addOutcome_194 (by decide) ?_
  refine tp_pc (pc' := 161) (by rfl) ?_
  refine lv_iload hx hb d_Ref_addOutcome_161 (lv_at hl 0 rfl) ?_
  refine lv_bipush (v := 11) hx hb d_Ref_addOutcome_163 (by decide) ?_
  refine lv_icmp_ge (tgt := 197) hx hb d_Ref_addOutcome_165 (by decide) (fun c_8 => absurd c_8 (by decide)) (fun c_8 => ?_)
  refine tp_pc (pc' := 168) (by rfl) ?_
  refine lv_aload_n hx hb d_Ref_addOutcome_168 rfl (lv_at hl 5 rfl) ?_
  refine va_get (D := (dC, dI)) (ci := 8) (v := .ref h8) (C := R_Ref) (T := F_Ref) (N := 48) hx hb hw i_Ref hown hK hP 0 rfl rfl 9 (by decide) (hw _ m_908) (fun _ h9 => h9) rfl d_Ref_addOutcome_169 ?_
  refine lv_bipush (v := 11) hx hb d_Ref_addOutcome_172 (by decide) ?_
  refine lv_iload_n hx hb d_Ref_addOutcome_174 rfl (lv_at hl 4 rfl) ?_
  refine lv_iload hx hb d_Ref_addOutcome_175 (lv_at hl 1 rfl) ?_
  refine lv_iadd hx hb d_Ref_addOutcome_177 ?_
  refine tp_i (y := 8000) (by first | rfl | decide) ?_
  refine lv_imul hx hb d_Ref_addOutcome_178 ?_
  refine tp_i (y := 88000) (by first | rfl | decide) ?_
  refine lv_iload hx hb d_Ref_addOutcome_179 (lv_at hl 0 rfl) ?_
  refine lv_iadd hx hb d_Ref_addOutcome_181 ?_
  refine tp_i (y := 88003) (by first | rfl | decide) ?_
  refine lv_aload_n hx hb d_Ref_addOutcome_182 rfl (lv_at hl 5 rfl) ?_
  refine va_get (D := (dC, dI)) (ci := 8) (v := .ref h21) (C := R_Ref) (T := F_Ref) (N := 48) hx hb hw i_Ref hown hK hP 0 rfl rfl 28 (by decide) (hw _ m_927) (fun _ h9 => h9) rfl d_Ref_addOutcome_183 ?_
  refine lv_iload hx hb d_Ref_addOutcome_186 (lv_at hl 0 rfl) ?_
  refine va_iald (D := (dC, dI)) hx hb hK hP 4 3 rfl rfl (i := 3) (vp_c (by decide)) d_Ref_addOutcome_188 ?_
  refine tp_i (y := 0) (by first | rfl | decide) ?_
  refine lv_i2s (v := 0) hx hb d_Ref_addOutcome_189 (by decide) ?_
  refine va_sast (D := (dC, dI)) hx hb hK hP (dd_D hD rfl) hS 2 1 rfl rfl (i := 88003) (x := 0) (vp_c (by decide)) d_Ref_addOutcome_190 ?_
  clear hP hS locs H
  intro H locs (hP : va_P (dC, dI) classes [oc h0 8 [.int p1, .int p2, .ref h1, .ref h2, .ref h3, .ref h4, .ref h5, .ref h6, .ref h7, .ref h8, .ref h9, .ref h10, .ref h11, .ref h12, .int p3, .ref h13, .ref h14, .ref h15, .ref h16, .int p4, .int p5, .ref h17, .ref h18, .ref h19, .int p6, .ref h20, .int p7, .int p8, .ref h21, .ref h22, .ref h23, .ref h24, .ref h25, .ref h26, .ref h27, .ref h28, .int p9, .int p10, .ref h29, .ref h30, .ref h31, .ref h32, .ref h33, .ref h34, .ref h35, .ref h36, .int p11, .ref h37], ia h7 k6 8 (upd (fun _ => 0) 2 1), ia h8 k7 352000 (upd (upd (upd (upd f7 88000 0) 88001 0) 88002 0) 88003 0), ia h11 k10 32000 (upd f10 8000 0), ia h21 k20 11 (fun _ => 0)] H) _ hS
  refine tp_pc (pc' := 191) (by rfl) ?_
  refine lv_iinc (v := 4) (lv' := [(6, .int 4), (5, .int 0), (4, .int 0), (3, .int 0), (2, .int 8000), (0, .ref h0), (1, .int 2)]) hx hb d_Ref_addOutcome_191 hl (k := 0) rfl (by first | rfl | decide) (by decide) rfl ?_
  clear hl ls
  intro ls hl
  refine lv_goto (tgt := 161) hx hb d_Ref_addOutcome_194 (by decide) ?_
  refine tp_pc (pc' := 161) (by rfl) ?_
  refine lv_iload hx hb d_Ref_addOutcome_161 (lv_at hl 0 rfl) ?_
  refine lv_bipush (v := 11) hx hb d_Ref_addOutcome_163 (by decide) ?_
  refine lv_icmp_ge (tgt := 197) hx hb d_Ref_addOutcome_165 (by decide) (fun c_9 => absurd c_9 (by decide)) (fun c_9 => ?_)
  refine tp_pc (pc' := 168) (by rfl) ?_
  refine lv_aload_n hx hb d_Ref_addOutcome_168 rfl (lv_at hl 5 rfl) ?_
  refine va_get (D := (dC, dI)) (ci := 8) (v := .ref h8) (C := R_Ref) (T := F_Ref) (N := 48) hx hb hw i_Ref hown hK hP 0 rfl rfl 9 (by decide) (hw _ m_908) (fun _ h9 => h9) rfl d_Ref_addOutcome_169 ?_
  refine lv_bipush (v := 11) hx hb d_Ref_addOutcome_172 (by decide) ?_
  refine lv_iload_n hx hb d_Ref_addOutcome_174 rfl (lv_at hl 4 rfl) ?_
  refine lv_iload hx hb d_Ref_addOutcome_175 (lv_at hl 1 rfl) ?_
  refine lv_iadd hx hb d_Ref_addOutcome_177 ?_
  refine tp_i (y := 8000) (by first | rfl | decide) ?_
  refine lv_imul hx hb d_Ref_addOutcome_178 ?_
  refine tp_i (y := 88000) (by first | rfl | decide) ?_
  refine lv_iload hx hb d_Ref_addOutcome_179 (lv_at hl 0 rfl) ?_
  refine lv_iadd hx hb d_Ref_addOutcome_181 ?_
  refine tp_i (y := 88004) (by first | rfl | decide) ?_
  refine lv_aload_n hx hb d_Ref_addOutcome_182 rfl (lv_at hl 5 rfl) ?_
  refine va_get (D := (dC, dI)) (ci := 8) (v := .ref h21) (C := R_Ref) (T := F_Ref) (N := 48) hx hb hw i_Ref hown hK hP 0 rfl rfl 28 (by decide) (hw _ m_927) (fun _ h9 => h9) rfl d_Ref_addOutcome_183 ?_
  refine lv_iload hx hb d_Ref_addOutcome_186 (lv_at hl 0 rfl) ?_
  refine va_iald (D := (dC, dI)) hx hb hK hP 4 3 rfl rfl (i := 4) (vp_c (by decide)) d_Ref_addOutcome_188 ?_
  refine tp_i (y := 0) (by first | rfl | decide) ?_
  refine lv_i2s (v := 0) hx hb d_Ref_addOutcome_189 (by decide) ?_
  refine va_sast (D := (dC, dI)) hx hb hK hP (dd_D hD rfl) hS 2 1 rfl rfl (i := 88004) (x := 0) (vp_c (by decide)) d_Ref_addOutcome_190 ?_
  clear hP hS locs H
  intro H locs (hP : va_P (dC, dI) classes [oc h0 8 [.int p1, .int p2, .ref h1, .ref h2, .ref h3, .ref h4, .ref h5, .ref h6, .ref h7, .ref h8, .ref h9, .ref h10, .ref h11, .ref h12, .int p3, .ref h13, .ref h14, .ref h15, .ref h16, .int p4, .int p5, .ref h17, .ref h18, .ref h19, .int p6, .ref h20, .int p7, .int p8, .ref h21, .ref h22, .ref h23, .ref h24, .ref h25, .ref h26, .ref h27, .ref h28, .int p9, .int p10, .ref h29, .ref h30, .ref h31, .ref h32, .ref h33, .ref h34, .ref h35, .ref h36, .int p11, .ref h37], ia h7 k6 8 (upd (fun _ => 0) 2 1), ia h8 k7 352000 (upd (upd (upd (upd (upd f7 88000 0) 88001 0) 88002 0) 88003 0) 88004 0), ia h11 k10 32000 (upd f10 8000 0), ia h21 k20 11 (fun _ => 0)] H) _ hS
  refine tp_pc (pc' := 191) (by rfl) ?_
  refine lv_iinc (v := 5) (lv' := [(6, .int 5), (5, .int 0), (4, .int 0), (3, .int 0), (2, .int 8000), (0, .ref h0), (1, .int 2)]) hx hb d_Ref_addOutcome_191 hl (k := 0) rfl (by first | rfl | decide) (by decide) rfl ?_
  clear hl ls
  intro ls hl
  refine lv_goto (tgt := 161) hx hb d_Ref_addOutcome_194 (by decide) ?_
  refine tp_pc (pc' := 161) (by rfl) ?_
  refine lv_iload hx hb d_Ref_addOutcome_161 (lv_at hl 0 rfl) ?_
  refine lv_bipush (v := 11) hx hb d_Ref_addOutcome_163 (by decide) ?_
  refine lv_icmp_ge (tgt := 197) hx hb d_Ref_addOutcome_165 (by decide) (fun c_10 => absurd c_10 (by decide)) (fun c_10 => ?_)
  refine tp_pc (pc' := 168) (by rfl) ?_
  refine lv_aload_n hx hb d_Ref_addOutcome_168 rfl (lv_at hl 5 rfl) ?_
  refine va_get (D := (dC, dI)) (ci := 8) (v := .ref h8) (C := R_Ref) (T := F_Ref) (N := 48) hx hb hw i_Ref hown hK hP 0 rfl rfl 9 (by decide) (hw _ m_908) (fun _ h9 => h9) rfl d_Ref_addOutcome_169 ?_
  refine lv_bipush (v := 11) hx hb d_Ref_addOutcome_172 (by decide) ?_
  refine lv_iload_n hx hb d_Ref_addOutcome_174 rfl (lv_at hl 4 rfl) ?_
  refine lv_iload hx hb d_Ref_addOutcome_175 (lv_at hl 1 rfl) ?_
  refine lv_iadd hx hb d_Ref_addOutcome_177 ?_
  refine tp_i (y := 8000) (by first | rfl | decide) ?_
  refine lv_imul hx hb d_Ref_addOutcome_178 ?_
  refine tp_i (y := 88000) (by first | rfl | decide) ?_
  refine lv_iload hx hb d_Ref_addOutcome_179 (lv_at hl 0 rfl) ?_
  refine lv_iadd hx hb d_Ref_addOutcome_181 ?_
  refine tp_i (y := 88005) (by first | rfl | decide) ?_
  refine lv_aload_n hx hb d_Ref_addOutcome_182 rfl (lv_at hl 5 rfl) ?_
  refine va_get (D := (dC, dI)) (ci := 8) (v := .ref h21) (C := R_Ref) (T := F_Ref) (N := 48) hx hb hw i_Ref hown hK hP 0 rfl rfl 28 (by decide) (hw _ m_927) (fun _ h9 => h9) rfl d_Ref_addOutcome_183 ?_
  refine lv_iload hx hb d_Ref_addOutcome_186 (lv_at hl 0 rfl) ?_
  refine va_iald (D := (dC, dI)) hx hb hK hP 4 3 rfl rfl (i := 5) (vp_c (by decide)) d_Ref_addOutcome_188 ?_
  refine tp_i (y := 0) (by first | rfl | decide) ?_
  refine lv_i2s (v := 0) hx hb d_Ref_addOutcome_189 (by decide) ?_
  refine va_sast (D := (dC, dI)) hx hb hK hP (dd_D hD rfl) hS 2 1 rfl rfl (i := 88005) (x := 0) (vp_c (by decide)) d_Ref_addOutcome_190 ?_
  clear hP hS locs H
  intro H locs (hP : va_P (dC, dI) classes [oc h0 8 [.int p1, .int p2, .ref h1, .ref h2, .ref h3, .ref h4, .ref h5, .ref h6, .ref h7, .ref h8, .ref h9, .ref h10, .ref h11, .ref h12, .int p3, .ref h13, .ref h14, .ref h15, .ref h16, .int p4, .int p5, .ref h17, .ref h18, .ref h19, .int p6, .ref h20, .int p7, .int p8, .ref h21, .ref h22, .ref h23, .ref h24, .ref h25, .ref h26, .ref h27, .ref h28, .int p9, .int p10, .ref h29, .ref h30, .ref h31, .ref h32, .ref h33, .ref h34, .ref h35, .ref h36, .int p11, .ref h37], ia h7 k6 8 (upd (fun _ => 0) 2 1), ia h8 k7 352000 (upd (upd (upd (upd (upd (upd f7 88000 0) 88001 0) 88002 0) 88003 0) 88004 0) 88005 0), ia h11 k10 32000 (upd f10 8000 0), ia h21 k20 11 (fun _ => 0)] H) _ hS
  refine tp_pc (pc' := 191) (by rfl) ?_
  refine lv_iinc (v := 6) (lv' := [(6, .int 6), (5, .int 0), (4, .int 0), (3, .int 0), (2, .int 8000), (0, .ref h0), (1, .int 2)]) hx hb d_Ref_addOutcome_191 hl (k := 0) rfl (by first | rfl | decide) (by decide) rfl ?_
  clear hl ls
  intro ls hl
  refine lv_goto (tgt := 161) hx hb d_Ref_addOutcome_194 (by decide) ?_
  refine tp_pc (pc' := 161) (by rfl) ?_
  refine lv_iload hx hb d_Ref_addOutcome_161 (lv_at hl 0 rfl) ?_
  refine lv_bipush (v := 11) hx hb d_Ref_addOutcome_163 (by decide) ?_
  refine lv_icmp_ge (tgt := 197) hx hb d_Ref_addOutcome_165 (by decide) (fun c_11 => absurd c_11 (by decide)) (fun c_11 => ?_)
  refine tp_pc (pc' := 168) (by rfl) ?_
  refine lv_aload_n hx hb d_Ref_addOutcome_168 rfl (lv_at hl 5 rfl) ?_
  refine va_get (D := (dC, dI)) (ci := 8) (v := .ref h8) (C := R_Ref) (T := F_Ref) (N := 48) hx hb hw i_Ref hown hK hP 0 rfl rfl 9 (by decide) (hw _ m_908) (fun _ h9 => h9) rfl d_Ref_addOutcome_169 ?_
  refine lv_bipush (v := 11) hx hb d_Ref_addOutcome_172 (by decide) ?_
  refine lv_iload_n hx hb d_Ref_addOutcome_174 rfl (lv_at hl 4 rfl) ?_
  refine lv_iload hx hb d_Ref_addOutcome_175 (lv_at hl 1 rfl) ?_
  refine lv_iadd hx hb d_Ref_addOutcome_177 ?_
  refine tp_i (y := 8000) (by first | rfl | decide) ?_
  refine lv_imul hx hb d_Ref_addOutcome_178 ?_
  refine tp_i (y := 88000) (by first | rfl | decide) ?_
  refine lv_iload hx hb d_Ref_addOutcome_179 (lv_at hl 0 rfl) ?_
  refine lv_iadd hx hb d_Ref_addOutcome_181 ?_
  refine tp_i (y := 88006) (by first | rfl | decide) ?_
  refine lv_aload_n hx hb d_Ref_addOutcome_182 rfl (lv_at hl 5 rfl) ?_
  refine va_get (D := (dC, dI)) (ci := 8) (v := .ref h21) (C := R_Ref) (T := F_Ref) (N := 48) hx hb hw i_Ref hown hK hP 0 rfl rfl 28 (by decide) (hw _ m_927) (fun _ h9 => h9) rfl d_Ref_addOutcome_183 ?_
  refine lv_iload hx hb d_Ref_addOutcome_186 (lv_at hl 0 rfl) ?_
  refine va_iald (D := (dC, dI)) hx hb hK hP 4 3 rfl rfl (i := 6) (vp_c (by decide)) d_Ref_addOutcome_188 ?_
  refine tp_i (y := 0) (by first | rfl | decide) ?_
  refine lv_i2s (v := 0) hx hb d_Ref_addOutcome_189 (by decide) ?_
  refine va_sast (D := (dC, dI)) hx hb hK hP (dd_D hD rfl) hS 2 1 rfl rfl (i := 88006) (x := 0) (vp_c (by decide)) d_Ref_addOutcome_190 ?_
  clear hP hS locs H
  intro H locs (hP : va_P (dC, dI) classes [oc h0 8 [.int p1, .int p2, .ref h1, .ref h2, .ref h3, .ref h4, .ref h5, .ref h6, .ref h7, .ref h8, .ref h9, .ref h10, .ref h11, .ref h12, .int p3, .ref h13, .ref h14, .ref h15, .ref h16, .int p4, .int p5, .ref h17, .ref h18, .ref h19, .int p6, .ref h20, .int p7, .int p8, .ref h21, .ref h22, .ref h23, .ref h24, .ref h25, .ref h26, .ref h27, .ref h28, .int p9, .int p10, .ref h29, .ref h30, .ref h31, .ref h32, .ref h33, .ref h34, .ref h35, .ref h36, .int p11, .ref h37], ia h7 k6 8 (upd (fun _ => 0) 2 1), ia h8 k7 352000 (upd (upd (upd (upd (upd (upd (upd f7 88000 0) 88001 0) 88002 0) 88003 0) 88004 0) 88005 0) 88006 0), ia h11 k10 32000 (upd f10 8000 0), ia h21 k20 11 (fun _ => 0)] H) _ hS
  refine tp_pc (pc' := 191) (by rfl) ?_
  refine lv_iinc (v := 7) (lv' := [(6, .int 7), (5, .int 0), (4, .int 0), (3, .int 0), (2, .int 8000), (0, .ref h0), (1, .int 2)]) hx hb d_Ref_addOutcome_191 hl (k := 0) rfl (by first | rfl | decide) (by decide) rfl ?_
  clear hl ls
  intro ls hl
  refine lv_goto (tgt := 161) hx hb d_Ref_addOutcome_194 (by decide) ?_
  refine tp_pc (pc' := 161) (by rfl) ?_
  refine lv_iload hx hb d_Ref_addOutcome_161 (lv_at hl 0 rfl) ?_
  refine lv_bipush (v := 11) hx hb d_Ref_addOutcome_163 (by decide) ?_
  refine lv_icmp_ge (tgt := 197) hx hb d_Ref_addOutcome_165 (by decide) (fun c_12 => absurd c_12 (by decide)) (fun c_12 => ?_)
  refine tp_pc (pc' := 168) (by rfl) ?_
  refine lv_aload_n hx hb d_Ref_addOutcome_168 rfl (lv_at hl 5 rfl) ?_
  refine va_get (D := (dC, dI)) (ci := 8) (v := .ref h8) (C := R_Ref) (T := F_Ref) (N := 48) hx hb hw i_Ref hown hK hP 0 rfl rfl 9 (by decide) (hw _ m_908) (fun _ h9 => h9) rfl d_Ref_addOutcome_169 ?_
  refine lv_bipush (v := 11) hx hb d_Ref_addOutcome_172 (by decide) ?_
  refine lv_iload_n hx hb d_Ref_addOutcome_174 rfl (lv_at hl 4 rfl) ?_
  refine lv_iload hx hb d_Ref_addOutcome_175 (lv_at hl 1 rfl) ?_
  refine lv_iadd hx hb d_Ref_addOutcome_177 ?_
  refine tp_i (y := 8000) (by first | rfl | decide) ?_
  refine lv_imul hx hb d_Ref_addOutcome_178 ?_
  refine tp_i (y := 88000) (by first | rfl | decide) ?_
  refine lv_iload hx hb d_Ref_addOutcome_179 (lv_at hl 0 rfl) ?_
  refine lv_iadd hx hb d_Ref_addOutcome_181 ?_
  refine tp_i (y := 88007) (by first | rfl | decide) ?_
  refine lv_aload_n hx hb d_Ref_addOutcome_182 rfl (lv_at hl 5 rfl) ?_
  refine va_get (D := (dC, dI)) (ci := 8) (v := .ref h21) (C := R_Ref) (T := F_Ref) (N := 48) hx hb hw i_Ref hown hK hP 0 rfl rfl 28 (by decide) (hw _ m_927) (fun _ h9 => h9) rfl d_Ref_addOutcome_183 ?_
  refine lv_iload hx hb d_Ref_addOutcome_186 (lv_at hl 0 rfl) ?_
  refine va_iald (D := (dC, dI)) hx hb hK hP 4 3 rfl rfl (i := 7) (vp_c (by decide)) d_Ref_addOutcome_188 ?_
  refine tp_i (y := 0) (by first | rfl | decide) ?_
  refine lv_i2s (v := 0) hx hb d_Ref_addOutcome_189 (by decide) ?_
  refine va_sast (D := (dC, dI)) hx hb hK hP (dd_D hD rfl) hS 2 1 rfl rfl (i := 88007) (x := 0) (vp_c (by decide)) d_Ref_addOutcome_190 ?_
  clear hP hS locs H
  intro H locs (hP : va_P (dC, dI) classes [oc h0 8 [.int p1, .int p2, .ref h1, .ref h2, .ref h3, .ref h4, .ref h5, .ref h6, .ref h7, .ref h8, .ref h9, .ref h10, .ref h11, .ref h12, .int p3, .ref h13, .ref h14, .ref h15, .ref h16, .int p4, .int p5, .ref h17, .ref h18, .ref h19, .int p6, .ref h20, .int p7, .int p8, .ref h21, .ref h22, .ref h23, .ref h24, .ref h25, .ref h26, .ref h27, .ref h28, .int p9, .int p10, .ref h29, .ref h30, .ref h31, .ref h32, .ref h33, .ref h34, .ref h35, .ref h36, .int p11, .ref h37], ia h7 k6 8 (upd (fun _ => 0) 2 1), ia h8 k7 352000 (upd (upd (upd (upd (upd (upd (upd (upd f7 88000 0) 88001 0) 88002 0) 88003 0) 88004 0) 88005 0) 88006 0) 88007 0), ia h11 k10 32000 (upd f10 8000 0), ia h21 k20 11 (fun _ => 0)] H) _ hS
  refine tp_pc (pc' := 191) (by rfl) ?_
  refine lv_iinc (v := 8) (lv' := [(6, .int 8), (5, .int 0), (4, .int 0), (3, .int 0), (2, .int 8000), (0, .ref h0), (1, .int 2)]) hx hb d_Ref_addOutcome_191 hl (k := 0) rfl (by first | rfl | decide) (by decide) rfl ?_
  clear hl ls
  intro ls hl
  refine lv_goto (tgt := 161) hx hb d_Ref_addOutcome_194 (by decide) ?_
  refine tp_pc (pc' := 161) (by rfl) ?_
  refine lv_iload hx hb d_Ref_addOutcome_161 (lv_at hl 0 rfl) ?_
  refine lv_bipush (v := 11) hx hb d_Ref_addOutcome_163 (by decide) ?_
  refine lv_icmp_ge (tgt := 197) hx hb d_Ref_addOutcome_165 (by decide) (fun c_13 => absurd c_13 (by decide)) (fun c_13 => ?_)
  refine tp_pc (pc' := 168) (by rfl) ?_
  refine lv_aload_n hx hb d_Ref_addOutcome_168 rfl (lv_at hl 5 rfl) ?_
  refine va_get (D := (dC, dI)) (ci := 8) (v := .ref h8) (C := R_Ref) (T := F_Ref) (N := 48) hx hb hw i_Ref hown hK hP 0 rfl rfl 9 (by decide) (hw _ m_908) (fun _ h9 => h9) rfl d_Ref_addOutcome_169 ?_
  refine lv_bipush (v := 11) hx hb d_Ref_addOutcome_172 (by decide) ?_
  refine lv_iload_n hx hb d_Ref_addOutcome_174 rfl (lv_at hl 4 rfl) ?_
  refine lv_iload hx hb d_Ref_addOutcome_175 (lv_at hl 1 rfl) ?_
  refine lv_iadd hx hb d_Ref_addOutcome_177 ?_
  refine tp_i (y := 8000) (by first | rfl | decide) ?_
  refine lv_imul hx hb d_Ref_addOutcome_178 ?_
  refine tp_i (y := 88000) (by first | rfl | decide) ?_
  refine lv_iload hx hb d_Ref_addOutcome_179 (lv_at hl 0 rfl) ?_
  refine lv_iadd hx hb d_Ref_addOutcome_181 ?_
  refine tp_i (y := 88008) (by first | rfl | decide) ?_
  refine lv_aload_n hx hb d_Ref_addOutcome_182 rfl (lv_at hl 5 rfl) ?_
  refine va_get (D := (dC, dI)) (ci := 8) (v := .ref h21) (C := R_Ref) (T := F_Ref) (N := 48) hx hb hw i_Ref hown hK hP 0 rfl rfl 28 (by decide) (hw _ m_927) (fun _ h9 => h9) rfl d_Ref_addOutcome_183 ?_
  refine lv_iload hx hb d_Ref_addOutcome_186 (lv_at hl 0 rfl) ?_
  refine va_iald (D := (dC, dI)) hx hb hK hP 4 3 rfl rfl (i := 8) (vp_c (by decide)) d_Ref_addOutcome_188 ?_
  refine tp_i (y := 0) (by first | rfl | decide) ?_
  refine lv_i2s (v := 0) hx hb d_Ref_addOutcome_189 (by decide) ?_
  refine va_sast (D := (dC, dI)) hx hb hK hP (dd_D hD rfl) hS 2 1 rfl rfl (i := 88008) (x := 0) (vp_c (by decide)) d_Ref_addOutcome_190 ?_
  clear hP hS locs H
  intro H locs (hP : va_P (dC, dI) classes [oc h0 8 [.int p1, .int p2, .ref h1, .ref h2, .ref h3, .ref h4, .ref h5, .ref h6, .ref h7, .ref h8, .ref h9, .ref h10, .ref h11, .ref h12, .int p3, .ref h13, .ref h14, .ref h15, .ref h16, .int p4, .int p5, .ref h17, .ref h18, .ref h19, .int p6, .ref h20, .int p7, .int p8, .ref h21, .ref h22, .ref h23, .ref h24, .ref h25, .ref h26, .ref h27, .ref h28, .int p9, .int p10, .ref h29, .ref h30, .ref h31, .ref h32, .ref h33, .ref h34, .ref h35, .ref h36, .int p11, .ref h37], ia h7 k6 8 (upd (fun _ => 0) 2 1), ia h8 k7 352000 (upd (upd (upd (upd (upd (upd (upd (upd (upd f7 88000 0) 88001 0) 88002 0) 88003 0) 88004 0) 88005 0) 88006 0) 88007 0) 88008 0), ia h11 k10 32000 (upd f10 8000 0), ia h21 k20 11 (fun _ => 0)] H) _ hS
  refine tp_pc (pc' := 191) (by rfl) ?_
  refine lv_iinc (v := 9) (lv' := [(6, .int 9), (5, .int 0), (4, .int 0), (3, .int 0), (2, .int 8000), (0, .ref h0), (1, .int 2)]) hx hb d_Ref_addOutcome_191 hl (k := 0) rfl (by first | rfl | decide) (by decide) rfl ?_
  clear hl ls
  intro ls hl
  refine lv_goto (tgt := 161) hx hb d_Ref_addOutcome_194 (by decide) ?_
  refine tp_pc (pc' := 161) (by rfl) ?_
  refine lv_iload hx hb d_Ref_addOutcome_161 (lv_at hl 0 rfl) ?_
  refine lv_bipush (v := 11) hx hb d_Ref_addOutcome_163 (by decide) ?_
  refine lv_icmp_ge (tgt := 197) hx hb d_Ref_addOutcome_165 (by decide) (fun c_14 => absurd c_14 (by decide)) (fun c_14 => ?_)
  refine tp_pc (pc' := 168) (by rfl) ?_
  refine lv_aload_n hx hb d_Ref_addOutcome_168 rfl (lv_at hl 5 rfl) ?_
  refine va_get (D := (dC, dI)) (ci := 8) (v := .ref h8) (C := R_Ref) (T := F_Ref) (N := 48) hx hb hw i_Ref hown hK hP 0 rfl rfl 9 (by decide) (hw _ m_908) (fun _ h9 => h9) rfl d_Ref_addOutcome_169 ?_
  refine lv_bipush (v := 11) hx hb d_Ref_addOutcome_172 (by decide) ?_
  refine lv_iload_n hx hb d_Ref_addOutcome_174 rfl (lv_at hl 4 rfl) ?_
  refine lv_iload hx hb d_Ref_addOutcome_175 (lv_at hl 1 rfl) ?_
  refine lv_iadd hx hb d_Ref_addOutcome_177 ?_
  refine tp_i (y := 8000) (by first | rfl | decide) ?_
  refine lv_imul hx hb d_Ref_addOutcome_178 ?_
  refine tp_i (y := 88000) (by first | rfl | decide) ?_
  refine lv_iload hx hb d_Ref_addOutcome_179 (lv_at hl 0 rfl) ?_
  refine lv_iadd hx hb d_Ref_addOutcome_181 ?_
  refine tp_i (y := 88009) (by first | rfl | decide) ?_
  refine lv_aload_n hx hb d_Ref_addOutcome_182 rfl (lv_at hl 5 rfl) ?_
  refine va_get (D := (dC, dI)) (ci := 8) (v := .ref h21) (C := R_Ref) (T := F_Ref) (N := 48) hx hb hw i_Ref hown hK hP 0 rfl rfl 28 (by decide) (hw _ m_927) (fun _ h9 => h9) rfl d_Ref_addOutcome_183 ?_
  refine lv_iload hx hb d_Ref_addOutcome_186 (lv_at hl 0 rfl) ?_
  refine va_iald (D := (dC, dI)) hx hb hK hP 4 3 rfl rfl (i := 9) (vp_c (by decide)) d_Ref_addOutcome_188 ?_
  refine tp_i (y := 0) (by first | rfl | decide) ?_
  refine lv_i2s (v := 0) hx hb d_Ref_addOutcome_189 (by decide) ?_
  refine va_sast (D := (dC, dI)) hx hb hK hP (dd_D hD rfl) hS 2 1 rfl rfl (i := 88009) (x := 0) (vp_c (by decide)) d_Ref_addOutcome_190 ?_
  clear hP hS locs H
  intro H locs (hP : va_P (dC, dI) classes [oc h0 8 [.int p1, .int p2, .ref h1, .ref h2, .ref h3, .ref h4, .ref h5, .ref h6, .ref h7, .ref h8, .ref h9, .ref h10, .ref h11, .ref h12, .int p3, .ref h13, .ref h14, .ref h15, .ref h16, .int p4, .int p5, .ref h17, .ref h18, .ref h19, .int p6, .ref h20, .int p7, .int p8, .ref h21, .ref h22, .ref h23, .ref h24, .ref h25, .ref h26, .ref h27, .ref h28, .int p9, .int p10, .ref h29, .ref h30, .ref h31, .ref h32, .ref h33, .ref h34, .ref h35, .ref h36, .int p11, .ref h37], ia h7 k6 8 (upd (fun _ => 0) 2 1), ia h8 k7 352000 (upd (upd (upd (upd (upd (upd (upd (upd (upd (upd f7 88000 0) 88001 0) 88002 0) 88003 0) 88004 0) 88005 0) 88006 0) 88007 0) 88008 0) 88009 0), ia h11 k10 32000 (upd f10 8000 0), ia h21 k20 11 (fun _ => 0)] H) _ hS
  refine tp_pc (pc' := 191) (by rfl) ?_
  refine lv_iinc (v := 10) (lv' := [(6, .int 10), (5, .int 0), (4, .int 0), (3, .int 0), (2, .int 8000), (0, .ref h0), (1, .int 2)]) hx hb d_Ref_addOutcome_191 hl (k := 0) rfl (by first | rfl | decide) (by decide) rfl ?_
  clear hl ls
  intro ls hl
  refine lv_goto (tgt := 161) hx hb d_Ref_addOutcome_194 (by decide) ?_
  refine tp_pc (pc' := 161) (by rfl) ?_
  refine lv_iload hx hb d_Ref_addOutcome_161 (lv_at hl 0 rfl) ?_
  refine lv_bipush (v := 11) hx hb d_Ref_addOutcome_163 (by decide) ?_
  refine lv_icmp_ge (tgt := 197) hx hb d_Ref_addOutcome_165 (by decide) (fun c_15 => absurd c_15 (by decide)) (fun c_15 => ?_)
  refine tp_pc (pc' := 168) (by rfl) ?_
  refine lv_aload_n hx hb d_Ref_addOutcome_168 rfl (lv_at hl 5 rfl) ?_
  refine va_get (D := (dC, dI)) (ci := 8) (v := .ref h8) (C := R_Ref) (T := F_Ref) (N := 48) hx hb hw i_Ref hown hK hP 0 rfl rfl 9 (by decide) (hw _ m_908) (fun _ h9 => h9) rfl d_Ref_addOutcome_169 ?_
  refine lv_bipush (v := 11) hx hb d_Ref_addOutcome_172 (by decide) ?_
  refine lv_iload_n hx hb d_Ref_addOutcome_174 rfl (lv_at hl 4 rfl) ?_
  refine lv_iload hx hb d_Ref_addOutcome_175 (lv_at hl 1 rfl) ?_
  refine lv_iadd hx hb d_Ref_addOutcome_177 ?_
  refine tp_i (y := 8000) (by first | rfl | decide) ?_
  refine lv_imul hx hb d_Ref_addOutcome_178 ?_
  refine tp_i (y := 88000) (by first | rfl | decide) ?_
  refine lv_iload hx hb d_Ref_addOutcome_179 (lv_at hl 0 rfl) ?_
  refine lv_iadd hx hb d_Ref_addOutcome_181 ?_
  refine tp_i (y := 88010) (by first | rfl | decide) ?_
  refine lv_aload_n hx hb d_Ref_addOutcome_182 rfl (lv_at hl 5 rfl) ?_
  refine va_get (D := (dC, dI)) (ci := 8) (v := .ref h21) (C := R_Ref) (T := F_Ref) (N := 48) hx hb hw i_Ref hown hK hP 0 rfl rfl 28 (by decide) (hw _ m_927) (fun _ h9 => h9) rfl d_Ref_addOutcome_183 ?_
  refine lv_iload hx hb d_Ref_addOutcome_186 (lv_at hl 0 rfl) ?_
  refine va_iald (D := (dC, dI)) hx hb hK hP 4 3 rfl rfl (i := 10) (vp_c (by decide)) d_Ref_addOutcome_188 ?_
  refine tp_i (y := 0) (by first | rfl | decide) ?_
  refine lv_i2s (v := 0) hx hb d_Ref_addOutcome_189 (by decide) ?_
  refine va_sast (D := (dC, dI)) hx hb hK hP (dd_D hD rfl) hS 2 1 rfl rfl (i := 88010) (x := 0) (vp_c (by decide)) d_Ref_addOutcome_190 ?_
  clear hP hS locs H
  intro H locs (hP : va_P (dC, dI) classes [oc h0 8 [.int p1, .int p2, .ref h1, .ref h2, .ref h3, .ref h4, .ref h5, .ref h6, .ref h7, .ref h8, .ref h9, .ref h10, .ref h11, .ref h12, .int p3, .ref h13, .ref h14, .ref h15, .ref h16, .int p4, .int p5, .ref h17, .ref h18, .ref h19, .int p6, .ref h20, .int p7, .int p8, .ref h21, .ref h22, .ref h23, .ref h24, .ref h25, .ref h26, .ref h27, .ref h28, .int p9, .int p10, .ref h29, .ref h30, .ref h31, .ref h32, .ref h33, .ref h34, .ref h35, .ref h36, .int p11, .ref h37], ia h7 k6 8 (upd (fun _ => 0) 2 1), ia h8 k7 352000 (upd (upd (upd (upd (upd (upd (upd (upd (upd (upd (upd f7 88000 0) 88001 0) 88002 0) 88003 0) 88004 0) 88005 0) 88006 0) 88007 0) 88008 0) 88009 0) 88010 0), ia h11 k10 32000 (upd f10 8000 0), ia h21 k20 11 (fun _ => 0)] H) _ hS
  refine tp_pc (pc' := 191) (by rfl) ?_
  refine lv_iinc (v := 11) (lv' := [(6, .int 11), (5, .int 0), (4, .int 0), (3, .int 0), (2, .int 8000), (0, .ref h0), (1, .int 2)]) hx hb d_Ref_addOutcome_191 hl (k := 0) rfl (by first | rfl | decide) (by decide) rfl ?_
  clear hl ls
  intro ls hl
  refine lv_goto (tgt := 161) hx hb d_Ref_addOutcome_194 (by decide) ?_
  refine tp_pc (pc' := 161) (by rfl) ?_
  refine lv_iload hx hb d_Ref_addOutcome_161 (lv_at hl 0 rfl) ?_
  refine lv_bipush (v := 11) hx hb d_Ref_addOutcome_163 (by decide) ?_
  refine lv_icmp_ge (tgt := 197) hx hb d_Ref_addOutcome_165 (by decide) (fun c_16 => ?_) (fun c_16 => absurd c_16 (by decide))
  refine tp_pc (pc' := 197) (by rfl) ?_
  refine lv_iload hx hb d_Ref_addOutcome_197 (lv_at hl 1 rfl) ?_
  obtain ⟨hP9, hD9, -⟩ := cut3 (wc := [oc h0 8 [.int p1, .int p2, .ref h1, .ref h2, .ref h3, .ref h4, .ref h5, .ref h6, .ref h7, .ref h8, .ref h9, .ref h10, .ref h11, .ref h12, .int p3, .ref h13, .ref h14, .ref h15, .ref h16, .int p4, .int p5, .ref h17, .ref h18, .ref h19, .int p6, .ref h20, .int p7, .int p8, .ref h21, .ref h22, .ref h23, .ref h24, .ref h25, .ref h26, .ref h27, .ref h28, .int p9, .int p10, .ref h29, .ref h30, .ref h31, .ref h32, .ref h33, .ref h34, .ref h35, .ref h36, .int p11, .ref h37], ia h7 k6 8 (upd (fun _ => 0) 2 1), ia h8 k7 352000 (upd (upd (upd (upd (upd (upd (upd (upd (upd (upd (upd f7 88000 0) 88001 0) 88002 0) 88003 0) 88004 0) 88005 0) 88006 0) 88007 0) 88008 0) 88009 0) 88010 0), ia h11 k10 32000 (upd f10 8000 0), ia h21 k20 11 (fun _ => 0)]) hP hD rfl hS hA [0, 1, 2, 3, 4] (by decide +kernel) rfl
  have hK9 := hK.sub (tys' := []) [] rfl
  refine W.widen (k := 0) (n := 0) (by exact Nat.le_of_ble_eq_true rfl) (by exact Nat.le_of_ble_eq_true rfl) ?_
  exact W.iret (v := 0) hx hb hr (fun t ht hW => ⟨⟨0, (), rfl, rfl, by rw [ht]; exact hP9, va_K.moved hW.alike hK9, hD9⟩, hS.F ht⟩) hS.2.2 d_Ref_addOutcome_199
