set_option maxHeartbeats 4000000 in
set_option maxRecDepth 100000 in
theorem c_Ref_encode_v3 (l : Launch) (dC : Nat → ClassId) (dI : Nat → Nat → Nat) (h0 : Nat) (p0 : Int32) (p1 : Int32) (h1 : Nat) (h2 : Nat) (h3 : Nat) (h4 : Nat) (h5 : Nat) (h6 : Nat) (h7 : Nat) (h8 : Nat) (h9 : Nat) (h10 : Nat) (h11 : Nat) (h12 : Nat) (p2 : Int32) (h13 : Nat) (h14 : Nat) (h15 : Nat) (h16 : Nat) (p4 : Int32) (h17 : Nat) (h18 : Nat) (h19 : Nat) (p5 : Int32) (h20 : Nat) (p6 : Int32) (p7 : Int32) (h21 : Nat) (h22 : Nat) (h23 : Nat) (h24 : Nat) (h25 : Nat) (h26 : Nat) (h27 : Nat) (h28 : Nat) (p8 : Int32) (p9 : Int32) (h29 : Nat) (h30 : Nat) (h31 : Nat) (h32 : Nat) (h33 : Nat) (h34 : Nat) (h35 : Nat) (h36 : Nat) (p10 : Int32) (h37 : Nat) (k13 : ClassId) (k19 : ClassId) (f19 : Nat → Int64) (sz : Nat) : Met l y_Ref_encode w_Ref_encode ({ frames := 1, cells := 0, slots := 0, locals := 25 }) (va_Pc [.ref h0] (fun U => U.heap.size = sz ∧ va_P (dC, dI) classes [oc h0 8 [.int p0, .int p1, .ref h1, .ref h2, .ref h3, .ref h4, .ref h5, .ref h6, .ref h7, .ref h8, .ref h9, .ref h10, .ref h11, .ref h12, .int p2, .ref h13, .ref h14, .ref h15, .ref h16, .int 2, .int p4, .ref h17, .ref h18, .ref h19, .int p5, .ref h20, .int p6, .int p7, .ref h21, .ref h22, .ref h23, .ref h24, .ref h25, .ref h26, .ref h27, .ref h28, .int p8, .int p9, .ref h29, .ref h30, .ref h31, .ref h32, .ref h33, .ref h34, .ref h35, .ref h36, .int p10, .ref h37], ia h14 k13 155 (fun _ => 0), la h20 k19 5 f19] U.heap ∧ va_K (dC, dI) classes [(k13, .int), (k19, .long)] U ∧ va_D (fun _ => True) [oc h0 8 [.int p0, .int p1, .ref h1, .ref h2, .ref h3, .ref h4, .ref h5, .ref h6, .ref h7, .ref h8, .ref h9, .ref h10, .ref h11, .ref h12, .int p2, .ref h13, .ref h14, .ref h15, .ref h16, .int 2, .int p4, .ref h17, .ref h18, .ref h19, .int p5, .ref h20, .int p6, .int p7, .ref h21, .ref h22, .ref h23, .ref h24, .ref h25, .ref h26, .ref h27, .ref h28, .int p8, .int p9, .ref h29, .ref h30, .ref h31, .ref h32, .ref h33, .ref h34, .ref h35, .ref h36, .int p10, .ref h37], ia h14 k13 155 (fun _ => 0), la h20 k19 5 f19] ∧ nw U)) (va_Qv (fun _ : Unit => True) (fun _ t => va_P (dC, dI) classes [oc h0 8 [.int p0, .int p1, .ref h1, .ref h2, .ref h3, .ref h4, .ref h5, .ref h6, .ref h7, .ref h8, .ref h9, .ref h10, .ref h11, .ref h12, .int p2, .ref h13, .ref h14, .ref h15, .ref h16, .int 2, .int p4, .ref h17, .ref h18, .ref h19, .int p5, .ref h20, .int 125, .int p7, .ref h21, .ref h22, .ref h23, .ref h24, .ref h25, .ref h26, .ref h27, .ref h28, .int p8, .int p9, .ref h29, .ref h30, .ref h31, .ref h32, .ref h33, .ref h34, .ref h35, .ref h36, .int p10, .ref h37], ia h14 k13 155 (fun _ => 0), la h20 k19 5 (vp_updL (vp_updL (vp_updL (vp_updL (vp_updL (vp_updL (vp_updL (vp_updL (vp_updL (vp_updL (vp_updL (vp_updL (vp_updL (vp_updL (vp_updL (vp_updL (vp_updL (vp_updL (vp_updL (vp_updL (vp_updL (vp_updL (vp_updL (vp_updL (vp_updL (vp_updL (vp_updL (vp_updL (vp_updL (vp_updL (vp_updL (vp_updL (vp_updL f19 0 0) 1 0) 2 0) 3 0) 4 0) 0 0) 0 0) 0 0) 0 0) 0 262144) 0 33816576) 0 4328783872) 0 554084597760) 0 70922828775424) 0 9078122083516416) 0 1161999626690363392) 0 1161999626690363392) 1 8) 1 1032) 1 132104) 1 16909320) 1 16909320) 1 16909320) 1 16909320) 1 16909320) 1 16909320) 1 16909320) 1 16909320) 1 16909320) 1 16909320) 1 16909320) 1 16909320) 1 16909320)] t.heap ∧ va_K (dC, dI) classes [] t ∧ va_D (va_A [oc h0 8 [.int p0, .int p1, .ref h1, .ref h2, .ref h3, .ref h4, .ref h5, .ref h6, .ref h7, .ref h8, .ref h9, .ref h10, .ref h11, .ref h12, .int p2, .ref h13, .ref h14, .ref h15, .ref h16, .int 2, .int p4, .ref h17, .ref h18, .ref h19, .int p5, .ref h20, .int p6, .int p7, .ref h21, .ref h22, .ref h23, .ref h24, .ref h25, .ref h26, .ref h27, .ref h28, .int p8, .int p9, .ref h29, .ref h30, .ref h31, .ref h32, .ref h33, .ref h34, .ref h35, .ref h36, .int p10, .ref h37], ia h14 k13 155 (fun _ => 0), la h20 k19 5 f19] sz) [oc h0 8 [.int p0, .int p1, .ref h1, .ref h2, .ref h3, .ref h4, .ref h5, .ref h6, .ref h7, .ref h8, .ref h9, .ref h10, .ref h11, .ref h12, .int p2, .ref h13, .ref h14, .ref h15, .ref h16, .int 2, .int p4, .ref h17, .ref h18, .ref h19, .int p5, .ref h20, .int 125, .int p7, .ref h21, .ref h22, .ref h23, .ref h24, .ref h25, .ref h26, .ref h27, .ref h28, .int p8, .int p9, .ref h29, .ref h30, .ref h31, .ref h32, .ref h33, .ref h34, .ref h35, .ref h36, .int p10, .ref h37], ia h14 k13 155 (fun _ => 0), la h20 k19 5 (vp_updL (vp_updL (vp_updL (vp_updL (vp_updL (vp_updL (vp_updL (vp_updL (vp_updL (vp_updL (vp_updL (vp_updL (vp_updL (vp_updL (vp_updL (vp_updL (vp_updL (vp_updL (vp_updL (vp_updL (vp_updL (vp_updL (vp_updL (vp_updL (vp_updL (vp_updL (vp_updL (vp_updL (vp_updL (vp_updL (vp_updL (vp_updL (vp_updL f19 0 0) 1 0) 2 0) 3 0) 4 0) 0 0) 0 0) 0 0) 0 0) 0 262144) 0 33816576) 0 4328783872) 0 554084597760) 0 70922828775424) 0 9078122083516416) 0 1161999626690363392) 0 1161999626690363392) 1 8) 1 1032) 1 132104) 1 16909320) 1 16909320) 1 16909320) 1 16909320) 1 16909320) 1 16909320) 1 16909320) 1 16909320) 1 16909320) 1 16909320) 1 16909320) 1 16909320) 1 16909320)]) (va_A [oc h0 8 [.int p0, .int p1, .ref h1, .ref h2, .ref h3, .ref h4, .ref h5, .ref h6, .ref h7, .ref h8, .ref h9, .ref h10, .ref h11, .ref h12, .int p2, .ref h13, .ref h14, .ref h15, .ref h16, .int 2, .int p4, .ref h17, .ref h18, .ref h19, .int p5, .ref h20, .int p6, .int p7, .ref h21, .ref h22, .ref h23, .ref h24, .ref h25, .ref h26, .ref h27, .ref h28, .int p8, .int p9, .ref h29, .ref h30, .ref h31, .ref h32, .ref h33, .ref h34, .ref h35, .ref h36, .int p10, .ref h37], ia h14 k13 155 (fun _ => 0), la h20 k19 5 f19] sz)) 0 0 (va_A [oc h0 8 [.int p0, .int p1, .ref h1, .ref h2, .ref h3, .ref h4, .ref h5, .ref h6, .ref h7, .ref h8, .ref h9, .ref h10, .ref h11, .ref h12, .int p2, .ref h13, .ref h14, .ref h15, .ref h16, .int 2, .int p4, .ref h17, .ref h18, .ref h19, .int p5, .ref h20, .int p6, .int p7, .ref h21, .ref h22, .ref h23, .ref h24, .ref h25, .ref h26, .ref h27, .ref h28, .int p8, .int p9, .ref h29, .ref h30, .ref h31, .ref h32, .ref h33, .ref h34, .ref h35, .ref h36, .int p10, .ref h37], ia h14 k13 155 (fun _ => 0), la h20 k19 5 f19] sz) := by
  refine Met.ofW (cc := b_Ref_encode) (maxL := 7) (ret := none) (by decide) rfl ?_
  intro p e s m args below meth c s₁ B hml hv
  obtain ⟨rfl, hsz, hP, hK, hD0, hn⟩ := hv
  have hx := B.exec
  have hb := B.bytes
  have hr := B.returns
  have hw := fun w (h : w ∈ wt) => atoms_spec (ws := w_Ref_encode) B.pre w (List.mem_cons_of_mem _ h)
  have hown : s.vm.findClass R_Ref = some m.cls := findClass_of_methodNamed B.named
  have hlocks := B.notSynchronized
  subst hsz
  have hD1 := hD0.self (sz := s.heap.size)
  generalize hAe : va_A [oc h0 8 [.int p0, .int p1, .ref h1, .ref h2, .ref h3, .ref h4, .ref h5, .ref h6, .ref h7, .ref h8, .ref h9, .ref h10, .ref h11, .ref h12, .int p2, .ref h13, .ref h14, .ref h15, .ref h16, .int 2, .int p4, .ref h17, .ref h18, .ref h19, .int p5, .ref h20, .int p6, .int p7, .ref h21, .ref h22, .ref h23, .ref h24, .ref h25, .ref h26, .ref h27, .ref h28, .int p8, .int p9, .ref h29, .ref h30, .ref h31, .ref h32, .ref h33, .ref h34, .ref h35, .ref h36, .int p10, .ref h37], ia h14 k13 155 (fun _ => 0), la h20 k19 5 f19] s.heap.size = A at hD1 ⊢
  have hA : ∀ q : Nat, s.heap.size ≤ q → A q := fun q h => by rw [← hAe]; exact Or.inr h
  have hD : dd A [h0, h14, h20] := dd_of hD1 rfl
  clear hAe hD0 hD1
  have hS : va_S A s.heap s.heap [] := va_S.rf
  replace hP : va_P (dC, dI) classes [oc h0 8 [.int p0, .int p1, .ref h1, .ref h2, .ref h3, .ref h4, .ref h5, .ref h6, .ref h7, .ref h8, .ref h9, .ref h10, .ref h11, .ref h12, .int p2, .ref h13, .ref h14, .ref h15, .ref h16, .int 2, .int p4, .ref h17, .ref h18, .ref h19, .int p5, .ref h20, .int p6, .int p7, .ref h21, .ref h22, .ref h23, .ref h24, .ref h25, .ref h26, .ref h27, .ref h28, .int p8, .int p9, .ref h29, .ref h30, .ref h31, .ref h32, .ref h33, .ref h34, .ref h35, .ref h36, .int p10, .ref h37], ia h14 k13 155 (fun _ => 0), la h20 k19 5 f19] s.heap := hP
  have hl := lv_entry ([.ref h0]) (n := 7) (Nat.le_of_ble_eq_true rfl)
  rw [lg_entry_eq]
  generalize (lg_sl ([.ref h0]) ++ List.replicate (7 - (lg_sl ([.ref h0])).length) Slot.unset).toArray = ls at hl ⊢
  replace hl : lv_has ls 7 [(0, .ref h0)] := hl
  refine lv_iconst (v := 0) hx hb d_Ref_encode_0 (by decide) ?_
  refine lv_istore_n (lv' := [(1, .int 0), (0, .ref h0)]) hx hb d_Ref_encode_1 rfl hl (by decide) rfl ?_
  clear hl ls
  intro ls hl
  refine lv_iload_n hx hb d_Ref_encode_2 rfl (lv_at hl 0 rfl) ?_
  refine lv_iconst (v := 5) hx hb d_Ref_encode_3 (by decide) ?_
  refine lv_icmp_ge (tgt := 20) hx hb d_Ref_encode_4 (by decide) (fun c_1 => absurd c_1 (by decide)) (fun c_1 => ?_)
  refine tp_pc (pc' := 7) (by rfl) ?_
  refine lv_aload_n hx hb d_Ref_encode_7 rfl (lv_at hl 1 rfl) ?_
  refine va_get (D := (dC, dI)) (ci := 8) (v := .ref h20) (C := R_Ref) (T := F_Ref) (N := 48) hx hb hw i_Ref hown hK hP 0 rfl rfl 25 (by decide) (hw _ m_924) (fun _ h9 => h9) rfl d_Ref_encode_8 ?_
  refine lv_iload_n hx hb d_Ref_encode_11 rfl (lv_at hl 0 rfl) ?_
  refine lv_lconst (v := 0) hx hb d_Ref_encode_12 (by decide) ?_
  refine va_last (D := (dC, dI)) hx hb hK hP (dd_D hD rfl) hS 2 1 rfl rfl (i := 0) (x := 0) (vp_c (by decide)) d_Ref_encode_13 ?_
  clear hP hS
  intro H locs (hP : va_P (dC, dI) classes [oc h0 8 [.int p0, .int p1, .ref h1, .ref h2, .ref h3, .ref h4, .ref h5, .ref h6, .ref h7, .ref h8, .ref h9, .ref h10, .ref h11, .ref h12, .int p2, .ref h13, .ref h14, .ref h15, .ref h16, .int 2, .int p4, .ref h17, .ref h18, .ref h19, .int p5, .ref h20, .int p6, .int p7, .ref h21, .ref h22, .ref h23, .ref h24, .ref h25, .ref h26, .ref h27, .ref h28, .int p8, .int p9, .ref h29, .ref h30, .ref h31, .ref h32, .ref h33, .ref h34, .ref h35, .ref h36, .int p10, .ref h37], ia h14 k13 155 (fun _ => 0), la h20 k19 5 (vp_updL f19 0 0)] H) _ hS
  refine tp_pc (pc' := 14) (by rfl) ?_
  refine lv_iinc (v := 1) (lv' := [(1, .int 1), (0, .ref h0)]) hx hb d_Ref_encode_14 hl (k := 0) rfl (by first | rfl | decide) (by decide) rfl ?_
  clear hl ls
  intro ls hl
  refine lv_goto (tgt := 2) hx hb d_Ref_encode_17 (by decide) ?_
  refine tp_pc (pc' := 2) (by rfl) ?_
  refine lv_iload_n hx hb d_Ref_encode_2 rfl (lv_at hl 0 rfl) ?_
  refine lv_iconst (v := 5) hx hb d_Ref_encode_3 (by decide) ?_
  refine lv_icmp_ge (tgt := 20) hx hb d_Ref_encode_4 (by decide) (fun c_2 => absurd c_2 (by decide)) (fun c_2 => ?_)
  refine tp_pc (pc' := 7) (by rfl) ?_
  refine lv_aload_n hx hb d_Ref_encode_7 rfl (lv_at hl 1 rfl) ?_
  refine va_get (D := (dC, dI)) (ci := 8) (v := .ref h20) (C := R_Ref) (T := F_Ref) (N := 48) hx hb hw i_Ref hown hK hP 0 rfl rfl 25 (by decide) (hw _ m_924) (fun _ h9 => h9) rfl d_Ref_encode_8 ?_
  refine lv_iload_n hx hb d_Ref_encode_11 rfl (lv_at hl 0 rfl) ?_
  refine lv_lconst (v := 0) hx hb d_Ref_encode_12 (by decide) ?_
  refine va_last (D := (dC, dI)) hx hb hK hP (dd_D hD rfl) hS 2 1 rfl rfl (i := 1) (x := 0) (vp_c (by decide)) d_Ref_encode_13 ?_
  clear hP hS locs H
  intro H locs (hP : va_P (dC, dI) classes [oc h0 8 [.int p0, .int p1, .ref h1, .ref h2, .ref h3, .ref h4, .ref h5, .ref h6, .ref h7, .ref h8, .ref h9, .ref h10, .ref h11, .ref h12, .int p2, .ref h13, .ref h14, .ref h15, .ref h16, .int 2, .int p4, .ref h17, .ref h18, .ref h19, .int p5, .ref h20, .int p6, .int p7, .ref h21, .ref h22, .ref h23, .ref h24, .ref h25, .ref h26, .ref h27, .ref h28, .int p8, .int p9, .ref h29, .ref h30, .ref h31, .ref h32, .ref h33, .ref h34, .ref h35, .ref h36, .int p10, .ref h37], ia h14 k13 155 (fun _ => 0), la h20 k19 5 (vp_updL (vp_updL f19 0 0) 1 0)] H) _ hS
  refine tp_pc (pc' := 14) (by rfl) ?_
  refine lv_iinc (v := 2) (lv' := [(1, .int 2), (0, .ref h0)]) hx hb d_Ref_encode_14 hl (k := 0) rfl (by first | rfl | decide) (by decide) rfl ?_
  clear hl ls
  intro ls hl
  refine lv_goto (tgt := 2) hx hb d_Ref_encode_17 (by decide) ?_
  refine tp_pc (pc' := 2) (by rfl) ?_
  refine lv_iload_n hx hb d_Ref_encode_2 rfl (lv_at hl 0 rfl) ?_
  refine lv_iconst (v := 5) hx hb d_Ref_encode_3 (by decide) ?_
  refine lv_icmp_ge (tgt := 20) hx hb d_Ref_encode_4 (by decide) (fun c_3 => absurd c_3 (by decide)) (fun c_3 => ?_)
  refine tp_pc (pc' := 7) (by rfl) ?_
  refine lv_aload_n hx hb d_Ref_encode_7 rfl (lv_at hl 1 rfl) ?_
  refine va_get (D := (dC, dI)) (ci := 8) (v := .ref h20) (C := R_Ref) (T := F_Ref) (N := 48) hx hb hw i_Ref hown hK hP 0 rfl rfl 25 (by decide) (hw _ m_924) (fun _ h9 => h9) rfl d_Ref_encode_8 ?_
  refine lv_iload_n hx hb d_Ref_encode_11 rfl (lv_at hl 0 rfl) ?_
  refine lv_lconst (v := 0) hx hb d_Ref_encode_12 (by decide) ?_
  refine va_last (D := (dC, dI)) hx hb hK hP (dd_D hD rfl) hS 2 1 rfl rfl (i := 2) (x := 0) (vp_c (by decide)) d_Ref_encode_13 ?_
  clear hP hS locs H
  intro H locs (hP : va_P (dC, dI) classes [oc h0 8 [.int p0, .int p1, .ref h1, .ref h2, .ref h3, .ref h4, .ref h5, .ref h6, .ref h7, .ref h8, .ref h9, .ref h10, .ref h11, .ref h12, .int p2, .ref h13, .ref h14, .ref h15, .ref h16, .int 2, .int p4, .ref h17, .ref h18, .ref h19, .int p5, .ref h20, .int p6, .int p7, .ref h21, .ref h22, .ref h23, .ref h24, .ref h25, .ref h26, .ref h27, .ref h28, .int p8, .int p9, .ref h29, .ref h30, .ref h31, .ref h32, .ref h33, .ref h34, .ref h35, .ref h36, .int p10, .ref h37], ia h14 k13 155 (fun _ => 0), la h20 k19 5 (vp_updL (vp_updL (vp_updL f19 0 0) 1 0) 2 0)] H) _ hS
  refine tp_pc (pc' := 14) (by rfl) ?_
  refine lv_iinc (v := 3) (lv' := [(1, .int 3), (0, .ref h0)]) hx hb d_Ref_encode_14 hl (k := 0) rfl (by first | rfl | decide) (by decide) rfl ?_
  clear hl ls
  intro ls hl
  refine lv_goto (tgt := 2) hx hb d_Ref_encode_17 (by decide) ?_
  refine tp_pc (pc' := 2) (by rfl) ?_
  refine lv_iload_n hx hb d_Ref_encode_2 rfl (lv_at hl 0 rfl) ?_
  refine lv_iconst (v := 5) hx hb d_Ref_encode_3 (by decide) ?_
  refine lv_icmp_ge (tgt := 20) hx hb d_Ref_encode_4 (by decide) (fun c_4 => absurd c_4 (by decide)) (fun c_4 => ?_)
  refine tp_pc (pc' := 7) (by rfl) ?_
  refine lv_aload_n hx hb d_Ref_encode_7 rfl (lv_at hl 1 rfl) ?_
  refine va_get (D := (dC, dI)) (ci := 8) (v := .ref h20) (C := R_Ref) (T := F_Ref) (N := 48) hx hb hw i_Ref hown hK hP 0 rfl rfl 25 (by decide) (hw _ m_924) (fun _ h9 => h9) rfl d_Ref_encode_8 ?_
  refine lv_iload_n hx hb d_Ref_encode_11 rfl (lv_at hl 0 rfl) ?_
  refine lv_lconst (v := 0) hx hb d_Ref_encode_12 (by decide) ?_
  refine va_last (D := (dC, dI)) hx hb hK hP (dd_D hD rfl) hS 2 1 rfl rfl (i := 3) (x := 0) (vp_c (by decide)) d_Ref_encode_13 ?_
  clear hP hS locs H
  intro H locs (hP : va_P (dC, dI) classes [oc h0 8 [.int p0, .int p1, .ref h1, .ref h2, .ref h3, .ref h4, .ref h5, .ref h6, .ref h7, .ref h8, .ref h9, .ref h10, .ref h11, .ref h12, .int p2, .ref h13, .ref h14, .ref h15, .ref h16, .int 2, .int p4, .ref h17, .ref h18, .ref h19, .int p5, .ref h20, .int p6, .int p7, .ref h21, .ref h22, .ref h23, .ref h24, .ref h25, .ref h26, .ref h27, .ref h28, .int p8, .int p9, .ref h29, .ref h30, .ref h31, .ref h32, .ref h33, .ref h34, .ref h35, .ref h36, .int p10, .ref h37], ia h14 k13 155 (fun _ => 0), la h20 k19 5 (vp_updL (vp_updL (vp_updL (vp_updL f19 0 0) 1 0) 2 0) 3 0)] H) _ hS
  refine tp_pc (pc' := 14) (by rfl) ?_
  refine lv_iinc (v := 4) (lv' := [(1, .int 4), (0, .ref h0)]) hx hb d_Ref_encode_14 hl (k := 0) rfl (by first | rfl | decide) (by decide) rfl ?_
  clear hl ls
  intro ls hl
  refine lv_goto (tgt := 2) hx hb d_Ref_encode_17 (by decide) ?_
  refine tp_pc (pc' := 2) (by rfl) ?_
  refine lv_iload_n hx hb d_Ref_encode_2 rfl (lv_at hl 0 rfl) ?_
  refine lv_iconst (v := 5) hx hb d_Ref_encode_3 (by decide) ?_
  refine lv_icmp_ge (tgt := 20) hx hb d_Ref_encode_4 (by decide) (fun c_5 => absurd c_5 (by decide)) (fun c_5 => ?_)
  refine tp_pc (pc' := 7) (by rfl) ?_
  refine lv_aload_n hx hb d_Ref_encode_7 rfl (lv_at hl 1 rfl) ?_
  refine va_get (D := (dC, dI)) (ci := 8) (v := .ref h20) (C := R_Ref) (T := F_Ref) (N := 48) hx hb hw i_Ref hown hK hP 0 rfl rfl 25 (by decide) (hw _ m_924) (fun _ h9 => h9) rfl d_Ref_encode_8 ?_
  refine lv_iload_n hx hb d_Ref_encode_11 rfl (lv_at hl 0 rfl) ?_
  refine lv_lconst (v := 0) hx hb d_Ref_encode_12 (by decide) ?_
  refine va_last (D := (dC, dI)) hx hb hK hP (dd_D hD rfl) hS 2 1 rfl rfl (i := 4) (x := 0) (vp_c (by decide)) d_Ref_encode_13 ?_
  clear hP hS locs H
  intro H locs (hP : va_P (dC, dI) classes [oc h0 8 [.int p0, .int p1, .ref h1, .ref h2, .ref h3, .ref h4, .ref h5, .ref h6, .ref h7, .ref h8, .ref h9, .ref h10, .ref h11, .ref h12, .int p2, .ref h13, .ref h14, .ref h15, .ref h16, .int 2, .int p4, .ref h17, .ref h18, .ref h19, .int p5, .ref h20, .int p6, .int p7, .ref h21, .ref h22, .ref h23, .ref h24, .ref h25, .ref h26, .ref h27, .ref h28, .int p8, .int p9, .ref h29, .ref h30, .ref h31, .ref h32, .ref h33, .ref h34, .ref h35, .ref h36, .int p10, .ref h37], ia h14 k13 155 (fun _ => 0), la h20 k19 5 (vp_updL (vp_updL (vp_updL (vp_updL (vp_updL f19 0 0) 1 0) 2 0) 3 0) 4 0)] H) _ hS
  refine tp_pc (pc' := 14) (by rfl) ?_
  refine lv_iinc (v := 5) (lv' := [(1, .int 5), (0, .ref h0)]) hx hb d_Ref_encode_14 hl (k := 0) rfl (by first | rfl | decide) (by decide) rfl ?_
  clear hl ls
  intro ls hl
  refine lv_goto (tgt := 2) hx hb d_Ref_encode_17 (by decide) ?_
  refine tp_pc (pc' := 2) (by rfl) ?_
  refine lv_iload_n hx hb d_Ref_encode_2 rfl (lv_at hl 0 rfl) ?_
  refine lv_iconst (v := 5) hx hb d_Ref_encode_3 (by decide) ?_
  refine lv_icmp_ge (tgt := 20) hx hb d_Ref_encode_4 (by decide) (fun c_6 => ?_) (fun c_6 => absurd c_6 (by decide))
  refine tp_pc (pc' := 20) (by rfl) ?_
  refine lv_aload_n hx hb d_Ref_encode_20 rfl (lv_at hl 1 rfl) ?_
  refine lv_iconst (v := 0) hx hb d_Ref_encode_21 (by decide) ?_
  refine va_put (D := (dC, dI)) (ci := 8) (v := .int 0) (ty := .int) (C := R_Ref) (T := F_Ref) (N := 48) hx hb hw i_Ref t_Ref t_Ref_ok n_Ref hown hK hP (dd_D hD rfl) hS 0 rfl rfl 26 (by decide) (hw _ m_925) (fun _ h9 => h9) rfl (by decide +kernel) rfl rfl (Nat.le_of_ble_eq_true rfl) d_Ref_encode_22 ?_
  clear hP hS locs H
  intro H locs (hP : va_P (dC, dI) classes [oc h0 8 [.int p0, .int p1, .ref h1, .ref h2, .ref h3, .ref h4, .ref h5, .ref h6, .ref h7, .ref h8, .ref h9, .ref h10, .ref h11, .ref h12, .int p2, .ref h13, .ref h14, .ref h15, .ref h16, .int 2, .int p4, .ref h17, .ref h18, .ref h19, .int p5, .ref h20, .int 0, .int p7, .ref h21, .ref h22, .ref h23, .ref h24, .ref h25, .ref h26, .ref h27, .ref h28, .int p8, .int p9, .ref h29, .ref h30, .ref h31, .ref h32, .ref h33, .ref h34, .ref h35, .ref h36, .int p10, .ref h37], ia h14 k13 155 (fun _ => 0), la h20 k19 5 (vp_updL (vp_updL (vp_updL (vp_updL (vp_updL f19 0 0) 1 0) 2 0) 3 0) 4 0)] H) _ hS
  refine tp_pc (pc' := 25) (by rfl) ?_
  refine lv_iconst (v := 0) hx hb d_Ref_encode_25 (by decide) ?_
  refine lv_istore_n (lv' := [(1, .int 0), (0, .ref h0)]) hx hb d_Ref_encode_26 rfl hl (by decide) rfl ?_
  clear hl ls
  intro ls hl
  refine lv_iload_n hx hb d_Ref_encode_27 rfl (lv_at hl 0 rfl) ?_
  refine lv_iconst (v := 4) hx hb d_Ref_encode_28 (by decide) ?_
  refine lv_icmp_ge (tgt := 50) hx hb d_Ref_encode_29 (by decide) (fun c_7 => absurd c_7 (by decide)) (fun c_7 => ?_)
  refine tp_pc (pc' := 32) (by rfl) ?_
  refine lv_aload_n hx hb d_Ref_encode_32 rfl (lv_at hl 1 rfl) ?_
  refine lv_aload_n hx hb d_Ref_encode_33 rfl (lv_at hl 1 rfl) ?_
  refine va_get (D := (dC, dI)) (ci := 8) (v := .ref h14) (C := R_Ref) (T := F_Ref) (N := 48) hx hb hw i_Ref hown hK hP 0 rfl rfl 16 (by decide) (hw _ m_915) (fun _ h9 => h9) rfl d_Ref_encode_34 ?_
  refine lv_iload_n hx hb d_Ref_encode_37 rfl (lv_at hl 0 rfl) ?_
  refine va_iald (D := (dC, dI)) hx hb hK hP 1 0 rfl rfl (i := 0) (vp_c (by decide)) d_Ref_encode_38 ?_
  refine tp_i (y := 0) (by first | rfl | decide) ?_
  refine lv_i2l (v := 0) hx hb d_Ref_encode_39 (by decide) ?_
  refine lv_iconst (v := 3) hx hb d_Ref_encode_40 (by decide) ?_
  obtain ⟨hPc, hDc, hFc⟩ := cut3 (wc := [oc h0 8 [.int p0, .int p1, .ref h1, .ref h2, .ref h3, .ref h4, .ref h5, .ref h6, .ref h7, .ref h8, .ref h9, .ref h10, .ref h11, .ref h12, .int p2, .ref h13, .ref h14, .ref h15, .ref h16, .int 2, .int p4, .ref h17, .ref h18, .ref h19, .int p5, .ref h20, .int 0, .int p7, .ref h21, .ref h22, .ref h23, .ref h24, .ref h25, .ref h26, .ref h27, .ref h28, .int p8, .int p9, .ref h29, .ref h30, .ref h31, .ref h32, .ref h33, .ref h34, .ref h35, .ref h36, .int p10, .ref h37], la h20 k19 5 (vp_updL (vp_updL (vp_updL (vp_updL (vp_updL f19 0 0) 1 0) 2 0) 3 0) 4 0)]) hP hD rfl hS hA [0, 2] (by decide +kernel) rfl
  have hKc := hK.sub (tys' := [(k19, .long)]) [1] rfl
  refine va_callv (va_runV (As := [.long 0, .int 3]) (rest := []) ⟨hx, hb, hml, hown, hw⟩ (c_Ref_bits l dC dI h0 0 p0 p1 h1 h2 h3 h4 h5 h6 h7 h8 h9 h10 h11 h12 p2 h13 h14 h15 h16 2 p4 h17 h18 h19 p5 h20 p7 h21 h22 h23 h24 h25 h26 h27 h28 p8 p9 h29 h30 h31 h32 h33 h34 h35 h36 p10 h37 k19 (vp_updL (vp_updL (vp_updL (vp_updL (vp_updL f19 0 0) 1 0) 2 0) 3 0) 4 0) H.size) (cw_V 2 hw g_Ref_bits rfl rfl rfl (hw _ m_109) (hw _ m_1093) (hw _ m_1095) (hw _ m_58) (by decide +kernel) ⟨Nat.le_of_ble_eq_true rfl, Nat.le_of_ble_eq_true rfl⟩) ⟨fun a U g mk q => by obtain ⟨q0, q1, qP, qK, qD, qN⟩ := q; exact ⟨q0, q1, qP, va_K.moved (u := U) (U := U.calling g mk a) (Vm.Alike.refl U.vm) qK, qD, nw_call qN⟩, va_recv hKc hPc (ci := 8) (q0 := 0) rfl rfl, fun U hU hW => ⟨rfl, by rw [hU], by rw [hU]; exact hPc, va_K.moved hW.alike hKc, hDc.weaken (fun _ _ _ _ => trivial), nw_warm hW hn⟩⟩ rfl rfl hl.1 rfl (lv_room (Nat.le_of_ble_eq_true rfl)) d_Ref_encode_41 ⟨Nat.le_of_ble_eq_true rfl, Nat.le_of_ble_eq_true rfl⟩) hS (fun q _ h => hFc q h) hFc ?_
  intro u t H1 locs1 ht hvm hw1 hB hz1 hk1 hS1
  obtain ⟨hP1, hK1, hD1⟩ := hB
  rw [ht] at hP1
  replace hK1 := va_K.moved hvm.symm hK1
  have hPD := join3 hP hD rfl [0, 2] [1] rfl (by rfl) (by decide +kernel) (by decide +kernel) hk1 hFc hP1 hD1
  replace hK : va_K (dC, dI) classes [(k13, .int), (k19, .long)] s := hK.app hK1
  clear hP1 hK1 hD1 hk1 hz1 hFc hKc hDc hPc hvm ht hP hS t locs H
  have hP : va_P (dC, dI) classes [ia h14 k13 155 (fun _ => 0), oc h0 8 [.int p0, .int p1, .ref h1, .ref h2, .ref h3, .ref h4, .ref h5, .ref h6, .ref h7, .ref h8, .ref h9, .ref h10, .ref h11, .ref h12, .int p2, .ref h13, .ref h14, .ref h15, .ref h16, .int 2, .int p4, .ref h17, .ref h18, .ref h19, .int p5, .ref h20, .int 3, .int p7, .ref h21, .ref h22, .ref h23, .ref h24, .ref h25, .ref h26, .ref h27, .ref h28, .int p8, .int p9, .ref h29, .ref h30, .ref h31, .ref h32, .ref h33, .ref h34, .ref h35, .ref h36, .int p10, .ref h37], la h20 k19 5 (vp_updL (vp_updL (vp_updL (vp_updL (vp_updL (vp_updL f19 0 0) 1 0) 2 0) 3 0) 4 0) 0 ((0 : Int64) ||| ((0 : Int64) <<< (((0 : Int32) : Int32).toInt64 &&& 63))))] H1 := hPD.1
  rw [show (((0 : Int64) ||| ((0 : Int64) <<< (((0 : Int32) : Int32).toInt64 &&& 63)) : Int64)) = 0 from by decide] at hP
  replace hD : dd A [h14, h0, h20] := dd_of hPD.2 rfl
  clear hPD
  revert H1 locs1
  intro H locs hS hP
  clear hw1 u
  refine tp_pc (pc' := 44) (by rfl) ?_
  refine lv_iinc (v := 1) (lv' := [(1, .int 1), (0, .ref h0)]) hx hb d_Ref_encode_44 hl (k := 0) rfl (by first | rfl | decide) (by decide) rfl ?_
  clear hl ls
  intro ls hl
  refine lv_goto (tgt := 27) hx hb d_Ref_encode_47 (by decide) ?_
  refine tp_pc (pc' := 27) (by rfl) ?_
  refine lv_iload_n hx hb d_Ref_encode_27 rfl (lv_at hl 0 rfl) ?_
  refine lv_iconst (v := 4) hx hb d_Ref_encode_28 (by decide) ?_
  refine lv_icmp_ge (tgt := 50) hx hb d_Ref_encode_29 (by decide) (fun c_9 => absurd c_9 (by decide)) (fun c_9 => ?_)
  refine tp_pc (pc' := 32) (by rfl) ?_
  refine lv_aload_n hx hb d_Ref_encode_32 rfl (lv_at hl 1 rfl) ?_
  refine lv_aload_n hx hb d_Ref_encode_33 rfl (lv_at hl 1 rfl) ?_
  refine va_get (D := (dC, dI)) (ci := 8) (v := .ref h14) (C := R_Ref) (T := F_Ref) (N := 48) hx hb hw i_Ref hown hK hP 1 rfl rfl 16 (by decide) (hw _ m_915) (fun _ h9 => h9) rfl d_Ref_encode_34 ?_
  refine lv_iload_n hx hb d_Ref_encode_37 rfl (lv_at hl 0 rfl) ?_
  refine va_iald (D := (dC, dI)) hx hb hK hP 0 0 rfl rfl (i := 1) (vp_c (by decide)) d_Ref_encode_38 ?_
  refine tp_i (y := 0) (by first | rfl | decide) ?_
  refine lv_i2l (v := 0) hx hb d_Ref_encode_39 (by decide) ?_
  refine lv_iconst (v := 3) hx hb d_Ref_encode_40 (by decide) ?_
  obtain ⟨hPc, hDc, hFc⟩ := cut3 (wc := [oc h0 8 [.int p0, .int p1, .ref h1, .ref h2, .ref h3, .ref h4, .ref h5, .ref h6, .ref h7, .ref h8, .ref h9, .ref h10, .ref h11, .ref h12, .int p2, .ref h13, .ref h14, .ref h15, .ref h16, .int 2, .int p4, .ref h17, .ref h18, .ref h19, .int p5, .ref h20, .int 3, .int p7, .ref h21, .ref h22, .ref h23, .ref h24, .ref h25, .ref h26, .ref h27, .ref h28, .int p8, .int p9, .ref h29, .ref h30, .ref h31, .ref h32, .ref h33, .ref h34, .ref h35, .ref h36, .int p10, .ref h37], la h20 k19 5 (vp_updL (vp_updL (vp_updL (vp_updL (vp_updL (vp_updL f19 0 0) 1 0) 2 0) 3 0) 4 0) 0 0)]) hP hD rfl hS hA [1, 2] (by decide +kernel) rfl
  have hKc := hK.sub (tys' := [(k19, .long)]) [1] rfl
  refine va_callv (va_runV (As := [.long 0, .int 3]) (rest := []) ⟨hx, hb, hml, hown, hw⟩ (c_Ref_bits_v2 l dC dI h0 0 p0 p1 h1 h2 h3 h4 h5 h6 h7 h8 h9 h10 h11 h12 p2 h13 h14 h15 h16 2 p4 h17 h18 h19 p5 h20 p7 h21 h22 h23 h24 h25 h26 h27 h28 p8 p9 h29 h30 h31 h32 h33 h34 h35 h36 p10 h37 k19 (vp_updL (vp_updL (vp_updL (vp_updL (vp_updL (vp_updL f19 0 0) 1 0) 2 0) 3 0) 4 0) 0 0) H.size) (cw_V 2 hw g_Ref_bits rfl rfl rfl (hw _ m_109) (hw _ m_1093) (hw _ m_1095) (hw _ m_58) (by decide +kernel) ⟨Nat.le_of_ble_eq_true rfl, Nat.le_of_ble_eq_true rfl⟩) ⟨fun a U g mk q => by obtain ⟨q0, q1, qP, qK, qD, qN⟩ := q; exact ⟨q0, q1, qP, va_K.moved (u := U) (U := U.calling g mk a) (Vm.Alike.refl U.vm) qK, qD, nw_call qN⟩, va_recv hKc hPc (ci := 8) (q0 := 0) rfl rfl, fun U hU hW => ⟨rfl, by rw [hU], by rw [hU]; exact hPc, va_K.moved hW.alike hKc, hDc.weaken (fun _ _ _ _ => trivial), nw_warm hW hn⟩⟩ rfl rfl hl.1 rfl (lv_room (Nat.le_of_ble_eq_true rfl)) d_Ref_encode_41 ⟨Nat.le_of_ble_eq_true rfl, Nat.le_of_ble_eq_true rfl⟩) hS (fun q _ h => hFc q h) hFc ?_
  intro u t H1 locs1 ht hvm hw1 hB hz1 hk1 hS1
  obtain ⟨hP1, hK1, hD1⟩ := hB
  rw [ht] at hP1
  replace hK1 := va_K.moved hvm.symm hK1
  have hPD := join3 hP hD rfl [1, 2] [0] rfl (by rfl) (by decide +kernel) (by decide +kernel) hk1 hFc hP1 hD1
  replace hK : va_K (dC, dI) classes [(k13, .int), (k19, .long)] s := hK.app hK1
  clear hP1 hK1 hD1 hk1 hz1 hFc hKc hDc hPc hvm ht hP hS t locs H
  have hP : va_P (dC, dI) classes [ia h14 k13 155 (fun _ => 0), oc h0 8 [.int p0, .int p1, .ref h1, .ref h2, .ref h3, .ref h4, .ref h5, .ref h6, .ref h7, .ref h8, .ref h9, .ref h10, .ref h11, .ref h12, .int p2, .ref h13, .ref h14, .ref h15, .ref h16, .int 2, .int p4, .ref h17, .ref h18, .ref h19, .int p5, .ref h20, .int 6, .int p7, .ref h21, .ref h22, .ref h23, .ref h24, .ref h25, .ref h26, .ref h27, .ref h28, .int p8, .int p9, .ref h29, .ref h30, .ref h31, .ref h32, .ref h33, .ref h34, .ref h35, .ref h36, .int p10, .ref h37], la h20 k19 5 (vp_updL (vp_updL (vp_updL (vp_updL (vp_updL (vp_updL (vp_updL f19 0 0) 1 0) 2 0) 3 0) 4 0) 0 0) 0 ((0 : Int64) ||| ((0 : Int64) <<< (((3 : Int32) : Int32).toInt64 &&& 63))))] H1 := hPD.1
  rw [show (((0 : Int64) ||| ((0 : Int64) <<< (((3 : Int32) : Int32).toInt64 &&& 63)) : Int64)) = 0 from by decide] at hP
  replace hD : dd A [h14, h0, h20] := dd_of hPD.2 rfl
  clear hPD
  revert H1 locs1
  intro H locs hS hP
  clear hw1 u
  refine tp_pc (pc' := 44) (by rfl) ?_
  refine lv_iinc (v := 2) (lv' := [(1, .int 2), (0, .ref h0)]) hx hb d_Ref_encode_44 hl (k := 0) rfl (by first | rfl | decide) (by decide) rfl ?_
  clear hl ls
  intro ls hl
  refine lv_goto (tgt := 27) hx hb d_Ref_encode_47 (by decide) ?_
  refine tp_pc (pc' := 27) (by rfl) ?_
  refine lv_iload_n hx hb d_Ref_encode_27 rfl (lv_at hl 0 rfl) ?_
  refine lv_iconst (v := 4) hx hb d_Ref_encode_28 (by decide) ?_
  refine lv_icmp_ge (tgt := 50) hx hb d_Ref_encode_29 (by decide) (fun c_11 => absurd c_11 (by decide)) (fun c_11 => ?_)
  refine tp_pc (pc' := 32) (by rfl) ?_
  refine lv_aload_n hx hb d_Ref_encode_32 rfl (lv_at hl 1 rfl) ?_
  refine lv_aload_n hx hb d_Ref_encode_33 rfl (lv_at hl 1 rfl) ?_
  refine va_get (D := (dC, dI)) (ci := 8) (v := .ref h14) (C := R_Ref) (T := F_Ref) (N := 48) hx hb hw i_Ref hown hK hP 1 rfl rfl 16 (by decide) (hw _ m_915) (fun _ h9 => h9) rfl d_Ref_encode_34 ?_
  refine lv_iload_n hx hb d_Ref_encode_37 rfl (lv_at hl 0 rfl) ?_
  refine va_iald (D := (dC, dI)) hx hb hK hP 0 0 rfl rfl (i := 2) (vp_c (by decide)) d_Ref_encode_38 ?_
  refine tp_i (y := 0) (by first | rfl | decide) ?_
  refine lv_i2l (v := 0) hx hb d_Ref_encode_39 (by decide) ?_
  refine lv_iconst (v := 3) hx hb d_Ref_encode_40 (by decide) ?_
  obtain ⟨hPc, hDc, hFc⟩ := cut3 (wc := [oc h0 8 [.int p0, .int p1, .ref h1, .ref h2, .ref h3, .ref h4, .ref h5, .ref h6, .ref h7, .ref h8, .ref h9, .ref h10, .ref h11, .ref h12, .int p2, .ref h13, .ref h14, .ref h15, .ref h16, .int 2, .int p4, .ref h17, .ref h18, .ref h19, .int p5, .ref h20, .int 6, .int p7, .ref h21, .ref h22, .ref h23, .ref h24, .ref h25, .ref h26, .ref h27, .ref h28, .int p8, .int p9, .ref h29, .ref h30, .ref h31, .ref h32, .ref h33, .ref h34, .ref h35, .ref h36, .int p10, .ref h37], la h20 k19 5 (vp_updL (vp_updL (vp_updL (vp_updL (vp_updL (vp_updL (vp_updL f19 0 0) 1 0) 2 0) 3 0) 4 0) 0 0) 0 0)]) hP hD rfl hS hA [1, 2] (by decide +kernel) rfl
  have hKc := hK.sub (tys' := [(k19, .long)]) [1] rfl
  refine va_callv (va_runV (As := [.long 0, .int 3]) (rest := []) ⟨hx, hb, hml, hown, hw⟩ (c_Ref_bits_v3 l dC dI h0 0 p0 p1 h1 h2 h3 h4 h5 h6 h7 h8 h9 h10 h11 h12 p2 h13 h14 h15 h16 2 p4 h17 h18 h19 p5 h20 p7 h21 h22 h23 h24 h25 h26 h27 h28 p8 p9 h29 h30 h31 h32 h33 h34 h35 h36 p10 h37 k19 (vp_updL (vp_updL (vp_updL (vp_updL (vp_updL (vp_updL (vp_updL f19 0 0) 1 0) 2 0) 3 0) 4 0) 0 0) 0 0) H.size) (cw_V 2 hw g_Ref_bits rfl rfl rfl (hw _ m_109) (hw _ m_1093) (hw _ m_1095) (hw _ m_58) (by decide +kernel) ⟨Nat.le_of_ble_eq_true rfl, Nat.le_of_ble_eq_true rfl⟩) ⟨fun a U g mk q => by obtain ⟨q0, q1, qP, qK, qD, qN⟩ := q; exact ⟨q0, q1, qP, va_K.moved (u := U) (U := U.calling g mk a) (Vm.Alike.refl U.vm) qK, qD, nw_call qN⟩, va_recv hKc hPc (ci := 8) (q0 := 0) rfl rfl, fun U hU hW => ⟨rfl, by rw [hU], by rw [hU]; exact hPc, va_K.moved hW.alike hKc, hDc.weaken (fun _ _ _ _ => trivial), nw_warm hW hn⟩⟩ rfl rfl hl.1 rfl (lv_room (Nat.le_of_ble_eq_true rfl)) d_Ref_encode_41 ⟨Nat.le_of_ble_eq_true rfl, Nat.le_of_ble_eq_true rfl⟩) hS (fun q _ h => hFc q h) hFc ?_
  intro u t H1 locs1 ht hvm hw1 hB hz1 hk1 hS1
  obtain ⟨hP1, hK1, hD1⟩ := hB
  rw [ht] at hP1
  replace hK1 := va_K.moved hvm.symm hK1
  have hPD := join3 hP hD rfl [1, 2] [0] rfl (by rfl) (by decide +kernel) (by decide +kernel) hk1 hFc hP1 hD1
  replace hK : va_K (dC, dI) classes [(k13, .int), (k19, .long)] s := hK.app hK1
  clear hP1 hK1 hD1 hk1 hz1 hFc hKc hDc hPc hvm ht hP hS t locs H
  have hP : va_P (dC, dI) classes [ia h14 k13 155 (fun _ => 0), oc h0 8 [.int p0, .int p1, .ref h1, .ref h2, .ref h3, .ref h4, .ref h5, .ref h6, .ref h7, .ref h8, .ref h9, .ref h10, .ref h11, .ref h12, .int p2, .ref h13, .ref h14, .ref h15, .ref h16, .int 2, .int p4, .ref h17, .ref h18, .ref h19, .int p5, .ref h20, .int 9, .int p7, .ref h21, .ref h22, .ref h23, .ref h24, .ref h25, .ref h26, .ref h27, .ref h28, .int p8, .int p9, .ref h29, .ref h30, .ref h31, .ref h32, .ref h33, .ref h34, .ref h35, .ref h36, .int p10, .ref h37], la h20 k19 5 (vp_updL (vp_updL (vp_updL (vp_updL (vp_updL (vp_updL (vp_updL (vp_updL f19 0 0) 1 0) 2 0) 3 0) 4 0) 0 0) 0 0) 0 ((0 : Int64) ||| ((0 : Int64) <<< (((6 : Int32) : Int32).toInt64 &&& 63))))] H1 := hPD.1
  rw [show (((0 : Int64) ||| ((0 : Int64) <<< (((6 : Int32) : Int32).toInt64 &&& 63)) : Int64)) = 0 from by decide] at hP
  replace hD : dd A [h14, h0, h20] := dd_of hPD.2 rfl
  clear hPD
  revert H1 locs1
  intro H locs hS hP
  clear hw1 u
  refine tp_pc (pc' := 44) (by rfl) ?_
  refine lv_iinc (v := 3) (lv' := [(1, .int 3), (0, .ref h0)]) hx hb d_Ref_encode_44 hl (k := 0) rfl (by first | rfl | decide) (by decide) rfl ?_
  clear hl ls
  intro ls hl
  refine lv_goto (tgt := 27) hx hb d_Ref_encode_47 (by decide) ?_
  refine tp_pc (pc' := 27) (by rfl) ?_
  refine lv_iload_n hx hb d_Ref_encode_27 rfl (lv_at hl 0 rfl) ?_
  refine lv_iconst (v := 4) hx hb d_Ref_encode_28 (by decide) ?_
  refine lv_icmp_ge (tgt := 50) hx hb d_Ref_encode_29 (by decide) (fun c_13 => absurd c_13 (by decide)) (fun c_13 => ?_)
  refine tp_pc (pc' := 32) (by rfl) ?_
  refine lv_aload_n hx hb d_Ref_encode_32 rfl (lv_at hl 1 rfl) ?_
  refine lv_aload_n hx hb d_Ref_encode_33 rfl (lv_at hl 1 rfl) ?_
  refine va_get (D := (dC, dI)) (ci := 8) (v := .ref h14) (C := R_Ref) (T := F_Ref) (N := 48) hx hb hw i_Ref hown hK hP 1 rfl rfl 16 (by decide) (hw _ m_915) (fun _ h9 => h9) rfl d_Ref_encode_34 ?_
  refine lv_iload_n hx hb d_Ref_encode_37 rfl (lv_at hl 0 rfl) ?_
  refine va_iald (D := (dC, dI)) hx hb hK hP 0 0 rfl rfl (i := 3) (vp_c (by decide)) d_Ref_encode_38 ?_
  refine tp_i (y := 0) (by first | rfl | decide) ?_
  refine lv_i2l (v := 0) hx hb d_Ref_encode_39 (by decide) ?_
  refine lv_iconst (v := 3) hx hb d_Ref_encode_40 (by decide) ?_
  obtain ⟨hPc, hDc, hFc⟩ := cut3 (wc := [oc h0 8 [.int p0, .int p1, .ref h1, .ref h2, .ref h3, .ref h4, .ref h5, .ref h6, .ref h7, .ref h8, .ref h9, .ref h10, .ref h11, .ref h12, .int p2, .ref h13, .ref h14, .ref h15, .ref h16, .int 2, .int p4, .ref h17, .ref h18, .ref h19, .int p5, .ref h20, .int 9, .int p7, .ref h21, .ref h22, .ref h23, .ref h24, .ref h25, .ref h26, .ref h27, .ref h28, .int p8, .int p9, .ref h29, .ref h30, .ref h31, .ref h32, .ref h33, .ref h34, .ref h35, .ref h36, .int p10, .ref h37], la h20 k19 5 (vp_updL (vp_updL (vp_updL (vp_updL (vp_updL (vp_updL (vp_updL (vp_updL f19 0 0) 1 0) 2 0) 3 0) 4 0) 0 0) 0 0) 0 0)]) hP hD rfl hS hA [1, 2] (by decide +kernel) rfl
  have hKc := hK.sub (tys' := [(k19, .long)]) [1] rfl
  refine va_callv (va_runV (As := [.long 0, .int 3]) (rest := []) ⟨hx, hb, hml, hown, hw⟩ (c_Ref_bits_v4 l dC dI h0 0 p0 p1 h1 h2 h3 h4 h5 h6 h7 h8 h9 h10 h11 h12 p2 h13 h14 h15 h16 2 p4 h17 h18 h19 p5 h20 p7 h21 h22 h23 h24 h25 h26 h27 h28 p8 p9 h29 h30 h31 h32 h33 h34 h35 h36 p10 h37 k19 (vp_updL (vp_updL (vp_updL (vp_updL (vp_updL (vp_updL (vp_updL (vp_updL f19 0 0) 1 0) 2 0) 3 0) 4 0) 0 0) 0 0) 0 0) H.size) (cw_V 2 hw g_Ref_bits rfl rfl rfl (hw _ m_109) (hw _ m_1093) (hw _ m_1095) (hw _ m_58) (by decide +kernel) ⟨Nat.le_of_ble_eq_true rfl, Nat.le_of_ble_eq_true rfl⟩) ⟨fun a U g mk q => by obtain ⟨q0, q1, qP, qK, qD, qN⟩ := q; exact ⟨q0, q1, qP, va_K.moved (u := U) (U := U.calling g mk a) (Vm.Alike.refl U.vm) qK, qD, nw_call qN⟩, va_recv hKc hPc (ci := 8) (q0 := 0) rfl rfl, fun U hU hW => ⟨rfl, by rw [hU], by rw [hU]; exact hPc, va_K.moved hW.alike hKc, hDc.weaken (fun _ _ _ _ => trivial), nw_warm hW hn⟩⟩ rfl rfl hl.1 rfl (lv_room (Nat.le_of_ble_eq_true rfl)) d_Ref_encode_41 ⟨Nat.le_of_ble_eq_true rfl, Nat.le_of_ble_eq_true rfl⟩) hS (fun q _ h => hFc q h) hFc ?_
  intro u t H1 locs1 ht hvm hw1 hB hz1 hk1 hS1
  obtain ⟨hP1, hK1, hD1⟩ := hB
  rw [ht] at hP1
  replace hK1 := va_K.moved hvm.symm hK1
  have hPD := join3 hP hD rfl [1, 2] [0] rfl (by rfl) (by decide +kernel) (by decide +kernel) hk1 hFc hP1 hD1
  replace hK : va_K (dC, dI) classes [(k13, .int), (k19, .long)] s := hK.app hK1
  clear hP1 hK1 hD1 hk1 hz1 hFc hKc hDc hPc hvm ht hP hS t locs H
  have hP : va_P (dC, dI) classes [ia h14 k13 155 (fun _ => 0), oc h0 8 [.int p0, .int p1, .ref h1, .ref h2, .ref h3, .ref h4, .ref h5, .ref h6, .ref h7, .ref h8, .ref h9, .ref h10, .ref h11, .ref h12, .int p2, .ref h13, .ref h14, .ref h15, .ref h16, .int 2, .int p4, .ref h17, .ref h18, .ref h19, .int p5, .ref h20, .int 12, .int p7, .ref h21, .ref h22, .ref h23, .ref h24, .ref h25, .ref h26, .ref h27, .ref h28, .int p8, .int p9, .ref h29, .ref h30, .ref h31, .ref h32, .ref h33, .ref h34, .ref h35, .ref h36, .int p10, .ref h37], la h20 k19 5 (vp_updL (vp_updL (vp_updL (vp_updL (vp_updL (vp_updL (vp_updL (vp_updL (vp_updL f19 0 0) 1 0) 2 0) 3 0) 4 0) 0 0) 0 0) 0 0) 0 ((0 : Int64) ||| ((0 : Int64) <<< (((9 : Int32) : Int32).toInt64 &&& 63))))] H1 := hPD.1
  rw [show (((0 : Int64) ||| ((0 : Int64) <<< (((9 : Int32) : Int32).toInt64 &&& 63)) : Int64)) = 0 from by decide] at hP
  replace hD : dd A [h14, h0, h20] := dd_of hPD.2 rfl
  clear hPD
  revert H1 locs1
  intro H locs hS hP
  clear hw1 u
  refine tp_pc (pc' := 44) (by rfl) ?_
  refine lv_iinc (v := 4) (lv' := [(1, .int 4), (0, .ref h0)]) hx hb d_Ref_encode_44 hl (k := 0) rfl (by first | rfl | decide) (by decide) rfl ?_
  clear hl ls
  intro ls hl
  refine lv_goto (tgt := 27) hx hb d_Ref_encode_47 (by decide) ?_
  refine tp_pc (pc' := 27) (by rfl) ?_
  refine lv_iload_n hx hb d_Ref_encode_27 rfl (lv_at hl 0 rfl) ?_
  refine lv_iconst (v := 4) hx hb d_Ref_encode_28 (by decide) ?_
  refine lv_icmp_ge (tgt := 50) hx hb d_Ref_encode_29 (by decide) (fun c_15 => ?_) (fun c_15 => absurd c_15 (by decide))
  refine tp_pc (pc' := 50) (by rfl) ?_
  refine lv_iconst (v := 0) hx hb d_Ref_encode_50 (by decide) ?_
  refine lv_istore_n (lv' := [(1, .int 0), (0, .ref h0)]) hx hb d_Ref_encode_51 rfl hl (by decide) rfl ?_
  clear hl ls
  intro ls hl
  refine lv_iload_n hx hb d_Ref_encode_52 rfl (lv_at hl 0 rfl) ?_
  refine lv_bipush (v := 8) hx hb d_Ref_encode_53 (by decide) ?_
  refine lv_icmp_ge (tgt := 82) hx hb d_Ref_encode_55 (by decide) (fun c_16 => absurd c_16 (by decide)) (fun c_16 => ?_)
  refine tp_pc (pc' := 58) (by rfl) ?_
  refine lv_aload_n hx hb d_Ref_encode_58 rfl (lv_at hl 1 rfl) ?_
  refine lv_aload_n hx hb d_Ref_encode_59 rfl (lv_at hl 1 rfl) ?_
  refine va_get (D := (dC, dI)) (ci := 8) (v := .ref h14) (C := R_Ref) (T := F_Ref) (N := 48) hx hb hw i_Ref hown hK hP 1 rfl rfl 16 (by decide) (hw _ m_915) (fun _ h9 => h9) rfl d_Ref_encode_60 ?_
  refine lv_iconst (v := 4) hx hb d_Ref_encode_63 (by decide) ?_
  refine lv_iload_n hx hb d_Ref_encode_64 rfl (lv_at hl 0 rfl) ?_
  refine lv_iadd hx hb d_Ref_encode_65 ?_
  refine tp_i (y := 4) (by first | rfl | decide) ?_
  refine va_iald (D := (dC, dI)) hx hb hK hP 0 0 rfl rfl (i := 4) (vp_c (by decide)) d_Ref_encode_66 ?_
  refine tp_i (y := 0) (by first | rfl | decide) ?_
  refine lv_bipush (v := 64) hx hb d_Ref_encode_67 (by decide) ?_
  refine lv_iadd hx hb d_Ref_encode_69 ?_
  refine tp_i (y := 64) (by first | rfl | decide) ?_
  refine lv_i2l (v := 64) hx hb d_Ref_encode_70 (by decide) ?_
  refine lv_bipush (v := 7) hx hb d_Ref_encode_71 (by decide) ?_
  obtain ⟨hPc, hDc, hFc⟩ := cut3 (wc := [oc h0 8 [.int p0, .int p1, .ref h1, .ref h2, .ref h3, .ref h4, .ref h5, .ref h6, .ref h7, .ref h8, .ref h9, .ref h10, .ref h11, .ref h12, .int p2, .ref h13, .ref h14, .ref h15, .ref h16, .int 2, .int p4, .ref h17, .ref h18, .ref h19, .int p5, .ref h20, .int 12, .int p7, .ref h21, .ref h22, .ref h23, .ref h24, .ref h25, .ref h26, .ref h27, .ref h28, .int p8, .int p9, .ref h29, .ref h30, .ref h31, .ref h32, .ref h33, .ref h34, .ref h35, .ref h36, .int p10, .ref h37], la h20 k19 5 (vp_updL (vp_updL (vp_updL (vp_updL (vp_updL (vp_updL (vp_updL (vp_updL (vp_updL f19 0 0) 1 0) 2 0) 3 0) 4 0) 0 0) 0 0) 0 0) 0 0)]) hP hD rfl hS hA [1, 2] (by decide +kernel) rfl
  have hKc := hK.sub (tys' := [(k19, .long)]) [1] rfl
  refine va_callv (va_runV (As := [.long 64, .int 7]) (rest := []) ⟨hx, hb, hml, hown, hw⟩ (c_Ref_bits_v5 l dC dI h0 64 p0 p1 h1 h2 h3 h4 h5 h6 h7 h8 h9 h10 h11 h12 p2 h13 h14 h15 h16 2 p4 h17 h18 h19 p5 h20 p7 h21 h22 h23 h24 h25 h26 h27 h28 p8 p9 h29 h30 h31 h32 h33 h34 h35 h36 p10 h37 k19 (vp_updL (vp_updL (vp_updL (vp_updL (vp_updL (vp_updL (vp_updL (vp_updL (vp_updL f19 0 0) 1 0) 2 0) 3 0) 4 0) 0 0) 0 0) 0 0) 0 0) H.size) (cw_V 2 hw g_Ref_bits rfl rfl rfl (hw _ m_109) (hw _ m_1093) (hw _ m_1095) (hw _ m_58) (by decide +kernel) ⟨Nat.le_of_ble_eq_true rfl, Nat.le_of_ble_eq_true rfl⟩) ⟨fun a U g mk q => by obtain ⟨q0, q1, qP, qK, qD, qN⟩ := q; exact ⟨q0, q1, qP, va_K.moved (u := U) (U := U.calling g mk a) (Vm.Alike.refl U.vm) qK, qD, nw_call qN⟩, va_recv hKc hPc (ci := 8) (q0 := 0) rfl rfl, fun U hU hW => ⟨rfl, by rw [hU], by rw [hU]; exact hPc, va_K.moved hW.alike hKc, hDc.weaken (fun _ _ _ _ => trivial), nw_warm hW hn⟩⟩ rfl rfl hl.1 rfl (lv_room (Nat.le_of_ble_eq_true rfl)) d_Ref_encode_73 ⟨Nat.le_of_ble_eq_true rfl, Nat.le_of_ble_eq_true rfl⟩) hS (fun q _ h => hFc q h) hFc ?_
  intro u t H1 locs1 ht hvm hw1 hB hz1 hk1 hS1
  obtain ⟨hP1, hK1, hD1⟩ := hB
  rw [ht] at hP1
  replace hK1 := va_K.moved hvm.symm hK1
  have hPD := join3 hP hD rfl [1, 2] [0] rfl (by rfl) (by decide +kernel) (by decide +kernel) hk1 hFc hP1 hD1
  replace hK : va_K (dC, dI) classes [(k13, .int), (k19, .long)] s := hK.app hK1
  clear hP1 hK1 hD1 hk1 hz1 hFc hKc hDc hPc hvm ht hP hS t locs H
  have hP : va_P (dC, dI) classes [ia h14 k13 155 (fun _ => 0), oc h0 8 [.int p0, .int p1, .ref h1, .ref h2, .ref h3, .ref h4, .ref h5, .ref h6, .ref h7, .ref h8, .ref h9, .ref h10, .ref h11, .ref h12, .int p2, .ref h13, .ref h14, .ref h15, .ref h16, .int 2, .int p4, .ref h17, .ref h18, .ref h19, .int p5, .ref h20, .int 19, .int p7, .ref h21, .ref h22, .ref h23, .ref h24, .ref h25, .ref h26, .ref h27, .ref h28, .int p8, .int p9, .ref h29, .ref h30, .ref h31, .ref h32, .ref h33, .ref h34, .ref h35, .ref h36, .int p10, .ref h37], la h20 k19 5 (vp_updL (vp_updL (vp_updL (vp_updL (vp_updL (vp_updL (vp_updL (vp_updL (vp_updL (vp_updL f19 0 0) 1 0) 2 0) 3 0) 4 0) 0 0) 0 0) 0 0) 0 0) 0 ((0 : Int64) ||| ((64 : Int64) <<< (((12 : Int32) : Int32).toInt64 &&& 63))))] H1 := hPD.1
  rw [show (((0 : Int64) ||| ((64 : Int64) <<< (((12 : Int32) : Int32).toInt64 &&& 63)) : Int64)) = 262144 from by decide] at hP
  replace hD : dd A [h14, h0, h20] := dd_of hPD.2 rfl
  clear hPD
  revert H1 locs1
  intro H locs hS hP
  clear hw1 u
  refine tp_pc (pc' := 76) (by rfl) ?_
  refine lv_iinc (v := 1) (lv' := [(1, .int 1), (0, .ref h0)]) hx hb d_Ref_encode_76 hl (k := 0) rfl (by first | rfl | decide) (by decide) rfl ?_
  clear hl ls
  intro ls hl
  refine lv_goto (tgt := 52) hx hb d_Ref_encode_79 (by decide) ?_
  refine tp_pc (pc' := 52) (by rfl) ?_
  refine lv_iload_n hx hb d_Ref_encode_52 rfl (lv_at hl 0 rfl) ?_
  refine lv_bipush (v := 8) hx hb d_Ref_encode_53 (by decide) ?_
  refine lv_icmp_ge (tgt := 82) hx hb d_Ref_encode_55 (by decide) (fun c_18 => absurd c_18 (by decide)) (fun c_18 => ?_)
  refine tp_pc (pc' := 58) (by rfl) ?_
  refine lv_aload_n hx hb d_Ref_encode_58 rfl (lv_at hl 1 rfl) ?_
  refine lv_aload_n hx hb d_Ref_encode_59 rfl (lv_at hl 1 rfl) ?_
  refine va_get (D := (dC, dI)) (ci := 8) (v := .ref h14) (C := R_Ref) (T := F_Ref) (N := 48) hx hb hw i_Ref hown hK hP 1 rfl rfl 16 (by decide) (hw _ m_915) (fun _ h9 => h9) rfl d_Ref_encode_60 ?_
  refine lv_iconst (v := 4) hx hb d_Ref_encode_63 (by decide) ?_
  refine lv_iload_n hx hb d_Ref_encode_64 rfl (lv_at hl 0 rfl) ?_
  refine lv_iadd hx hb d_Ref_encode_65 ?_
  refine tp_i (y := 5) (by first | rfl | decide) ?_
  refine va_iald (D := (dC, dI)) hx hb hK hP 0 0 rfl rfl (i := 5) (vp_c (by decide)) d_Ref_encode_66 ?_
  refine tp_i (y := 0) (by first | rfl | decide) ?_
  refine lv_bipush (v := 64) hx hb d_Ref_encode_67 (by decide) ?_
  refine lv_iadd hx hb d_Ref_encode_69 ?_
  refine tp_i (y := 64) (by first | rfl | decide) ?_
  refine lv_i2l (v := 64) hx hb d_Ref_encode_70 (by decide) ?_
  refine lv_bipush (v := 7) hx hb d_Ref_encode_71 (by decide) ?_
  obtain ⟨hPc, hDc, hFc⟩ := cut3 (wc := [oc h0 8 [.int p0, .int p1, .ref h1, .ref h2, .ref h3, .ref h4, .ref h5, .ref h6, .ref h7, .ref h8, .ref h9, .ref h10, .ref h11, .ref h12, .int p2, .ref h13, .ref h14, .ref h15, .ref h16, .int 2, .int p4, .ref h17, .ref h18, .ref h19, .int p5, .ref h20, .int 19, .int p7, .ref h21, .ref h22, .ref h23, .ref h24, .ref h25, .ref h26, .ref h27, .ref h28, .int p8, .int p9, .ref h29, .ref h30, .ref h31, .ref h32, .ref h33, .ref h34, .ref h35, .ref h36, .int p10, .ref h37], la h20 k19 5 (vp_updL (vp_updL (vp_updL (vp_updL (vp_updL (vp_updL (vp_updL (vp_updL (vp_updL (vp_updL f19 0 0) 1 0) 2 0) 3 0) 4 0) 0 0) 0 0) 0 0) 0 0) 0 262144)]) hP hD rfl hS hA [1, 2] (by decide +kernel) rfl
  have hKc := hK.sub (tys' := [(k19, .long)]) [1] rfl
  refine va_callv (va_runV (As := [.long 64, .int 7]) (rest := []) ⟨hx, hb, hml, hown, hw⟩ (c_Ref_bits_v6 l dC dI h0 64 p0 p1 h1 h2 h3 h4 h5 h6 h7 h8 h9 h10 h11 h12 p2 h13 h14 h15 h16 2 p4 h17 h18 h19 p5 h20 p7 h21 h22 h23 h24 h25 h26 h27 h28 p8 p9 h29 h30 h31 h32 h33 h34 h35 h36 p10 h37 k19 (vp_updL (vp_updL (vp_updL (vp_updL (vp_updL (vp_updL (vp_updL (vp_updL (vp_updL (vp_updL f19 0 0) 1 0) 2 0) 3 0) 4 0) 0 0) 0 0) 0 0) 0 0) 0 262144) H.size) (cw_V 2 hw g_Ref_bits rfl rfl rfl (hw _ m_109) (hw _ m_1093) (hw _ m_1095) (hw _ m_58) (by decide +kernel) ⟨Nat.le_of_ble_eq_true rfl, Nat.le_of_ble_eq_true rfl⟩) ⟨fun a U g mk q => by obtain ⟨q0, q1, qP, qK, qD, qN⟩ := q; exact ⟨q0, q1, qP, va_K.moved (u := U) (U := U.calling g mk a) (Vm.Alike.refl U.vm) qK, qD, nw_call qN⟩, va_recv hKc hPc (ci := 8) (q0 := 0) rfl rfl, fun U hU hW => ⟨rfl, by rw [hU], by rw [hU]; exact hPc, va_K.moved hW.alike hKc, hDc.weaken (fun _ _ _ _ => trivial), nw_warm hW hn⟩⟩ rfl rfl hl.1 rfl (lv_room (Nat.le_of_ble_eq_true rfl)) d_Ref_encode_73 ⟨Nat.le_of_ble_eq_true rfl, Nat.le_of_ble_eq_true rfl⟩) hS (fun q _ h => hFc q h) hFc ?_
  intro u t H1 locs1 ht hvm hw1 hB hz1 hk1 hS1
  obtain ⟨hP1, hK1, hD1⟩ := hB
  rw [ht] at hP1
  replace hK1 := va_K.moved hvm.symm hK1
  have hPD := join3 hP hD rfl [1, 2] [0] rfl (by rfl) (by decide +kernel) (by decide +kernel) hk1 hFc hP1 hD1
  replace hK : va_K (dC, dI) classes [(k13, .int), (k19, .long)] s := hK.app hK1
  clear hP1 hK1 hD1 hk1 hz1 hFc hKc hDc hPc hvm ht hP hS t locs H
  have hP : va_P (dC, dI) classes [ia h14 k13 155 (fun _ => 0), oc h0 8 [.int p0, .int p1, .ref h1, .ref h2, .ref h3, .ref h4, .ref h5, .ref h6, .ref h7, .ref h8, .ref h9, .ref h10, .ref h11, .ref h12, .int p2, .ref h13, .ref h14, .ref h15, .ref h16, .int 2, .int p4, .ref h17, .ref h18, .ref h19, .int p5, .ref h20, .int 26, .int p7, .ref h21, .ref h22, .ref h23, .ref h24, .ref h25, .ref h26, .ref h27, .ref h28, .int p8, .int p9, .ref h29, .ref h30, .ref h31, .ref h32, .ref h33, .ref h34, .ref h35, .ref h36, .int p10, .ref h37], la h20 k19 5 (vp_updL (vp_updL (vp_updL (vp_updL (vp_updL (vp_updL (vp_updL (vp_updL (vp_updL (vp_updL (vp_updL f19 0 0) 1 0) 2 0) 3 0) 4 0) 0 0) 0 0) 0 0) 0 0) 0 262144) 0 ((262144 : Int64) ||| ((64 : Int64) <<< (((19 : Int32) : Int32).toInt64 &&& 63))))] H1 := hPD.1
  rw [show (((262144 : Int64) ||| ((64 : Int64) <<< (((19 : Int32) : Int32).toInt64 &&& 63)) : Int64)) = 33816576 from by decide] at hP
  replace hD : dd A [h14, h0, h20] := dd_of hPD.2 rfl
  clear hPD
  revert H1 locs1
  intro H locs hS hP
  clear hw1 u
  refine tp_pc (pc' := 76) (by rfl) ?_
  refine lv_iinc (v := 2) (lv' := [(1, .int 2), (0, .ref h0)]) hx hb d_Ref_encode_76 hl (k := 0) rfl (by first | rfl | decide) (by decide) rfl ?_
  clear hl ls
  intro ls hl
  refine lv_goto (tgt := 52) hx hb d_Ref_encode_79 (by decide) ?_
  refine tp_pc (pc' := 52) (by rfl) ?_
  refine lv_iload_n hx hb d_Ref_encode_52 rfl (lv_at hl 0 rfl) ?_
  refine lv_bipush (v := 8) hx hb d_Ref_encode_53 (by decide) ?_
  refine lv_icmp_ge (tgt := 82) hx hb d_Ref_encode_55 (by decide) (fun c_20 => absurd c_20 (by decide)) (fun c_20 => ?_)
  refine tp_pc (pc' := 58) (by rfl) ?_
  refine lv_aload_n hx hb d_Ref_encode_58 rfl (lv_at hl 1 rfl) ?_
  refine lv_aload_n hx hb d_Ref_encode_59 rfl (lv_at hl 1 rfl) ?_
  refine va_get (D := (dC, dI)) (ci := 8) (v := .ref h14) (C := R_Ref) (T := F_Ref) (N := 48) hx hb hw i_Ref hown hK hP 1 rfl rfl 16 (by decide) (hw _ m_915) (fun _ h9 => h9) rfl d_Ref_encode_60 ?_
  refine lv_iconst (v := 4) hx hb d_Ref_encode_63 (by decide) ?_
  refine lv_iload_n hx hb d_Ref_encode_64 rfl (lv_at hl 0 rfl) ?_
  refine lv_iadd hx hb d_Ref_encode_65 ?_
  refine tp_i (y := 6) (by first | rfl | decide) ?_
  refine va_iald (D := (dC, dI)) hx hb hK hP 0 0 rfl rfl (i := 6) (vp_c (by decide)) d_Ref_encode_66 ?_
  refine tp_i (y := 0) (by first | rfl | decide) ?_
  refine lv_bipush (v := 64) hx hb d_Ref_encode_67 (by decide) ?_
  refine lv_iadd hx hb d_Ref_encode_69 ?_
  refine tp_i (y := 64) (by first | rfl | decide) ?_
  refine lv_i2l (v := 64) hx hb d_Ref_encode_70 (by decide) ?_
  refine lv_bipush (v := 7) hx hb d_Ref_encode_71 (by decide) ?_
  obtain ⟨hPc, hDc, hFc⟩ := cut3 (wc := [oc h0 8 [.int p0, .int p1, .ref h1, .ref h2, .ref h3, .ref h4, .ref h5, .ref h6, .ref h7, .ref h8, .ref h9, .ref h10, .ref h11, .ref h12, .int p2, .ref h13, .ref h14, .ref h15, .ref h16, .int 2, .int p4, .ref h17, .ref h18, .ref h19, .int p5, .ref h20, .int 26, .int p7, .ref h21, .ref h22, .ref h23, .ref h24, .ref h25, .ref h26, .ref h27, .ref h28, .int p8, .int p9, .ref h29, .ref h30, .ref h31, .ref h32, .ref h33, .ref h34, .ref h35, .ref h36, .int p10, .ref h37], la h20 k19 5 (vp_updL (vp_updL (vp_updL (vp_updL (vp_updL (vp_updL (vp_updL (vp_updL (vp_updL (vp_updL (vp_updL f19 0 0) 1 0) 2 0) 3 0) 4 0) 0 0) 0 0) 0 0) 0 0) 0 262144) 0 33816576)]) hP hD rfl hS hA [1, 2] (by decide +kernel) rfl
  have hKc := hK.sub (tys' := [(k19, .long)]) [1] rfl
  refine va_callv (va_runV (As := [.long 64, .int 7]) (rest := []) ⟨hx, hb, hml, hown, hw⟩ (c_Ref_bits_v7 l dC dI h0 64 p0 p1 h1 h2 h3 h4 h5 h6 h7 h8 h9 h10 h11 h12 p2 h13 h14 h15 h16 2 p4 h17 h18 h19 p5 h20 p7 h21 h22 h23 h24 h25 h26 h27 h28 p8 p9 h29 h30 h31 h32 h33 h34 h35 h36 p10 h37 k19 (vp_updL (vp_updL (vp_updL (vp_updL (vp_updL (vp_updL (vp_updL (vp_updL (vp_updL (vp_updL (vp_updL f19 0 0) 1 0) 2 0) 3 0) 4 0) 0 0) 0 0) 0 0) 0 0) 0 262144) 0 33816576) H.size) (cw_V 2 hw g_Ref_bits rfl rfl rfl (hw _ m_109) (hw _ m_1093) (hw _ m_1095) (hw _ m_58) (by decide +kernel) ⟨Nat.le_of_ble_eq_true rfl, Nat.le_of_ble_eq_true rfl⟩) ⟨fun a U g mk q => by obtain ⟨q0, q1, qP, qK, qD, qN⟩ := q; exact ⟨q0, q1, qP, va_K.moved (u := U) (U := U.calling g mk a) (Vm.Alike.refl U.vm) qK, qD, nw_call qN⟩, va_recv hKc hPc (ci := 8) (q0 := 0) rfl rfl, fun U hU hW => ⟨rfl, by rw [hU], by rw [hU]; exact hPc, va_K.moved hW.alike hKc, hDc.weaken (fun _ _ _ _ => trivial), nw_warm hW hn⟩⟩ rfl rfl hl.1 rfl (lv_room (Nat.le_of_ble_eq_true rfl)) d_Ref_encode_73 ⟨Nat.le_of_ble_eq_true rfl, Nat.le_of_ble_eq_true rfl⟩) hS (fun q _ h => hFc q h) hFc ?_
  intro u t H1 locs1 ht hvm hw1 hB hz1 hk1 hS1
  obtain ⟨hP1, hK1, hD1⟩ := hB
  rw [ht] at hP1
  replace hK1 := va_K.moved hvm.symm hK1
  have hPD := join3 hP hD rfl [1, 2] [0] rfl (by rfl) (by decide +kernel) (by decide +kernel) hk1 hFc hP1 hD1
  replace hK : va_K (dC, dI) classes [(k13, .int), (k19, .long)] s := hK.app hK1
  clear hP1 hK1 hD1 hk1 hz1 hFc hKc hDc hPc hvm ht hP hS t locs H
  have hP : va_P (dC, dI) classes [ia h14 k13 155 (fun _ => 0), oc h0 8 [.int p0, .int p1, .ref h1, .ref h2, .ref h3, .ref h4, .ref h5, .ref h6, .ref h7, .ref h8, .ref h9, .ref h10, .ref h11, .ref h12, .int p2, .ref h13, .ref h14, .ref h15, .ref h16, .int 2, .int p4, .ref h17, .ref h18, .ref h19, .int p5, .ref h20, .int 33, .int p7, .ref h21, .ref h22, .ref h23, .ref h24, .ref h25, .ref h26, .ref h27, .ref h28, .int p8, .int p9, .ref h29, .ref h30, .ref h31, .ref h32, .ref h33, .ref h34, .ref h35, .ref h36, .int p10, .ref h37], la h20 k19 5 (vp_updL (vp_updL (vp_updL (vp_updL (vp_updL (vp_updL (vp_updL (vp_updL (vp_updL (vp_updL (vp_updL (vp_updL f19 0 0) 1 0) 2 0) 3 0) 4 0) 0 0) 0 0) 0 0) 0 0) 0 262144) 0 33816576) 0 ((33816576 : Int64) ||| ((64 : Int64) <<< (((26 : Int32) : Int32).toInt64 &&& 63))))] H1 := hPD.1
  rw [show (((33816576 : Int64) ||| ((64 : Int64) <<< (((26 : Int32) : Int32).toInt64 &&& 63)) : Int64)) = 4328783872 from by decide] at hP
  replace hD : dd A [h14, h0, h20] := dd_of hPD.2 rfl
  clear hPD
  revert H1 locs1
  intro H locs hS hP
  clear hw1 u
  refine tp_pc (pc' := 76) (by rfl) ?_
  refine lv_iinc (v := 3) (lv' := [(1, .int 3), (0, .ref h0)]) hx hb d_Ref_encode_76 hl (k := 0) rfl (by first | rfl | decide) (by decide) rfl ?_
  clear hl ls
  intro ls hl
  refine lv_goto (tgt := 52) hx hb d_Ref_encode_79 (by decide) ?_
  refine tp_pc (pc' := 52) (by rfl) ?_
  refine lv_iload_n hx hb d_Ref_encode_52 rfl (lv_at hl 0 rfl) ?_
  refine lv_bipush (v := 8) hx hb d_Ref_encode_53 (by decide) ?_
  refine lv_icmp_ge (tgt := 82) hx hb d_Ref_encode_55 (by decide) (fun c_22 => absurd c_22 (by decide)) (fun c_22 => ?_)
  refine tp_pc (pc' := 58) (by rfl) ?_
  refine lv_aload_n hx hb d_Ref_encode_58 rfl (lv_at hl 1 rfl) ?_
  refine lv_aload_n hx hb d_Ref_encode_59 rfl (lv_at hl 1 rfl) ?_
  refine va_get (D := (dC, dI)) (ci := 8) (v := .ref h14) (C := R_Ref) (T := F_Ref) (N := 48) hx hb hw i_Ref hown hK hP 1 rfl rfl 16 (by decide) (hw _ m_915) (fun _ h9 => h9) rfl d_Ref_encode_60 ?_
  refine lv_iconst (v := 4) hx hb d_Ref_encode_63 (by decide) ?_
  refine lv_iload_n hx hb d_Ref_encode_64 rfl (lv_at hl 0 rfl) ?_
  refine lv_iadd hx hb d_Ref_encode_65 ?_
  refine tp_i (y := 7) (by first | rfl | decide) ?_
  refine va_iald (D := (dC, dI)) hx hb hK hP 0 0 rfl rfl (i := 7) (vp_c (by decide)) d_Ref_encode_66 ?_
  refine tp_i (y := 0) (by first | rfl | decide) ?_
  refine lv_bipush (v := 64) hx hb d_Ref_encode_67 (by decide) ?_
  refine lv_iadd hx hb d_Ref_encode_69 ?_
  refine tp_i (y := 64) (by first | rfl | decide) ?_
  refine lv_i2l (v := 64) hx hb d_Ref_encode_70 (by decide) ?_
  refine lv_bipush (v := 7) hx hb d_Ref_encode_71 (by decide) ?_
  obtain ⟨hPc, hDc, hFc⟩ := cut3 (wc := [oc h0 8 [.int p0, .int p1, .ref h1, .ref h2, .ref h3, .ref h4, .ref h5, .ref h6, .ref h7, .ref h8, .ref h9, .ref h10, .ref h11, .ref h12, .int p2, .ref h13, .ref h14, .ref h15, .ref h16, .int 2, .int p4, .ref h17, .ref h18, .ref h19, .int p5, .ref h20, .int 33, .int p7, .ref h21, .ref h22, .ref h23, .ref h24, .ref h25, .ref h26, .ref h27, .ref h28, .int p8, .int p9, .ref h29, .ref h30, .ref h31, .ref h32, .ref h33, .ref h34, .ref h35, .ref h36, .int p10, .ref h37], la h20 k19 5 (vp_updL (vp_updL (vp_updL (vp_updL (vp_updL (vp_updL (vp_updL (vp_updL (vp_updL (vp_updL (vp_updL (vp_updL f19 0 0) 1 0) 2 0) 3 0) 4 0) 0 0) 0 0) 0 0) 0 0) 0 262144) 0 33816576) 0 4328783872)]) hP hD rfl hS hA [1, 2] (by decide +kernel) rfl
  have hKc := hK.sub (tys' := [(k19, .long)]) [1] rfl
  refine va_callv (va_runV (As := [.long 64, .int 7]) (rest := []) ⟨hx, hb, hml, hown, hw⟩ (c_Ref_bits_v8 l dC dI h0 64 p0 p1 h1 h2 h3 h4 h5 h6 h7 h8 h9 h10 h11 h12 p2 h13 h14 h15 h16 2 p4 h17 h18 h19 p5 h20 p7 h21 h22 h23 h24 h25 h26 h27 h28 p8 p9 h29 h30 h31 h32 h33 h34 h35 h36 p10 h37 k19 (vp_updL (vp_updL (vp_updL (vp_updL (vp_updL (vp_updL (vp_updL (vp_updL (vp_updL (vp_updL (vp_updL (vp_updL f19 0 0) 1 0) 2 0) 3 0) 4 0) 0 0) 0 0) 0 0) 0 0) 0 262144) 0 33816576) 0 4328783872) H.size) (cw_V 2 hw g_Ref_bits rfl rfl rfl (hw _ m_109) (hw _ m_1093) (hw _ m_1095) (hw _ m_58) (by decide +kernel) ⟨Nat.le_of_ble_eq_true rfl, Nat.le_of_ble_eq_true rfl⟩) ⟨fun a U g mk q => by obtain ⟨q0, q1, qP, qK, qD, qN⟩ := q; exact ⟨q0, q1, qP, va_K.moved (u := U) (U := U.calling g mk a) (Vm.Alike.refl U.vm) qK, qD, nw_call qN⟩, va_recv hKc hPc (ci := 8) (q0 := 0) rfl rfl, fun U hU hW => ⟨rfl, by rw [hU], by rw [hU]; exact hPc, va_K.moved hW.alike hKc, hDc.weaken (fun _ _ _ _ => trivial), nw_warm hW hn⟩⟩ rfl rfl hl.1 rfl (lv_room (Nat.le_of_ble_eq_true rfl)) d_Ref_encode_73 ⟨Nat.le_of_ble_eq_true rfl, Nat.le_of_ble_eq_true rfl⟩) hS (fun q _ h => hFc q h) hFc ?_
  intro u t H1 locs1 ht hvm hw1 hB hz1 hk1 hS1
  obtain ⟨hP1, hK1, hD1⟩ := hB
  rw [ht] at hP1
  replace hK1 := va_K.moved hvm.symm hK1
  have hPD := join3 hP hD rfl [1, 2] [0] rfl (by rfl) (by decide +kernel) (by decide +kernel) hk1 hFc hP1 hD1
  replace hK : va_K (dC, dI) classes [(k13, .int), (k19, .long)] s := hK.app hK1
  clear hP1 hK1 hD1 hk1 hz1 hFc hKc hDc hPc hvm ht hP hS t locs H
  have hP : va_P (dC, dI) classes [ia h14 k13 155 (fun _ => 0), oc h0 8 [.int p0, .int p1, .ref h1, .ref h2, .ref h3, .ref h4, .ref h5, .ref h6, .ref h7, .ref h8, .ref h9, .ref h10, .ref h11, .ref h12, .int p2, .ref h13, .ref h14, .ref h15, .ref h16, .int 2, .int p4, .ref h17, .ref h18, .ref h19, .int p5, .ref h20, .int 40, .int p7, .ref h21, .ref h22, .ref h23, .ref h24, .ref h25, .ref h26, .ref h27, .ref h28, .int p8, .int p9, .ref h29, .ref h30, .ref h31, .ref h32, .ref h33, .ref h34, .ref h35, .ref h36, .int p10, .ref h37], la h20 k19 5 (vp_updL (vp_updL (vp_updL (vp_updL (vp_updL (vp_updL (vp_updL (vp_updL (vp_updL (vp_updL (vp_updL (vp_updL (vp_updL f19 0 0) 1 0) 2 0) 3 0) 4 0) 0 0) 0 0) 0 0) 0 0) 0 262144) 0 33816576) 0 4328783872) 0 ((4328783872 : Int64) ||| ((64 : Int64) <<< (((33 : Int32) : Int32).toInt64 &&& 63))))] H1 := hPD.1
  rw [show (((4328783872 : Int64) ||| ((64 : Int64) <<< (((33 : Int32) : Int32).toInt64 &&& 63)) : Int64)) = 554084597760 from by decide] at hP
  replace hD : dd A [h14, h0, h20] := dd_of hPD.2 rfl
  clear hPD
  revert H1 locs1
  intro H locs hS hP
  clear hw1 u
  refine tp_pc (pc' := 76) (by rfl) ?_
  refine lv_iinc (v := 4) (lv' := [(1, .int 4), (0, .ref h0)]) hx hb d_Ref_encode_76 hl (k := 0) rfl (by first | rfl | decide) (by decide) rfl ?_
  clear hl ls
  intro ls hl
  refine lv_goto (tgt := 52) hx hb d_Ref_encode_79 (by decide) ?_
  refine tp_pc (pc' := 52) (by rfl) ?_
  refine lv_iload_n hx hb d_Ref_encode_52 rfl (lv_at hl 0 rfl) ?_
  refine lv_bipush (v := 8) hx hb d_Ref_encode_53 (by decide) ?_
  refine lv_icmp_ge (tgt := 82) hx hb d_Ref_encode_55 (by decide) (fun c_24 => absurd c_24 (by decide)) (fun c_24 => ?_)
  refine tp_pc (pc' := 58) (by rfl) ?_
  refine lv_aload_n hx hb d_Ref_encode_58 rfl (lv_at hl 1 rfl) ?_
  refine lv_aload_n hx hb d_Ref_encode_59 rfl (lv_at hl 1 rfl) ?_
  refine va_get (D := (dC, dI)) (ci := 8) (v := .ref h14) (C := R_Ref) (T := F_Ref) (N := 48) hx hb hw i_Ref hown hK hP 1 rfl rfl 16 (by decide) (hw _ m_915) (fun _ h9 => h9) rfl d_Ref_encode_60 ?_
  refine lv_iconst (v := 4) hx hb d_Ref_encode_63 (by decide) ?_
  refine lv_iload_n hx hb d_Ref_encode_64 rfl (lv_at hl 0 rfl) ?_
  refine lv_iadd hx hb d_Ref_encode_65 ?_
  refine tp_i (y := 8) (by first | rfl | decide) ?_
  refine va_iald (D := (dC, dI)) hx hb hK hP 0 0 rfl rfl (i := 8) (vp_c (by decide)) d_Ref_encode_66 ?_
  refine tp_i (y := 0) (by first | rfl | decide) ?_
  refine lv_bipush (v := 64) hx hb d_Ref_encode_67 (by decide) ?_
  refine lv_iadd hx hb d_Ref_encode_69 ?_
  refine tp_i (y := 64) (by first | rfl | decide) ?_
  refine lv_i2l (v := 64) hx hb d_Ref_encode_70 (by decide) ?_
  refine lv_bipush (v := 7) hx hb d_Ref_encode_71 (by decide) ?_
  obtain ⟨hPc, hDc, hFc⟩ := cut3 (wc := [oc h0 8 [.int p0, .int p1, .ref h1, .ref h2, .ref h3, .ref h4, .ref h5, .ref h6, .ref h7, .ref h8, .ref h9, .ref h10, .ref h11, .ref h12, .int p2, .ref h13, .ref h14, .ref h15, .ref h16, .int 2, .int p4, .ref h17, .ref h18, .ref h19, .int p5, .ref h20, .int 40, .int p7, .ref h21, .ref h22, .ref h23, .ref h24, .ref h25, .ref h26, .ref h27, .ref h28, .int p8, .int p9, .ref h29, .ref h30, .ref h31, .ref h32, .ref h33, .ref h34, .ref h35, .ref h36, .int p10, .ref h37], la h20 k19 5 (vp_updL (vp_updL (vp_updL (vp_updL (vp_updL (vp_updL (vp_updL (vp_updL (vp_updL (vp_updL (vp_updL (vp_updL (vp_updL f19 0 0) 1 0) 2 0) 3 0) 4 0) 0 0) 0 0) 0 0) 0 0) 0 262144) 0 33816576) 0 4328783872) 0 554084597760)]) hP hD rfl hS hA [1, 2] (by decide +kernel) rfl
  have hKc := hK.sub (tys' := [(k19, .long)]) [1] rfl
  refine va_callv (va_runV (As := [.long 64, .int 7]) (rest := []) ⟨hx, hb, hml, hown, hw⟩ (c_Ref_bits_v9 l dC dI h0 64 p0 p1 h1 h2 h3 h4 h5 h6 h7 h8 h9 h10 h11 h12 p2 h13 h14 h15 h16 2 p4 h17 h18 h19 p5 h20 p7 h21 h22 h23 h24 h25 h26 h27 h28 p8 p9 h29 h30 h31 h32 h33 h34 h35 h36 p10 h37 k19 (vp_updL (vp_updL (vp_updL (vp_updL (vp_updL (vp_updL (vp_updL (vp_updL (vp_updL (vp_updL (vp_updL (vp_updL (vp_updL f19 0 0) 1 0) 2 0) 3 0) 4 0) 0 0) 0 0) 0 0) 0 0) 0 262144) 0 33816576) 0 4328783872) 0 554084597760) H.size) (cw_V 2 hw g_Ref_bits rfl rfl rfl (hw _ m_109) (hw _ m_1093) (hw _ m_1095) (hw _ m_58) (by decide +kernel) ⟨Nat.le_of_ble_eq_true rfl, Nat.le_of_ble_eq_true rfl⟩) ⟨fun a U g mk q => by obtain ⟨q0, q1, qP, qK, qD, qN⟩ := q; exact ⟨q0, q1, qP, va_K.moved (u := U) (U := U.calling g mk a) (Vm.Alike.refl U.vm) qK, qD, nw_call qN⟩, va_recv hKc hPc (ci := 8) (q0 := 0) rfl rfl, fun U hU hW => ⟨rfl, by rw [hU], by rw [hU]; exact hPc, va_K.moved hW.alike hKc, hDc.weaken (fun _ _ _ _ => trivial), nw_warm hW hn⟩⟩ rfl rfl hl.1 rfl (lv_room (Nat.le_of_ble_eq_true rfl)) d_Ref_encode_73 ⟨Nat.le_of_ble_eq_true rfl, Nat.le_of_ble_eq_true rfl⟩) hS (fun q _ h => hFc q h) hFc ?_
  intro u t H1 locs1 ht hvm hw1 hB hz1 hk1 hS1
  obtain ⟨hP1, hK1, hD1⟩ := hB
  rw [ht] at hP1
  replace hK1 := va_K.moved hvm.symm hK1
  have hPD := join3 hP hD rfl [1, 2] [0] rfl (by rfl) (by decide +kernel) (by decide +kernel) hk1 hFc hP1 hD1
  replace hK : va_K (dC, dI) classes [(k13, .int), (k19, .long)] s := hK.app hK1
  clear hP1 hK1 hD1 hk1 hz1 hFc hKc hDc hPc hvm ht hP hS t locs H
  have hP : va_P (dC, dI) classes [ia h14 k13 155 (fun _ => 0), oc h0 8 [.int p0, .int p1, .ref h1, .ref h2, .ref h3, .ref h4, .ref h5, .ref h6, .ref h7, .ref h8, .ref h9, .ref h10, .ref h11, .ref h12, .int p2, .ref h13, .ref h14, .ref h15, .ref h16, .int 2, .int p4, .ref h17, .ref h18, .ref h19, .int p5, .ref h20, .int 47, .int p7, .ref h21, .ref h22, .ref h23, .ref h24, .ref h25, .ref h26, .ref h27, .ref h28, .int p8, .int p9, .ref h29, .ref h30, .ref h31, .ref h32, .ref h33, .ref h34, .ref h35, .ref h36, .int p10, .ref h37], la h20 k19 5 (vp_updL (vp_updL (vp_updL (vp_updL (vp_updL (vp_updL (vp_updL (vp_updL (vp_updL (vp_updL (vp_updL (vp_updL (vp_updL (vp_updL f19 0 0) 1 0) 2 0) 3 0) 4 0) 0 0) 0 0) 0 0) 0 0) 0 262144) 0 33816576) 0 4328783872) 0 554084597760) 0 ((554084597760 : Int64) ||| ((64 : Int64) <<< (((40 : Int32) : Int32).toInt64 &&& 63))))] H1 := hPD.1
  rw [show (((554084597760 : Int64) ||| ((64 : Int64) <<< (((40 : Int32) : Int32).toInt64 &&& 63)) : Int64)) = 70922828775424 from by decide] at hP
  replace hD : dd A [h14, h0, h20] := dd_of hPD.2 rfl
  clear hPD
  revert H1 locs1
  intro H locs hS hP
  clear hw1 u
  refine tp_pc (pc' := 76) (by rfl) ?_
  refine lv_iinc (v := 5) (lv' := [(1, .int 5), (0, .ref h0)]) hx hb d_Ref_encode_76 hl (k := 0) rfl (by first | rfl | decide) (by decide) rfl ?_
  clear hl ls
  intro ls hl
  refine lv_goto (tgt := 52) hx hb d_Ref_encode_79 (by decide) ?_
  refine tp_pc (pc' := 52) (by rfl) ?_
  refine lv_iload_n hx hb d_Ref_encode_52 rfl (lv_at hl 0 rfl) ?_
  refine lv_bipush (v := 8) hx hb d_Ref_encode_53 (by decide) ?_
  refine lv_icmp_ge (tgt := 82) hx hb d_Ref_encode_55 (by decide) (fun c_26 => absurd c_26 (by decide)) (fun c_26 => ?_)
  refine tp_pc (pc' := 58) (by rfl) ?_
  refine lv_aload_n hx hb d_Ref_encode_58 rfl (lv_at hl 1 rfl) ?_
  refine lv_aload_n hx hb d_Ref_encode_59 rfl (lv_at hl 1 rfl) ?_
  refine va_get (D := (dC, dI)) (ci := 8) (v := .ref h14) (C := R_Ref) (T := F_Ref) (N := 48) hx hb hw i_Ref hown hK hP 1 rfl rfl 16 (by decide) (hw _ m_915) (fun _ h9 => h9) rfl d_Ref_encode_60 ?_
  refine lv_iconst (v := 4) hx hb d_Ref_encode_63 (by decide) ?_
  refine lv_iload_n hx hb d_Ref_encode_64 rfl (lv_at hl 0 rfl) ?_
  refine lv_iadd hx hb d_Ref_encode_65 ?_
  refine tp_i (y := 9) (by first | rfl | decide) ?_
  refine va_iald (D := (dC, dI)) hx hb hK hP 0 0 rfl rfl (i := 9) (vp_c (by decide)) d_Ref_encode_66 ?_
  refine tp_i (y := 0) (by first | rfl | decide) ?_
  refine lv_bipush (v := 64) hx hb d_Ref_encode_67 (by decide) ?_
  refine lv_iadd hx hb d_Ref_encode_69 ?_
  refine tp_i (y := 64) (by first | rfl | decide) ?_
  refine lv_i2l (v := 64) hx hb d_Ref_encode_70 (by decide) ?_
  refine lv_bipush (v := 7) hx hb d_Ref_encode_71 (by decide) ?_
  obtain ⟨hPc, hDc, hFc⟩ := cut3 (wc := [oc h0 8 [.int p0, .int p1, .ref h1, .ref h2, .ref h3, .ref h4, .ref h5, .ref h6, .ref h7, .ref h8, .ref h9, .ref h10, .ref h11, .ref h12, .int p2, .ref h13, .ref h14, .ref h15, .ref h16, .int 2, .int p4, .ref h17, .ref h18, .ref h19, .int p5, .ref h20, .int 47, .int p7, .ref h21, .ref h22, .ref h23, .ref h24, .ref h25, .ref h26, .ref h27, .ref h28, .int p8, .int p9, .ref h29, .ref h30, .ref h31, .ref h32, .ref h33, .ref h34, .ref h35, .ref h36, .int p10, .ref h37], la h20 k19 5 (vp_updL (vp_updL (vp_updL (vp_updL (vp_updL (vp_updL (vp_updL (vp_updL (vp_updL (vp_updL (vp_updL (vp_updL (vp_updL (vp_updL f19 0 0) 1 0) 2 0) 3 0) 4 0) 0 0) 0 0) 0 0) 0 0) 0 262144) 0 33816576) 0 4328783872) 0 554084597760) 0 70922828775424)]) hP hD rfl hS hA [1, 2] (by decide +kernel) rfl
  have hKc := hK.sub (tys' := [(k19, .long)]) [1] rfl
  refine va_callv (va_runV (As := [.long 64, .int 7]) (rest := []) ⟨hx, hb, hml, hown, hw⟩ (c_Ref_bits_v10 l dC dI h0 64 p0 p1 h1 h2 h3 h4 h5 h6 h7 h8 h9 h10 h11 h12 p2 h13 h14 h15 h16 2 p4 h17 h18 h19 p5 h20 p7 h21 h22 h23 h24 h25 h26 h27 h28 p8 p9 h29 h30 h31 h32 h33 h34 h35 h36 p10 h37 k19 (vp_updL (vp_updL (vp_updL (vp_updL (vp_updL (vp_updL (vp_updL (vp_updL (vp_updL (vp_updL (vp_updL (vp_updL (vp_updL (vp_updL f19 0 0) 1 0) 2 0) 3 0) 4 0) 0 0) 0 0) 0 0) 0 0) 0 262144) 0 33816576) 0 4328783872) 0 554084597760) 0 70922828775424) H.size) (cw_V 2 hw g_Ref_bits rfl rfl rfl (hw _ m_109) (hw _ m_1093) (hw _ m_1095) (hw _ m_58) (by decide +kernel) ⟨Nat.le_of_ble_eq_true rfl, Nat.le_of_ble_eq_true rfl⟩) ⟨fun a U g mk q => by obtain ⟨q0, q1, qP, qK, qD, qN⟩ := q; exact ⟨q0, q1, qP, va_K.moved (u := U) (U := U.calling g mk a) (Vm.Alike.refl U.vm) qK, qD, nw_call qN⟩, va_recv hKc hPc (ci := 8) (q0 := 0) rfl rfl, fun U hU hW => ⟨rfl, by rw [hU], by rw [hU]; exact hPc, va_K.moved hW.alike hKc, hDc.weaken (fun _ _ _ _ => trivial), nw_warm hW hn⟩⟩ rfl rfl hl.1 rfl (lv_room (Nat.le_of_ble_eq_true rfl)) d_Ref_encode_73 ⟨Nat.le_of_ble_eq_true rfl, Nat.le_of_ble_eq_true rfl⟩) hS (fun q _ h => hFc q h) hFc ?_
  intro u t H1 locs1 ht hvm hw1 hB hz1 hk1 hS1
  obtain ⟨hP1, hK1, hD1⟩ := hB
  rw [ht] at hP1
  replace hK1 := va_K.moved hvm.symm hK1
  have hPD := join3 hP hD rfl [1, 2] [0] rfl (by rfl) (by decide +kernel) (by decide +kernel) hk1 hFc hP1 hD1
  replace hK : va_K (dC, dI) classes [(k13, .int), (k19, .long)] s := hK.app hK1
  clear hP1 hK1 hD1 hk1 hz1 hFc hKc hDc hPc hvm ht hP hS t locs H
  have hP : va_P (dC, dI) classes [ia h14 k13 155 (fun _ => 0), oc h0 8 [.int p0, .int p1, .ref h1, .ref h2, .ref h3, .ref h4, .ref h5, .ref h6, .ref h7, .ref h8, .ref h9, .ref h10, .ref h11, .ref h12, .int p2, .ref h13, .ref h14, .ref h15, .ref h16, .int 2, .int p4, .ref h17, .ref h18, .ref h19, .int p5, .ref h20, .int 54, .int p7, .ref h21, .ref h22, .ref h23, .ref h24, .ref h25, .ref h26, .ref h27, .ref h28, .int p8, .int p9, .ref h29, .ref h30, .ref h31, .ref h32, .ref h33, .ref h34, .ref h35, .ref h36, .int p10, .ref h37], la h20 k19 5 (vp_updL (vp_updL (vp_updL (vp_updL (vp_updL (vp_updL (vp_updL (vp_updL (vp_updL (vp_updL (vp_updL (vp_updL (vp_updL (vp_updL (vp_updL f19 0 0) 1 0) 2 0) 3 0) 4 0) 0 0) 0 0) 0 0) 0 0) 0 262144) 0 33816576) 0 4328783872) 0 554084597760) 0 70922828775424) 0 ((70922828775424 : Int64) ||| ((64 : Int64) <<< (((47 : Int32) : Int32).toInt64 &&& 63))))] H1 := hPD.1
  rw [show (((70922828775424 : Int64) ||| ((64 : Int64) <<< (((47 : Int32) : Int32).toInt64 &&& 63)) : Int64)) = 9078122083516416 from by decide] at hP
  replace hD : dd A [h14, h0, h20] := dd_of hPD.2 rfl
  clear hPD
  revert H1 locs1
  intro H locs hS hP
  clear hw1 u
  refine tp_pc (pc' := 76) (by rfl) ?_
  refine lv_iinc (v := 6) (lv' := [(1, .int 6), (0, .ref h0)]) hx hb d_Ref_encode_76 hl (k := 0) rfl (by first | rfl | decide) (by decide) rfl ?_
  clear hl ls
  intro ls hl
  refine lv_goto (tgt := 52) hx hb d_Ref_encode_79 (by decide) ?_
  refine tp_pc (pc' := 52) (by rfl) ?_
  refine lv_iload_n hx hb d_Ref_encode_52 rfl (lv_at hl 0 rfl) ?_
  refine lv_bipush (v := 8) hx hb d_Ref_encode_53 (by decide) ?_
  refine lv_icmp_ge (tgt := 82) hx hb d_Ref_encode_55 (by decide) (fun c_28 => absurd c_28 (by decide)) (fun c_28 => ?_)
  refine tp_pc (pc' := 58) (by rfl) ?_
  refine lv_aload_n hx hb d_Ref_encode_58 rfl (lv_at hl 1 rfl) ?_
  refine lv_aload_n hx hb d_Ref_encode_59 rfl (lv_at hl 1 rfl) ?_
  refine va_get (D := (dC, dI)) (ci := 8) (v := .ref h14) (C := R_Ref) (T := F_Ref) (N := 48) hx hb hw i_Ref hown hK hP 1 rfl rfl 16 (by decide) (hw _ m_915) (fun _ h9 => h9) rfl d_Ref_encode_60 ?_
  refine lv_iconst (v := 4) hx hb d_Ref_encode_63 (by decide) ?_
  refine lv_iload_n hx hb d_Ref_encode_64 rfl (lv_at hl 0 rfl) ?_
  refine lv_iadd hx hb d_Ref_encode_65 ?_
  refine tp_i (y := 10) (by first | rfl | decide) ?_
  refine va_iald (D := (dC, dI)) hx hb hK hP 0 0 rfl rfl (i := 10) (vp_c (by decide)) d_Ref_encode_66 ?_
  refine tp_i (y := 0) (by first | rfl | decide) ?_
  refine lv_bipush (v := 64) hx hb d_Ref_encode_67 (by decide) ?_
  refine lv_iadd hx hb d_Ref_encode_69 ?_
  refine tp_i (y := 64) (by first | rfl | decide) ?_
  refine lv_i2l (v := 64) hx hb d_Ref_encode_70 (by decide) ?_
  refine lv_bipush (v := 7) hx hb d_Ref_encode_71 (by decide) ?_
  obtain ⟨hPc, hDc, hFc⟩ := cut3 (wc := [oc h0 8 [.int p0, .int p1, .ref h1, .ref h2, .ref h3, .ref h4, .ref h5, .ref h6, .ref h7, .ref h8, .ref h9, .ref h10, .ref h11, .ref h12, .int p2, .ref h13, .ref h14, .ref h15, .ref h16, .int 2, .int p4, .ref h17, .ref h18, .ref h19, .int p5, .ref h20, .int 54, .int p7, .ref h21, .ref h22, .ref h23, .ref h24, .ref h25, .ref h26, .ref h27, .ref h28, .int p8, .int p9, .ref h29, .ref h30, .ref h31, .ref h32, .ref h33, .ref h34, .ref h35, .ref h36, .int p10, .ref h37], la h20 k19 5 (vp_updL (vp_updL (vp_updL (vp_updL (vp_updL (vp_updL (vp_updL (vp_updL (vp_updL (vp_updL (vp_updL (vp_updL (vp_updL (vp_updL (vp_updL f19 0 0) 1 0) 2 0) 3 0) 4 0) 0 0) 0 0) 0 0) 0 0) 0 262144) 0 33816576) 0 4328783872) 0 554084597760) 0 70922828775424) 0 9078122083516416)]) hP hD rfl hS hA [1, 2] (by decide +kernel) rfl
  have hKc := hK.sub (tys' := [(k19, .long)]) [1] rfl
  refine va_callv (va_runV (As := [.long 64, .int 7]) (rest := []) ⟨hx, hb, hml, hown, hw⟩ (c_Ref_bits_v11 l dC dI h0 64 p0 p1 h1 h2 h3 h4 h5 h6 h7 h8 h9 h10 h11 h12 p2 h13 h14 h15 h16 2 p4 h17 h18 h19 p5 h20 p7 h21 h22 h23 h24 h25 h26 h27 h28 p8 p9 h29 h30 h31 h32 h33 h34 h35 h36 p10 h37 k19 (vp_updL (vp_updL (vp_updL (vp_updL (vp_updL (vp_updL (vp_updL (vp_updL (vp_updL (vp_updL (vp_updL (vp_updL (vp_updL (vp_updL (vp_updL f19 0 0) 1 0) 2 0) 3 0) 4 0) 0 0) 0 0) 0 0) 0 0) 0 262144) 0 33816576) 0 4328783872) 0 554084597760) 0 70922828775424) 0 9078122083516416) H.size) (cw_V 2 hw g_Ref_bits rfl rfl rfl (hw _ m_109) (hw _ m_1093) (hw _ m_1095) (hw _ m_58) (by decide +kernel) ⟨Nat.le_of_ble_eq_true rfl, Nat.le_of_ble_eq_true rfl⟩) ⟨fun a U g mk q => by obtain ⟨q0, q1, qP, qK, qD, qN⟩ := q; exact ⟨q0, q1, qP, va_K.moved (u := U) (U := U.calling g mk a) (Vm.Alike.refl U.vm) qK, qD, nw_call qN⟩, va_recv hKc hPc (ci := 8) (q0 := 0) rfl rfl, fun U hU hW => ⟨rfl, by rw [hU], by rw [hU]; exact hPc, va_K.moved hW.alike hKc, hDc.weaken (fun _ _ _ _ => trivial), nw_warm hW hn⟩⟩ rfl rfl hl.1 rfl (lv_room (Nat.le_of_ble_eq_true rfl)) d_Ref_encode_73 ⟨Nat.le_of_ble_eq_true rfl, Nat.le_of_ble_eq_true rfl⟩) hS (fun q _ h => hFc q h) hFc ?_
  intro u t H1 locs1 ht hvm hw1 hB hz1 hk1 hS1
  obtain ⟨hP1, hK1, hD1⟩ := hB
  rw [ht] at hP1
  replace hK1 := va_K.moved hvm.symm hK1
  have hPD := join3 hP hD rfl [1, 2] [0] rfl (by rfl) (by decide +kernel) (by decide +kernel) hk1 hFc hP1 hD1
  replace hK : va_K (dC, dI) classes [(k13, .int), (k19, .long)] s := hK.app hK1
  clear hP1 hK1 hD1 hk1 hz1 hFc hKc hDc hPc hvm ht hP hS t locs H
  have hP : va_P (dC, dI) classes [ia h14 k13 155 (fun _ => 0), oc h0 8 [.int p0, .int p1, .ref h1, .ref h2, .ref h3, .ref h4, .ref h5, .ref h6, .ref h7, .ref h8, .ref h9, .ref h10, .ref h11, .ref h12, .int p2, .ref h13, .ref h14, .ref h15, .ref h16, .int 2, .int p4, .ref h17, .ref h18, .ref h19, .int p5, .ref h20, .int 61, .int p7, .ref h21, .ref h22, .ref h23, .ref h24, .ref h25, .ref h26, .ref h27, .ref h28, .int p8, .int p9, .ref h29, .ref h30, .ref h31, .ref h32, .ref h33, .ref h34, .ref h35, .ref h36, .int p10, .ref h37], la h20 k19 5 (vp_updL (vp_updL (vp_updL (vp_updL (vp_updL (vp_updL (vp_updL (vp_updL (vp_updL (vp_updL (vp_updL (vp_updL (vp_updL (vp_updL (vp_updL (vp_updL f19 0 0) 1 0) 2 0) 3 0) 4 0) 0 0) 0 0) 0 0) 0 0) 0 262144) 0 33816576) 0 4328783872) 0 554084597760) 0 70922828775424) 0 9078122083516416) 0 ((9078122083516416 : Int64) ||| ((64 : Int64) <<< (((54 : Int32) : Int32).toInt64 &&& 63))))] H1 := hPD.1
  rw [show (((9078122083516416 : Int64) ||| ((64 : Int64) <<< (((54 : Int32) : Int32).toInt64 &&& 63)) : Int64)) = 1161999626690363392 from by decide] at hP
  replace hD : dd A [h14, h0, h20] := dd_of hPD.2 rfl
  clear hPD
  revert H1 locs1
  intro H locs hS hP
  clear hw1 u
  refine tp_pc (pc' := 76) (by rfl) ?_
  refine lv_iinc (v := 7) (lv' := [(1, .int 7), (0, .ref h0)]) hx hb d_Ref_encode_76 hl (k := 0) rfl (by first | rfl | decide) (by decide) rfl ?_
  clear hl ls
  intro ls hl
  refine lv_goto (tgt := 52) hx hb d_Ref_encode_79 (by decide) ?_
  refine tp_pc (pc' := 52) (by rfl) ?_
  refine lv_iload_n hx hb d_Ref_encode_52 rfl (lv_at hl 0 rfl) ?_
  refine lv_bipush (v := 8) hx hb d_Ref_encode_53 (by decide) ?_
  refine lv_icmp_ge (tgt := 82) hx hb d_Ref_encode_55 (by decide) (fun c_30 => absurd c_30 (by decide)) (fun c_30 => ?_)
  refine tp_pc (pc' := 58) (by rfl) ?_
  refine lv_aload_n hx hb d_Ref_encode_58 rfl (lv_at hl 1 rfl) ?_
  refine lv_aload_n hx hb d_Ref_encode_59 rfl (lv_at hl 1 rfl) ?_
  refine va_get (D := (dC, dI)) (ci := 8) (v := .ref h14) (C := R_Ref) (T := F_Ref) (N := 48) hx hb hw i_Ref hown hK hP 1 rfl rfl 16 (by decide) (hw _ m_915) (fun _ h9 => h9) rfl d_Ref_encode_60 ?_
  refine lv_iconst (v := 4) hx hb d_Ref_encode_63 (by decide) ?_
  refine lv_iload_n hx hb d_Ref_encode_64 rfl (lv_at hl 0 rfl) ?_
  refine lv_iadd hx hb d_Ref_encode_65 ?_
  refine tp_i (y := 11) (by first | rfl | decide) ?_
  refine va_iald (D := (dC, dI)) hx hb hK hP 0 0 rfl rfl (i := 11) (vp_c (by decide)) d_Ref_encode_66 ?_
  refine tp_i (y := 0) (by first | rfl | decide) ?_
  refine lv_bipush (v := 64) hx hb d_Ref_encode_67 (by decide) ?_
  refine lv_iadd hx hb d_Ref_encode_69 ?_
  refine tp_i (y := 64) (by first | rfl | decide) ?_
  refine lv_i2l (v := 64) hx hb d_Ref_encode_70 (by decide) ?_
  refine lv_bipush (v := 7) hx hb d_Ref_encode_71 (by decide) ?_
  obtain ⟨hPc, hDc, hFc⟩ := cut3 (wc := [oc h0 8 [.int p0, .int p1, .ref h1, .ref h2, .ref h3, .ref h4, .ref h5, .ref h6, .ref h7, .ref h8, .ref h9, .ref h10, .ref h11, .ref h12, .int p2, .ref h13, .ref h14, .ref h15, .ref h16, .int 2, .int p4, .ref h17, .ref h18, .ref h19, .int p5, .ref h20, .int 61, .int p7, .ref h21, .ref h22, .ref h23, .ref h24, .ref h25, .ref h26, .ref h27, .ref h28, .int p8, .int p9, .ref h29, .ref h30, .ref h31, .ref h32, .ref h33, .ref h34, .ref h35, .ref h36, .int p10, .ref h37], la h20 k19 5 (vp_updL (vp_updL (vp_updL (vp_updL (vp_updL (vp_updL (vp_updL (vp_updL (vp_updL (vp_updL (vp_updL (vp_updL (vp_updL (vp_updL (vp_updL (vp_updL f19 0 0) 1 0) 2 0) 3 0) 4 0) 0 0) 0 0) 0 0) 0 0) 0 262144) 0 33816576) 0 4328783872) 0 554084597760) 0 70922828775424) 0 9078122083516416) 0 1161999626690363392)]) hP hD rfl hS hA [1, 2] (by decide +kernel) rfl
  have hKc := hK.sub (tys' := [(k19, .long)]) [1] rfl
  refine va_callv (va_runV (As := [.long 64, .int 7]) (rest := []) ⟨hx, hb, hml, hown, hw⟩ (c_Ref_bits_v12 l dC dI h0 64 p0 p1 h1 h2 h3 h4 h5 h6 h7 h8 h9 h10 h11 h12 p2 h13 h14 h15 h16 2 p4 h17 h18 h19 p5 h20 p7 h21 h22 h23 h24 h25 h26 h27 h28 p8 p9 h29 h30 h31 h32 h33 h34 h35 h36 p10 h37 k19 (vp_updL (vp_updL (vp_updL (vp_updL (vp_updL (vp_updL (vp_updL (vp_updL (vp_updL (vp_updL (vp_updL (vp_updL (vp_updL (vp_updL (vp_updL (vp_updL f19 0 0) 1 0) 2 0) 3 0) 4 0) 0 0) 0 0) 0 0) 0 0) 0 262144) 0 33816576) 0 4328783872) 0 554084597760) 0 70922828775424) 0 9078122083516416) 0 1161999626690363392) H.size) (cw_V 2 hw g_Ref_bits rfl rfl rfl (hw _ m_109) (hw _ m_1093) (hw _ m_1095) (hw _ m_58) (by decide +kernel) ⟨Nat.le_of_ble_eq_true rfl, Nat.le_of_ble_eq_true rfl⟩) ⟨fun a U g mk q => by obtain ⟨q0, q1, qP, qK, qD, qN⟩ := q; exact ⟨q0, q1, qP, va_K.moved (u := U) (U := U.calling g mk a) (Vm.Alike.refl U.vm) qK, qD, nw_call qN⟩, va_recv hKc hPc (ci := 8) (q0 := 0) rfl rfl, fun U hU hW => ⟨rfl, by rw [hU], by rw [hU]; exact hPc, va_K.moved hW.alike hKc, hDc.weaken (fun _ _ _ _ => trivial), nw_warm hW hn⟩⟩ rfl rfl hl.1 rfl (lv_room (Nat.le_of_ble_eq_true rfl)) d_Ref_encode_73 ⟨Nat.le_of_ble_eq_true rfl, Nat.le_of_ble_eq_true rfl⟩) hS (fun q _ h => hFc q h) hFc ?_
  intro u t H1 locs1 ht hvm hw1 hB hz1 hk1 hS1
  obtain ⟨hP1, hK1, hD1⟩ := hB
  rw [ht] at hP1
  replace hK1 := va_K.moved hvm.symm hK1
  have hPD := join3 hP hD rfl [1, 2] [0] rfl (by rfl) (by decide +kernel) (by decide +kernel) hk1 hFc hP1 hD1
  replace hK : va_K (dC, dI) classes [(k13, .int), (k19, .long)] s := hK.app hK1
  clear hP1 hK1 hD1 hk1 hz1 hFc hKc hDc hPc hvm ht hP hS t locs H
  have hP : va_P (dC, dI) classes [ia h14 k13 155 (fun _ => 0), oc h0 8 [.int p0, .int p1, .ref h1, .ref h2, .ref h3, .ref h4, .ref h5, .ref h6, .ref h7, .ref h8, .ref h9, .ref h10, .ref h11, .ref h12, .int p2, .ref h13, .ref h14, .ref h15, .ref h16, .int 2, .int p4, .ref h17, .ref h18, .ref h19, .int p5, .ref h20, .int 68, .int p7, .ref h21, .ref h22, .ref h23, .ref h24, .ref h25, .ref h26, .ref h27, .ref h28, .int p8, .int p9, .ref h29, .ref h30, .ref h31, .ref h32, .ref h33, .ref h34, .ref h35, .ref h36, .int p10, .ref h37], la h20 k19 5 (vp_updL (vp_updL (vp_updL (vp_updL (vp_updL (vp_updL (vp_updL (vp_updL (vp_updL (vp_updL (vp_updL (vp_updL (vp_updL (vp_updL (vp_updL (vp_updL (vp_updL (vp_updL f19 0 0) 1 0) 2 0) 3 0) 4 0) 0 0) 0 0) 0 0) 0 0) 0 262144) 0 33816576) 0 4328783872) 0 554084597760) 0 70922828775424) 0 9078122083516416) 0 1161999626690363392) 0 ((1161999626690363392 : Int64) ||| ((64 : Int64) <<< (((61 : Int32) : Int32).toInt64 &&& 63)))) 1 ((0 : Int64) ||| (((64 : Int64).toUInt64 >>> (((3 : Int32) : Int32).toInt64.toUInt64 &&& Int64.toUInt64 63)).toInt64)))] H1 := hPD.1
  rw [show (((0 : Int64) ||| (((64 : Int64).toUInt64 >>> (((3 : Int32) : Int32).toInt64.toUInt64 &&& Int64.toUInt64 63)).toInt64) : Int64)) = 8 from by decide] at hP
  rw [show (((1161999626690363392 : Int64) ||| ((64 : Int64) <<< (((61 : Int32) : Int32).toInt64 &&& 63)) : Int64)) = 1161999626690363392 from by decide] at hP
  replace hD : dd A [h14, h0, h20] := dd_of hPD.2 rfl
  clear hPD
  revert H1 locs1
  intro H locs hS hP
  clear hw1 u
  refine tp_pc (pc' := 76) (by rfl) ?_
  refine lv_iinc (v := 8) (lv' := [(1, .int 8), (0, .ref h0)]) hx hb d_Ref_encode_76 hl (k := 0) rfl (by first | rfl | decide) (by decide) rfl ?_
  clear hl ls
  intro ls hl
  refine lv_goto (tgt := 52) hx hb d_Ref_encode_79 (by decide) ?_
  refine tp_pc (pc' := 52) (by rfl) ?_
  refine lv_iload_n hx hb d_Ref_encode_52 rfl (lv_at hl 0 rfl) ?_
  refine lv_bipush (v := 8) hx hb d_Ref_encode_53 (by decide) ?_
  refine lv_icmp_ge (tgt := 82) hx hb d_Ref_encode_55 (by decide) (fun c_32 => ?_) (fun c_32 => absurd c_32 (by decide))
  refine tp_pc (pc' := 82) (by rfl) ?_
  refine lv_aload_n hx hb d_Ref_encode_82 rfl (lv_at hl 1 rfl) ?_
  refine va_get (D := (dC, dI)) (ci := 8) (v := .int 2) (C := R_Ref) (T := F_Ref) (N := 48) hx hb hw i_Ref hown hK hP 1 rfl rfl 19 (by decide) (hw _ m_918) (fun _ h9 => h9) rfl d_Ref_encode_83 ?_
  refine lv_iconst (v := 3) hx hb d_Ref_encode_86 (by decide) ?_
  refine lv_icmp_ne (tgt := 95) hx hb d_Ref_encode_87 (by decide) (fun c_33 => ?_) (fun c_33 => absurd c_33 (by decide))
  refine tp_pc (pc' := 95) (by rfl) ?_
  refine lv_iconst (v := 0) hx hb d_Ref_encode_95 (by decide) ?_
  refine lv_istore_n (lv' := [(1, .int 0), (0, .ref h0)]) hx hb d_Ref_encode_96 rfl hl (by decide) rfl ?_
  clear hl ls
  intro ls hl
  refine lv_iload_n hx hb d_Ref_encode_97 rfl (lv_at hl 0 rfl) ?_
  refine lv_iconst (v := 3) hx hb d_Ref_encode_98 (by decide) ?_
  refine lv_icmp_ge (tgt := 127) hx hb d_Ref_encode_99 (by decide) (fun c_34 => absurd c_34 (by decide)) (fun c_34 => ?_)
  refine tp_pc (pc' := 102) (by rfl) ?_
  refine lv_aload_n hx hb d_Ref_encode_102 rfl (lv_at hl 1 rfl) ?_
  refine lv_aload_n hx hb d_Ref_encode_103 rfl (lv_at hl 1 rfl) ?_
  refine va_get (D := (dC, dI)) (ci := 8) (v := .ref h14) (C := R_Ref) (T := F_Ref) (N := 48) hx hb hw i_Ref hown hK hP 1 rfl rfl 16 (by decide) (hw _ m_915) (fun _ h9 => h9) rfl d_Ref_encode_104 ?_
  refine lv_bipush (v := 12) hx hb d_Ref_encode_107 (by decide) ?_
  refine lv_iload_n hx hb d_Ref_encode_109 rfl (lv_at hl 0 rfl) ?_
  refine lv_iadd hx hb d_Ref_encode_110 ?_
  refine tp_i (y := 12) (by first | rfl | decide) ?_
  refine va_iald (D := (dC, dI)) hx hb hK hP 0 0 rfl rfl (i := 12) (vp_c (by decide)) d_Ref_encode_111 ?_
  refine tp_i (y := 0) (by first | rfl | decide) ?_
  refine lv_bipush (v := 64) hx hb d_Ref_encode_112 (by decide) ?_
  refine lv_iadd hx hb d_Ref_encode_114 ?_
  refine tp_i (y := 64) (by first | rfl | decide) ?_
  refine lv_i2l (v := 64) hx hb d_Ref_encode_115 (by decide) ?_
  refine lv_bipush (v := 7) hx hb d_Ref_encode_116 (by decide) ?_
  obtain ⟨hPc, hDc, hFc⟩ := cut3 (wc := [oc h0 8 [.int p0, .int p1, .ref h1, .ref h2, .ref h3, .ref h4, .ref h5, .ref h6, .ref h7, .ref h8, .ref h9, .ref h10, .ref h11, .ref h12, .int p2, .ref h13, .ref h14, .ref h15, .ref h16, .int 2, .int p4, .ref h17, .ref h18, .ref h19, .int p5, .ref h20, .int 68, .int p7, .ref h21, .ref h22, .ref h23, .ref h24, .ref h25, .ref h26, .ref h27, .ref h28, .int p8, .int p9, .ref h29, .ref h30, .ref h31, .ref h32, .ref h33, .ref h34, .ref h35, .ref h36, .int p10, .ref h37], la h20 k19 5 (vp_updL (vp_updL (vp_updL (vp_updL (vp_updL (vp_updL (vp_updL (vp_updL (vp_updL (vp_updL (vp_updL (vp_updL (vp_updL (vp_updL (vp_updL (vp_updL (vp_updL (vp_updL f19 0 0) 1 0) 2 0) 3 0) 4 0) 0 0) 0 0) 0 0) 0 0) 0 262144) 0 33816576) 0 4328783872) 0 554084597760) 0 70922828775424) 0 9078122083516416) 0 1161999626690363392) 0 1161999626690363392) 1 8)]) hP hD rfl hS hA [1, 2] (by decide +kernel) rfl
  have hKc := hK.sub (tys' := [(k19, .long)]) [1] rfl
  refine va_callv (va_runV (As := [.long 64, .int 7]) (rest := []) ⟨hx, hb, hml, hown, hw⟩ (c_Ref_bits_v13 l dC dI h0 64 p0 p1 h1 h2 h3 h4 h5 h6 h7 h8 h9 h10 h11 h12 p2 h13 h14 h15 h16 2 p4 h17 h18 h19 p5 h20 p7 h21 h22 h23 h24 h25 h26 h27 h28 p8 p9 h29 h30 h31 h32 h33 h34 h35 h36 p10 h37 k19 (vp_updL (vp_updL (vp_updL (vp_updL (vp_updL (vp_updL (vp_updL (vp_updL (vp_updL (vp_updL (vp_updL (vp_updL (vp_updL (vp_updL (vp_updL (vp_updL (vp_updL (vp_updL f19 0 0) 1 0) 2 0) 3 0) 4 0) 0 0) 0 0) 0 0) 0 0) 0 262144) 0 33816576) 0 4328783872) 0 554084597760) 0 70922828775424) 0 9078122083516416) 0 1161999626690363392) 0 1161999626690363392) 1 8) H.size) (cw_V 2 hw g_Ref_bits rfl rfl rfl (hw _ m_109) (hw _ m_1093) (hw _ m_1095) (hw _ m_58) (by decide +kernel) ⟨Nat.le_of_ble_eq_true rfl, Nat.le_of_ble_eq_true rfl⟩) ⟨fun a U g mk q => by obtain ⟨q0, q1, qP, qK, qD, qN⟩ := q; exact ⟨q0, q1, qP, va_K.moved (u := U) (U := U.calling g mk a) (Vm.Alike.refl U.vm) qK, qD, nw_call qN⟩, va_recv hKc hPc (ci := 8) (q0 := 0) rfl rfl, fun U hU hW => ⟨rfl, by rw [hU], by rw [hU]; exact hPc, va_K.moved hW.alike hKc, hDc.weaken (fun _ _ _ _ => trivial), nw_warm hW hn⟩⟩ rfl rfl hl.1 rfl (lv_room (Nat.le_of_ble_eq_true rfl)) d_Ref_encode_118 ⟨Nat.le_of_ble_eq_true rfl, Nat.le_of_ble_eq_true rfl⟩) hS (fun q _ h => hFc q h) hFc ?_
  intro u t H1 locs1 ht hvm hw1 hB hz1 hk1 hS1
  obtain ⟨hP1, hK1, hD1⟩ := hB
  rw [ht] at hP1
  replace hK1 := va_K.moved hvm.symm hK1
  have hPD := join3 hP hD rfl [1, 2] [0] rfl (by rfl) (by decide +kernel) (by decide +kernel) hk1 hFc hP1 hD1
  replace hK : va_K (dC, dI) classes [(k13, .int), (k19, .long)] s := hK.app hK1
  clear hP1 hK1 hD1 hk1 hz1 hFc hKc hDc hPc hvm ht hP hS t locs H
  have hP : va_P (dC, dI) classes [ia h14 k13 155 (fun _ => 0), oc h0 8 [.int p0, .int p1, .ref h1, .ref h2, .ref h3, .ref h4, .ref h5, .ref h6, .ref h7, .ref h8, .ref h9, .ref h10, .ref h11, .ref h12, .int p2, .ref h13, .ref h14, .ref h15, .ref h16, .int 2, .int p4, .ref h17, .ref h18, .ref h19, .int p5, .ref h20, .int 75, .int p7, .ref h21, .ref h22, .ref h23, .ref h24, .ref h25, .ref h26, .ref h27, .ref h28, .int p8, .int p9, .ref h29, .ref h30, .ref h31, .ref h32, .ref h33, .ref h34, .ref h35, .ref h36, .int p10, .ref h37], la h20 k19 5 (vp_updL (vp_updL (vp_updL (vp_updL (vp_updL (vp_updL (vp_updL (vp_updL (vp_updL (vp_updL (vp_updL (vp_updL (vp_updL (vp_updL (vp_updL (vp_updL (vp_updL (vp_updL (vp_updL f19 0 0) 1 0) 2 0) 3 0) 4 0) 0 0) 0 0) 0 0) 0 0) 0 262144) 0 33816576) 0 4328783872) 0 554084597760) 0 70922828775424) 0 9078122083516416) 0 1161999626690363392) 0 1161999626690363392) 1 8) 1 ((8 : Int64) ||| ((64 : Int64) <<< (((4 : Int32) : Int32).toInt64 &&& 63))))] H1 := hPD.1
  rw [show (((8 : Int64) ||| ((64 : Int64) <<< (((4 : Int32) : Int32).toInt64 &&& 63)) : Int64)) = 1032 from by decide] at hP
  replace hD : dd A [h14, h0, h20] := dd_of hPD.2 rfl
  clear hPD
  revert H1 locs1
  intro H locs hS hP
  clear hw1 u
  refine tp_pc (pc' := 121) (by rfl) ?_
  refine lv_iinc (v := 1) (lv' := [(1, .int 1), (0, .ref h0)]) hx hb d_Ref_encode_121 hl (k := 0) rfl (by first | rfl | decide) (by decide) rfl ?_
  clear hl ls
  intro ls hl
  refine lv_goto (tgt := 97) hx hb d_Ref_encode_124 (by decide) ?_
  refine tp_pc (pc' := 97) (by rfl) ?_
  refine lv_iload_n hx hb d_Ref_encode_97 rfl (lv_at hl 0 rfl) ?_
  refine lv_iconst (v := 3) hx hb d_Ref_encode_98 (by decide) ?_
  refine lv_icmp_ge (tgt := 127) hx hb d_Ref_encode_99 (by decide) (fun c_36 => absurd c_36 (by decide)) (fun c_36 => ?_)
  refine tp_pc (pc' := 102) (by rfl) ?_
  refine lv_aload_n hx hb d_Ref_encode_102 rfl (lv_at hl 1 rfl) ?_
  refine lv_aload_n hx hb d_Ref_encode_103 rfl (lv_at hl 1 rfl) ?_
  refine va_get (D := (dC, dI)) (ci := 8) (v := .ref h14) (C := R_Ref) (T := F_Ref) (N := 48) hx hb hw i_Ref hown hK hP 1 rfl rfl 16 (by decide) (hw _ m_915) (fun _ h9 => h9) rfl d_Ref_encode_104 ?_
  refine lv_bipush (v := 12) hx hb d_Ref_encode_107 (by decide) ?_
  refine lv_iload_n hx hb d_Ref_encode_109 rfl (lv_at hl 0 rfl) ?_
  refine lv_iadd hx hb d_Ref_encode_110 ?_
  refine tp_i (y := 13) (by first | rfl | decide) ?_
  refine va_iald (D := (dC, dI)) hx hb hK hP 0 0 rfl rfl (i := 13) (vp_c (by decide)) d_Ref_encode_111 ?_
  refine tp_i (y := 0) (by first | rfl | decide) ?_
  refine lv_bipush (v := 64) hx hb d_Ref_encode_112 (by decide) ?_
  refine lv_iadd hx hb d_Ref_encode_114 ?_
  refine tp_i (y := 64) (by first | rfl | decide) ?_
  refine lv_i2l (v := 64) hx hb d_Ref_encode_115 (by decide) ?_
  refine lv_bipush (v := 7) hx hb d_Ref_encode_116 (by decide) ?_
  obtain ⟨hPc, hDc, hFc⟩ := cut3 (wc := [oc h0 8 [.int p0, .int p1, .ref h1, .ref h2, .ref h3, .ref h4, .ref h5, .ref h6, .ref h7, .ref h8, .ref h9, .ref h10, .ref h11, .ref h12, .int p2, .ref h13, .ref h14, .ref h15, .ref h16, .int 2, .int p4, .ref h17, .ref h18, .ref h19, .int p5, .ref h20, .int 75, .int p7, .ref h21, .ref h22, .ref h23, .ref h24, .ref h25, .ref h26, .ref h27, .ref h28, .int p8, .int p9, .ref h29, .ref h30, .ref h31, .ref h32, .ref h33, .ref h34, .ref h35, .ref h36, .int p10, .ref h37], la h20 k19 5 (vp_updL (vp_updL (vp_updL (vp_updL (vp_updL (vp_updL (vp_updL (vp_updL (vp_updL (vp_updL (vp_updL (vp_updL (vp_updL (vp_updL (vp_updL (vp_updL (vp_updL (vp_updL (vp_updL f19 0 0) 1 0) 2 0) 3 0) 4 0) 0 0) 0 0) 0 0) 0 0) 0 262144) 0 33816576) 0 4328783872) 0 554084597760) 0 70922828775424) 0 9078122083516416) 0 1161999626690363392) 0 1161999626690363392) 1 8) 1 1032)]) hP hD rfl hS hA [1, 2] (by decide +kernel) rfl
  have hKc := hK.sub (tys' := [(k19, .long)]) [1] rfl
  refine va_callv (va_runV (As := [.long 64, .int 7]) (rest := []) ⟨hx, hb, hml, hown, hw⟩ (c_Ref_bits_v14 l dC dI h0 64 p0 p1 h1 h2 h3 h4 h5 h6 h7 h8 h9 h10 h11 h12 p2 h13 h14 h15 h16 2 p4 h17 h18 h19 p5 h20 p7 h21 h22 h23 h24 h25 h26 h27 h28 p8 p9 h29 h30 h31 h32 h33 h34 h35 h36 p10 h37 k19 (vp_updL (vp_updL (vp_updL (vp_updL (vp_updL (vp_updL (vp_updL (vp_updL (vp_updL (vp_updL (vp_updL (vp_updL (vp_updL (vp_updL (vp_updL (vp_updL (vp_updL (vp_updL (vp_updL f19 0 0) 1 0) 2 0) 3 0) 4 0) 0 0) 0 0) 0 0) 0 0) 0 262144) 0 33816576) 0 4328783872) 0 554084597760) 0 70922828775424) 0 9078122083516416) 0 1161999626690363392) 0 1161999626690363392) 1 8) 1 1032) H.size) (cw_V 2 hw g_Ref_bits rfl rfl rfl (hw _ m_109) (hw _ m_1093) (hw _ m_1095) (hw _ m_58) (by decide +kernel) ⟨Nat.le_of_ble_eq_true rfl, Nat.le_of_ble_eq_true rfl⟩) ⟨fun a U g mk q => by obtain ⟨q0, q1, qP, qK, qD, qN⟩ := q; exact ⟨q0, q1, qP, va_K.moved (u := U) (U := U.calling g mk a) (Vm.Alike.refl U.vm) qK, qD, nw_call qN⟩, va_recv hKc hPc (ci := 8) (q0 := 0) rfl rfl, fun U hU hW => ⟨rfl, by rw [hU], by rw [hU]; exact hPc, va_K.moved hW.alike hKc, hDc.weaken (fun _ _ _ _ => trivial), nw_warm hW hn⟩⟩ rfl rfl hl.1 rfl (lv_room (Nat.le_of_ble_eq_true rfl)) d_Ref_encode_118 ⟨Nat.le_of_ble_eq_true rfl, Nat.le_of_ble_eq_true rfl⟩) hS (fun q _ h => hFc q h) hFc ?_
  intro u t H1 locs1 ht hvm hw1 hB hz1 hk1 hS1
  obtain ⟨hP1, hK1, hD1⟩ := hB
  rw [ht] at hP1
  replace hK1 := va_K.moved hvm.symm hK1
  have hPD := join3 hP hD rfl [1, 2] [0] rfl (by rfl) (by decide +kernel) (by decide +kernel) hk1 hFc hP1 hD1
  replace hK : va_K (dC, dI) classes [(k13, .int), (k19, .long)] s := hK.app hK1
  clear hP1 hK1 hD1 hk1 hz1 hFc hKc hDc hPc hvm ht hP hS t locs H
  have hP : va_P (dC, dI) classes [ia h14 k13 155 (fun _ => 0), oc h0 8 [.int p0, .int p1, .ref h1, .ref h2, .ref h3, .ref h4, .ref h5, .ref h6, .ref h7, .ref h8, .ref h9, .ref h10, .ref h11, .ref h12, .int p2, .ref h13, .ref h14, .ref h15, .ref h16, .int 2, .int p4, .ref h17, .ref h18, .ref h19, .int p5, .ref h20, .int 82, .int p7, .ref h21, .ref h22, .ref h23, .ref h24, .ref h25, .ref h26, .ref h27, .ref h28, .int p8, .int p9, .ref h29, .ref h30, .ref h31, .ref h32, .ref h33, .ref h34, .ref h35, .ref h36, .int p10, .ref h37], la h20 k19 5 (vp_updL (vp_updL (vp_updL (vp_updL (vp_updL (vp_updL (vp_updL (vp_updL (vp_updL (vp_updL (vp_updL (vp_updL (vp_updL (vp_updL (vp_updL (vp_updL (vp_updL (vp_updL (vp_updL (vp_updL f19 0 0) 1 0) 2 0) 3 0) 4 0) 0 0) 0 0) 0 0) 0 0) 0 262144) 0 33816576) 0 4328783872) 0 554084597760) 0 70922828775424) 0 9078122083516416) 0 1161999626690363392) 0 1161999626690363392) 1 8) 1 1032) 1 ((1032 : Int64) ||| ((64 : Int64) <<< (((11 : Int32) : Int32).toInt64 &&& 63))))] H1 := hPD.1
  rw [show (((1032 : Int64) ||| ((64 : Int64) <<< (((11 : Int32) : Int32).toInt64 &&& 63)) : Int64)) = 132104 from by decide] at hP
  replace hD : dd A [h14, h0, h20] := dd_of hPD.2 rfl
  clear hPD
  revert H1 locs1
  intro H locs hS hP
  clear hw1 u
  refine tp_pc (pc' := 121) (by rfl) ?_
  refine lv_iinc (v := 2) (lv' := [(1, .int 2), (0, .ref h0)]) hx hb d_Ref_encode_121 hl (k := 0) rfl (by first | rfl | decide) (by decide) rfl ?_
  clear hl ls
  intro ls hl
  refine lv_goto (tgt := 97) hx hb d_Ref_encode_124 (by decide) ?_
  refine tp_pc (pc' := 97) (by rfl) ?_
  refine lv_iload_n hx hb d_Ref_encode_97 rfl (lv_at hl 0 rfl) ?_
  refine lv_iconst (v := 3) hx hb d_Ref_encode_98 (by decide) ?_
  refine lv_icmp_ge (tgt := 127) hx hb d_Ref_encode_99 (by decide) (fun c_38 => absurd c_38 (by decide)) (fun c_38 => ?_)
  refine tp_pc (pc' := 102) (by rfl) ?_
  refine lv_aload_n hx hb d_Ref_encode_102 rfl (lv_at hl 1 rfl) ?_
  refine lv_aload_n hx hb d_Ref_encode_103 rfl (lv_at hl 1 rfl) ?_
  refine va_get (D := (dC, dI)) (ci := 8) (v := .ref h14) (C := R_Ref) (T := F_Ref) (N := 48) hx hb hw i_Ref hown hK hP 1 rfl rfl 16 (by decide) (hw _ m_915) (fun _ h9 => h9) rfl d_Ref_encode_104 ?_
  refine lv_bipush (v := 12) hx hb d_Ref_encode_107 (by decide) ?_
  refine lv_iload_n hx hb d_Ref_encode_109 rfl (lv_at hl 0 rfl) ?_
  refine lv_iadd hx hb d_Ref_encode_110 ?_
  refine tp_i (y := 14) (by first | rfl | decide) ?_
  refine va_iald (D := (dC, dI)) hx hb hK hP 0 0 rfl rfl (i := 14) (vp_c (by decide)) d_Ref_encode_111 ?_
  refine tp_i (y := 0) (by first | rfl | decide) ?_
  refine lv_bipush (v := 64) hx hb d_Ref_encode_112 (by decide) ?_
  refine lv_iadd hx hb d_Ref_encode_114 ?_
  refine tp_i (y := 64) (by first | rfl | decide) ?_
  refine lv_i2l (v := 64) hx hb d_Ref_encode_115 (by decide) ?_
  refine lv_bipush (v := 7) hx hb d_Ref_encode_116 (by decide) ?_
  obtain ⟨hPc, hDc, hFc⟩ := cut3 (wc := [oc h0 8 [.int p0, .int p1, .ref h1, .ref h2, .ref h3, .ref h4, .ref h5, .ref h6, .ref h7, .ref h8, .ref h9, .ref h10, .ref h11, .ref h12, .int p2, .ref h13, .ref h14, .ref h15, .ref h16, .int 2, .int p4, .ref h17, .ref h18, .ref h19, .int p5, .ref h20, .int 82, .int p7, .ref h21, .ref h22, .ref h23, .ref h24, .ref h25, .ref h26, .ref h27, .ref h28, .int p8, .int p9, .ref h29, .ref h30, .ref h31, .ref h32, .ref h33, .ref h34, .ref h35, .ref h36, .int p10, .ref h37], la h20 k19 5 (vp_updL (vp_updL (vp_updL (vp_updL (vp_updL (vp_updL (vp_updL (vp_updL (vp_updL (vp_updL (vp_updL (vp_updL (vp_updL (vp_updL (vp_updL (vp_updL (vp_updL (vp_updL (vp_updL (vp_updL f19 0 0) 1 0) 2 0) 3 0) 4 0) 0 0) 0 0) 0 0) 0 0) 0 262144) 0 33816576) 0 4328783872) 0 554084597760) 0 70922828775424) 0 9078122083516416) 0 1161999626690363392) 0 1161999626690363392) 1 8) 1 1032) 1 132104)]) hP hD rfl hS hA [1, 2] (by decide +kernel) rfl
  have hKc := hK.sub (tys' := [(k19, .long)]) [1] rfl
  refine va_callv (va_runV (As := [.long 64, .int 7]) (rest := []) ⟨hx, hb, hml, hown, hw⟩ (c_Ref_bits_v15 l dC dI h0 64 p0 p1 h1 h2 h3 h4 h5 h6 h7 h8 h9 h10 h11 h12 p2 h13 h14 h15 h16 2 p4 h17 h18 h19 p5 h20 p7 h21 h22 h23 h24 h25 h26 h27 h28 p8 p9 h29 h30 h31 h32 h33 h34 h35 h36 p10 h37 k19 (vp_updL (vp_updL (vp_updL (vp_updL (vp_updL (vp_updL (vp_updL (vp_updL (vp_updL (vp_updL (vp_updL (vp_updL (vp_updL (vp_updL (vp_updL (vp_updL (vp_updL (vp_updL (vp_updL (vp_updL f19 0 0) 1 0) 2 0) 3 0) 4 0) 0 0) 0 0) 0 0) 0 0) 0 262144) 0 33816576) 0 4328783872) 0 554084597760) 0 70922828775424) 0 9078122083516416) 0 1161999626690363392) 0 1161999626690363392) 1 8) 1 1032) 1 132104) H.size) (cw_V 2 hw g_Ref_bits rfl rfl rfl (hw _ m_109) (hw _ m_1093) (hw _ m_1095) (hw _ m_58) (by decide +kernel) ⟨Nat.le_of_ble_eq_true rfl, Nat.le_of_ble_eq_true rfl⟩) ⟨fun a U g mk q => by obtain ⟨q0, q1, qP, qK, qD, qN⟩ := q; exact ⟨q0, q1, qP, va_K.moved (u := U) (U := U.calling g mk a) (Vm.Alike.refl U.vm) qK, qD, nw_call qN⟩, va_recv hKc hPc (ci := 8) (q0 := 0) rfl rfl, fun U hU hW => ⟨rfl, by rw [hU], by rw [hU]; exact hPc, va_K.moved hW.alike hKc, hDc.weaken (fun _ _ _ _ => trivial), nw_warm hW hn⟩⟩ rfl rfl hl.1 rfl (lv_room (Nat.le_of_ble_eq_true rfl)) d_Ref_encode_118 ⟨Nat.le_of_ble_eq_true rfl, Nat.le_of_ble_eq_true rfl⟩) hS (fun q _ h => hFc q h) hFc ?_
  intro u t H1 locs1 ht hvm hw1 hB hz1 hk1 hS1
  obtain ⟨hP1, hK1, hD1⟩ := hB
  rw [ht] at hP1
  replace hK1 := va_K.moved hvm.symm hK1
  have hPD := join3 hP hD rfl [1, 2] [0] rfl (by rfl) (by decide +kernel) (by decide +kernel) hk1 hFc hP1 hD1
  replace hK : va_K (dC, dI) classes [(k13, .int), (k19, .long)] s := hK.app hK1
  clear hP1 hK1 hD1 hk1 hz1 hFc hKc hDc hPc hvm ht hP hS t locs H
  have hP : va_P (dC, dI) classes [ia h14 k13 155 (fun _ => 0), oc h0 8 [.int p0, .int p1, .ref h1, .ref h2, .ref h3, .ref h4, .ref h5, .ref h6, .ref h7, .ref h8, .ref h9, .ref h10, .ref h11, .ref h12, .int p2, .ref h13, .ref h14, .ref h15, .ref h16, .int 2, .int p4, .ref h17, .ref h18, .ref h19, .int p5, .ref h20, .int 89, .int p7, .ref h21, .ref h22, .ref h23, .ref h24, .ref h25, .ref h26, .ref h27, .ref h28, .int p8, .int p9, .ref h29, .ref h30, .ref h31, .ref h32, .ref h33, .ref h34, .ref h35, .ref h36, .int p10, .ref h37], la h20 k19 5 (vp_updL (vp_updL (vp_updL (vp_updL (vp_updL (vp_updL (vp_updL (vp_updL (vp_updL (vp_updL (vp_updL (vp_updL (vp_updL (vp_updL (vp_updL (vp_updL (vp_updL (vp_updL (vp_updL (vp_updL (vp_updL f19 0 0) 1 0) 2 0) 3 0) 4 0) 0 0) 0 0) 0 0) 0 0) 0 262144) 0 33816576) 0 4328783872) 0 554084597760) 0 70922828775424) 0 9078122083516416) 0 1161999626690363392) 0 1161999626690363392) 1 8) 1 1032) 1 132104) 1 ((132104 : Int64) ||| ((64 : Int64) <<< (((18 : Int32) : Int32).toInt64 &&& 63))))] H1 := hPD.1
  rw [show (((132104 : Int64) ||| ((64 : Int64) <<< (((18 : Int32) : Int32).toInt64 &&& 63)) : Int64)) = 16909320 from by decide] at hP
  replace hD : dd A [h14, h0, h20] := dd_of hPD.2 rfl
  clear hPD
  revert H1 locs1
  intro H locs hS hP
  clear hw1 u
  refine tp_pc (pc' := 121) (by rfl) ?_
  refine lv_iinc (v := 3) (lv' := [(1, .int 3), (0, .ref h0)]) hx hb d_Ref_encode_121 hl (k := 0) rfl (by first | rfl | decide) (by decide) rfl ?_
  clear hl ls
  intro ls hl
  refine lv_goto (tgt := 97) hx hb d_Ref_encode_124 (by decide) ?_
  refine tp_pc (pc' := 97) (by rfl) ?_
  refine lv_iload_n hx hb d_Ref_encode_97 rfl (lv_at hl 0 rfl) ?_
  refine lv_iconst (v := 3) hx hb d_Ref_encode_98 (by decide) ?_
  refine lv_icmp_ge (tgt := 127) hx hb d_Ref_encode_99 (by decide) (fun c_40 => ?_) (fun c_40 => absurd c_40 (by decide))
  refine tp_pc (pc' := 127) (by rfl) ?_
  refine lv_iconst (v := 0) hx hb d_Ref_encode_127 (by decide) ?_
  refine lv_istore_n (lv' := [(1, .int 0), (0, .ref h0)]) hx hb d_Ref_encode_128 rfl hl (by decide) rfl ?_
  clear hl ls
  intro ls hl
  refine lv_iload_n hx hb d_Ref_encode_129 rfl (lv_at hl 0 rfl) ?_
  refine lv_iconst (v := 4) hx hb d_Ref_encode_130 (by decide) ?_
  refine lv_icmp_ge (tgt := 313) hx hb d_Ref_encode_131 (by decide) (fun c_41 => absurd c_41 (by decide)) (fun c_41 => ?_)
  refine tp_pc (pc' := 134) (by rfl) ?_
  refine lv_aload_n hx hb d_Ref_encode_134 rfl (lv_at hl 1 rfl) ?_
  refine va_get (D := (dC, dI)) (ci := 8) (v := .int 2) (C := R_Ref) (T := F_Ref) (N := 48) hx hb hw i_Ref hown hK hP 1 rfl rfl 19 (by decide) (hw _ m_918) (fun _ h9 => h9) rfl d_Ref_encode_135 ?_
  refine lv_if_le (tgt := 313) hx hb d_Ref_encode_138 (by decide) (fun c_42 => absurd c_42 (by decide)) (fun c_42 => ?_)
  refine tp_pc (pc' := 141) (by rfl) ?_
  refine lv_aload_n hx hb d_Ref_encode_141 rfl (lv_at hl 1 rfl) ?_
  refine va_get (D := (dC, dI)) (ci := 8) (v := .int 2) (C := R_Ref) (T := F_Ref) (N := 48) hx hb hw i_Ref hown hK hP 1 rfl rfl 19 (by decide) (hw _ m_918) (fun _ h9 => h9) rfl d_Ref_encode_142 ?_
  refine lv_iconst (v := 1) hx hb d_Ref_encode_145 (by decide) ?_
  refine lv_icmp_ne (tgt := 153) hx hb d_Ref_encode_146 (by decide) (fun c_43 => ?_) (fun c_43 => absurd c_43 (by decide))
  refine tp_pc (pc' := 153) (by rfl) ?_
  refine lv_iconst (v := 0) hx hb d_Ref_encode_153 (by decide) ?_
  refine lv_istore_n (lv' := [(2, .int 0), (1, .int 0), (0, .ref h0)]) hx hb d_Ref_encode_154 rfl hl (by decide) rfl ?_
  clear hl ls
  intro ls hl
  refine lv_aload_n hx hb d_Ref_encode_155 rfl (lv_at hl 2 rfl) ?_
  refine va_get (D := (dC, dI)) (ci := 8) (v := .int 2) (C := R_Ref) (T := F_Ref) (N := 48) hx hb hw i_Ref hown hK hP 1 rfl rfl 19 (by decide) (hw _ m_918) (fun _ h9 => h9) rfl d_Ref_encode_156 ?_
  refine lv_iconst (v := 1) hx hb d_Ref_encode_159 (by decide) ?_
  refine lv_icmp_ne (tgt := 167) hx hb d_Ref_encode_160 (by decide) (fun c_44 => ?_) (fun c_44 => absurd c_44 (by decide))
  refine tp_pc (pc' := 167) (by rfl) ?_
  refine lv_iconst (v := 2) hx hb d_Ref_encode_167 (by decide) ?_
  refine lv_istore_n (lv' := [(3, .int 2), (2, .int 0), (1, .int 0), (0, .ref h0)]) hx hb d_Ref_encode_168 rfl hl (by decide) rfl ?_
  clear hl ls
  intro ls hl
  refine lv_iload_n hx hb d_Ref_encode_169 rfl (lv_at hl 1 rfl) ?_
  refine lv_istore (lv' := [(4, .int 0), (3, .int 2), (2, .int 0), (1, .int 0), (0, .ref h0)]) hx hb d_Ref_encode_170 hl (by decide) rfl ?_
  clear hl ls
  intro ls hl
  refine lv_iload hx hb d_Ref_encode_172 (lv_at hl 0 rfl) ?_
  refine lv_iload_n hx hb d_Ref_encode_174 rfl (lv_at hl 1 rfl) ?_
  refine lv_icmp_gt (tgt := 307) hx hb d_Ref_encode_175 (by decide) (fun c_45 => absurd c_45 (by decide)) (fun c_45 => ?_)
  refine tp_pc (pc' := 178) (by rfl) ?_
  refine lv_iconst (v := 0) hx hb d_Ref_encode_178 (by decide) ?_
  refine lv_istore (lv' := [(5, .int 0), (4, .int 0), (3, .int 2), (2, .int 0), (1, .int 0), (0, .ref h0)]) hx hb d_Ref_encode_179 hl (by decide) rfl ?_
  clear hl ls
  intro ls hl
  refine lv_iconst (v := 0) hx hb d_Ref_encode_181 (by decide) ?_
  refine lv_istore (lv' := [(6, .int 0), (5, .int 0), (4, .int 0), (3, .int 2), (2, .int 0), (1, .int 0), (0, .ref h0)]) hx hb d_Ref_encode_182 hl (by decide) rfl ?_
  clear hl ls
  intro ls hl
  refine lv_iload hx hb d_Ref_encode_184 (lv_at hl 0 rfl) ?_
  refine lv_aload_n hx hb d_Ref_encode_186 rfl (lv_at hl 6 rfl) ?_
  refine va_get (D := (dC, dI)) (ci := 8) (v := .ref h14) (C := R_Ref) (T := F_Ref) (N := 48) hx hb hw i_Ref hown hK hP 1 rfl rfl 16 (by decide) (hw _ m_915) (fun _ h9 => h9) rfl d_Ref_encode_187 ?_
  refine lv_bipush (v := 15) hx hb d_Ref_encode_190 (by decide) ?_
  refine va_iald (D := (dC, dI)) hx hb hK hP 0 0 rfl rfl (i := 15) (vp_c (by decide)) d_Ref_encode_192 ?_
  refine tp_i (y := 0) (by first | rfl | decide) ?_
  refine lv_icmp_ge (tgt := 224) hx hb d_Ref_encode_193 (by decide) (fun c_46 => ?_) (fun c_46 => absurd c_46 (by decide))
  refine tp_pc (pc' := 224) (by rfl) ?_
  refine lv_aload_n hx hb d_Ref_encode_224 rfl (lv_at hl 6 rfl) ?_
  refine lv_iload hx hb d_Ref_encode_225 (lv_at hl 1 rfl) ?_
  refine lv_i2l (v := 0) hx hb d_Ref_encode_227 (by decide) ?_
  refine lv_iconst (v := 3) hx hb d_Ref_encode_228 (by decide) ?_
  obtain ⟨hPc, hDc, hFc⟩ := cut3 (wc := [oc h0 8 [.int p0, .int p1, .ref h1, .ref h2, .ref h3, .ref h4, .ref h5, .ref h6, .ref h7, .ref h8, .ref h9, .ref h10, .ref h11, .ref h12, .int p2, .ref h13, .ref h14, .ref h15, .ref h16, .int 2, .int p4, .ref h17, .ref h18, .ref h19, .int p5, .ref h20, .int 89, .int p7, .ref h21, .ref h22, .ref h23, .ref h24, .ref h25, .ref h26, .ref h27, .ref h28, .int p8, .int p9, .ref h29, .ref h30, .ref h31, .ref h32, .ref h33, .ref h34, .ref h35, .ref h36, .int p10, .ref h37], la h20 k19 5 (vp_updL (vp_updL (vp_updL (vp_updL (vp_updL (vp_updL (vp_updL (vp_updL (vp_updL (vp_updL (vp_updL (vp_updL (vp_updL (vp_updL (vp_updL (vp_updL (vp_updL (vp_updL (vp_updL (vp_updL (vp_updL f19 0 0) 1 0) 2 0) 3 0) 4 0) 0 0) 0 0) 0 0) 0 0) 0 262144) 0 33816576) 0 4328783872) 0 554084597760) 0 70922828775424) 0 9078122083516416) 0 1161999626690363392) 0 1161999626690363392) 1 8) 1 1032) 1 132104) 1 16909320)]) hP hD rfl hS hA [1, 2] (by decide +kernel) rfl
  have hKc := hK.sub (tys' := [(k19, .long)]) [1] rfl
  refine va_callv (va_runV (As := [.long 0, .int 3]) (rest := []) ⟨hx, hb, hml, hown, hw⟩ (c_Ref_bits_v16 l dC dI h0 0 p0 p1 h1 h2 h3 h4 h5 h6 h7 h8 h9 h10 h11 h12 p2 h13 h14 h15 h16 2 p4 h17 h18 h19 p5 h20 p7 h21 h22 h23 h24 h25 h26 h27 h28 p8 p9 h29 h30 h31 h32 h33 h34 h35 h36 p10 h37 k19 (vp_updL (vp_updL (vp_updL (vp_updL (vp_updL (vp_updL (vp_updL (vp_updL (vp_updL (vp_updL (vp_updL (vp_updL (vp_updL (vp_updL (vp_updL (vp_updL (vp_updL (vp_updL (vp_updL (vp_updL (vp_updL f19 0 0) 1 0) 2 0) 3 0) 4 0) 0 0) 0 0) 0 0) 0 0) 0 262144) 0 33816576) 0 4328783872) 0 554084597760) 0 70922828775424) 0 9078122083516416) 0 1161999626690363392) 0 1161999626690363392) 1 8) 1 1032) 1 132104) 1 16909320) H.size) (cw_V 2 hw g_Ref_bits rfl rfl rfl (hw _ m_109) (hw _ m_1093) (hw _ m_1095) (hw _ m_58) (by decide +kernel) ⟨Nat.le_of_ble_eq_true rfl, Nat.le_of_ble_eq_true rfl⟩) ⟨fun a U g mk q => by obtain ⟨q0, q1, qP, qK, qD, qN⟩ := q; exact ⟨q0, q1, qP, va_K.moved (u := U) (U := U.calling g mk a) (Vm.Alike.refl U.vm) qK, qD, nw_call qN⟩, va_recv hKc hPc (ci := 8) (q0 := 0) rfl rfl, fun U hU hW => ⟨rfl, by rw [hU], by rw [hU]; exact hPc, va_K.moved hW.alike hKc, hDc.weaken (fun _ _ _ _ => trivial), nw_warm hW hn⟩⟩ rfl rfl hl.1 rfl (lv_room (Nat.le_of_ble_eq_true rfl)) d_Ref_encode_229 ⟨Nat.le_of_ble_eq_true rfl, Nat.le_of_ble_eq_true rfl⟩) hS (fun q _ h => hFc q h) hFc ?_
  intro u t H1 locs1 ht hvm hw1 hB hz1 hk1 hS1
  obtain ⟨hP1, hK1, hD1⟩ := hB
  rw [ht] at hP1
  replace hK1 := va_K.moved hvm.symm hK1
  have hPD := join3 hP hD rfl [1, 2] [0] rfl (by rfl) (by decide +kernel) (by decide +kernel) hk1 hFc hP1 hD1
  replace hK : va_K (dC, dI) classes [(k13, .int), (k19, .long)] s := hK.app hK1
  clear hP1 hK1 hD1 hk1 hz1 hFc hKc hDc hPc hvm ht hP hS t locs H
  have hP : va_P (dC, dI) classes [ia h14 k13 155 (fun _ => 0), oc h0 8 [.int p0, .int p1, .ref h1, .ref h2, .ref h3, .ref h4, .ref h5, .ref h6, .ref h7, .ref h8, .ref h9, .ref h10, .ref h11, .ref h12, .int p2, .ref h13, .ref h14, .ref h15, .ref h16, .int 2, .int p4, .ref h17, .ref h18, .ref h19, .int p5, .ref h20, .int 92, .int p7, .ref h21, .ref h22, .ref h23, .ref h24, .ref h25, .ref h26, .ref h27, .ref h28, .int p8, .int p9, .ref h29, .ref h30, .ref h31, .ref h32, .ref h33, .ref h34, .ref h35, .ref h36, .int p10, .ref h37], la h20 k19 5 (vp_updL (vp_updL (vp_updL (vp_updL (vp_updL (vp_updL (vp_updL (vp_updL (vp_updL (vp_updL (vp_updL (vp_updL (vp_updL (vp_updL (vp_updL (vp_updL (vp_updL (vp_updL (vp_updL (vp_updL (vp_updL (vp_updL f19 0 0) 1 0) 2 0) 3 0) 4 0) 0 0) 0 0) 0 0) 0 0) 0 262144) 0 33816576) 0 4328783872) 0 554084597760) 0 70922828775424) 0 9078122083516416) 0 1161999626690363392) 0 1161999626690363392) 1 8) 1 1032) 1 132104) 1 16909320) 1 ((16909320 : Int64) ||| ((0 : Int64) <<< (((25 : Int32) : Int32).toInt64 &&& 63))))] H1 := hPD.1
  rw [show (((16909320 : Int64) ||| ((0 : Int64) <<< (((25 : Int32) : Int32).toInt64 &&& 63)) : Int64)) = 16909320 from by decide] at hP
  replace hD : dd A [h14, h0, h20] := dd_of hPD.2 rfl
  clear hPD
  revert H1 locs1
  intro H locs hS hP
  clear hw1 u
  refine tp_pc (pc' := 232) (by rfl) ?_
  refine lv_iconst (v := 0) hx hb d_Ref_encode_232 (by decide) ?_
  refine lv_istore (lv' := [(6, .int 0), (5, .int 0), (4, .int 0), (3, .int 2), (2, .int 0), (1, .int 0), (0, .ref h0)]) hx hb d_Ref_encode_233 hl (by decide) rfl ?_
  clear hl ls
  intro ls hl
  refine lv_iload hx hb d_Ref_encode_235 (lv_at hl 0 rfl) ?_
  refine lv_aload_n hx hb d_Ref_encode_237 rfl (lv_at hl 6 rfl) ?_
  refine va_get (D := (dC, dI)) (ci := 8) (v := .ref h14) (C := R_Ref) (T := F_Ref) (N := 48) hx hb hw i_Ref hown hK hP 1 rfl rfl 16 (by decide) (hw _ m_915) (fun _ h9 => h9) rfl d_Ref_encode_238 ?_
  refine lv_bipush (v := 15) hx hb d_Ref_encode_241 (by decide) ?_
  refine va_iald (D := (dC, dI)) hx hb hK hP 0 0 rfl rfl (i := 15) (vp_c (by decide)) d_Ref_encode_243 ?_
  refine tp_i (y := 0) (by first | rfl | decide) ?_
  refine lv_icmp_ge (tgt := 301) hx hb d_Ref_encode_244 (by decide) (fun c_48 => ?_) (fun c_48 => absurd c_48 (by decide))
  refine tp_pc (pc' := 301) (by rfl) ?_
  refine lv_iinc (v := 1) (lv' := [(4, .int 1), (6, .int 0), (5, .int 0), (3, .int 2), (2, .int 0), (1, .int 0), (0, .ref h0)]) hx hb d_Ref_encode_301 hl (k := 2) rfl (by first | rfl | decide) (by decide) rfl ?_
  clear hl ls
  intro ls hl
  refine lv_goto (tgt := 172) hx hb d_Ref_encode_304 (by decide) ?_
  refine tp_pc (pc' := 172) (by rfl) ?_
  refine lv_iload hx hb d_Ref_encode_172 (lv_at hl 0 rfl) ?_
  refine lv_iload_n hx hb d_Ref_encode_174 rfl (lv_at hl 3 rfl) ?_
  refine lv_icmp_gt (tgt := 307) hx hb d_Ref_encode_175 (by decide) (fun c_49 => absurd c_49 (by decide)) (fun c_49 => ?_)
  refine tp_pc (pc' := 178) (by rfl) ?_
  refine lv_iconst (v := 0) hx hb d_Ref_encode_178 (by decide) ?_
  refine lv_istore (lv' := [(5, .int 0), (4, .int 1), (6, .int 0), (3, .int 2), (2, .int 0), (1, .int 0), (0, .ref h0)]) hx hb d_Ref_encode_179 hl (by decide) rfl ?_
  clear hl ls
  intro ls hl
  refine lv_iconst (v := 0) hx hb d_Ref_encode_181 (by decide) ?_
  refine lv_istore (lv' := [(6, .int 0), (5, .int 0), (4, .int 1), (3, .int 2), (2, .int 0), (1, .int 0), (0, .ref h0)]) hx hb d_Ref_encode_182 hl (by decide) rfl ?_
  clear hl ls
  intro ls hl
  refine lv_iload hx hb d_Ref_encode_184 (lv_at hl 0 rfl) ?_
  refine lv_aload_n hx hb d_Ref_encode_186 rfl (lv_at hl 6 rfl) ?_
  refine va_get (D := (dC, dI)) (ci := 8) (v := .ref h14) (C := R_Ref) (T := F_Ref) (N := 48) hx hb hw i_Ref hown hK hP 1 rfl rfl 16 (by decide) (hw _ m_915) (fun _ h9 => h9) rfl d_Ref_encode_187 ?_
  refine lv_bipush (v := 15) hx hb d_Ref_encode_190 (by decide) ?_
  refine va_iald (D := (dC, dI)) hx hb hK hP 0 0 rfl rfl (i := 15) (vp_c (by decide)) d_Ref_encode_192 ?_
  refine tp_i (y := 0) (by first | rfl | decide) ?_
  refine lv_icmp_ge (tgt := 224) hx hb d_Ref_encode_193 (by decide) (fun c_50 => ?_) (fun c_50 => absurd c_50 (by decide))
  refine tp_pc (pc' := 224) (by rfl) ?_
  refine lv_aload_n hx hb d_Ref_encode_224 rfl (lv_at hl 6 rfl) ?_
  refine lv_iload hx hb d_Ref_encode_225 (lv_at hl 1 rfl) ?_
  refine lv_i2l (v := 0) hx hb d_Ref_encode_227 (by decide) ?_
  refine lv_iconst (v := 3) hx hb d_Ref_encode_228 (by decide) ?_
  obtain ⟨hPc, hDc, hFc⟩ := cut3 (wc := [oc h0 8 [.int p0, .int p1, .ref h1, .ref h2, .ref h3, .ref h4, .ref h5, .ref h6, .ref h7, .ref h8, .ref h9, .ref h10, .ref h11, .ref h12, .int p2, .ref h13, .ref h14, .ref h15, .ref h16, .int 2, .int p4, .ref h17, .ref h18, .ref h19, .int p5, .ref h20, .int 92, .int p7, .ref h21, .ref h22, .ref h23, .ref h24, .ref h25, .ref h26, .ref h27, .ref h28, .int p8, .int p9, .ref h29, .ref h30, .ref h31, .ref h32, .ref h33, .ref h34, .ref h35, .ref h36, .int p10, .ref h37], la h20 k19 5 (vp_updL (vp_updL (vp_updL (vp_updL (vp_updL (vp_updL (vp_updL (vp_updL (vp_updL (vp_updL (vp_updL (vp_updL (vp_updL (vp_updL (vp_updL (vp_updL (vp_updL (vp_updL (vp_updL (vp_updL (vp_updL (vp_updL f19 0 0) 1 0) 2 0) 3 0) 4 0) 0 0) 0 0) 0 0) 0 0) 0 262144) 0 33816576) 0 4328783872) 0 554084597760) 0 70922828775424) 0 9078122083516416) 0 1161999626690363392) 0 1161999626690363392) 1 8) 1 1032) 1 132104) 1 16909320) 1 16909320)]) hP hD rfl hS hA [1, 2] (by decide +kernel) rfl
  have hKc := hK.sub (tys' := [(k19, .long)]) [1] rfl
  refine va_callv (va_runV (As := [.long 0, .int 3]) (rest := []) ⟨hx, hb, hml, hown, hw⟩ (c_Ref_bits_v17 l dC dI h0 0 p0 p1 h1 h2 h3 h4 h5 h6 h7 h8 h9 h10 h11 h12 p2 h13 h14 h15 h16 2 p4 h17 h18 h19 p5 h20 p7 h21 h22 h23 h24 h25 h26 h27 h28 p8 p9 h29 h30 h31 h32 h33 h34 h35 h36 p10 h37 k19 (vp_updL (vp_updL (vp_updL (vp_updL (vp_updL (vp_updL (vp_updL (vp_updL (vp_updL (vp_updL (vp_updL (vp_updL (vp_updL (vp_updL (vp_updL (vp_updL (vp_updL (vp_updL (vp_updL (vp_updL (vp_updL (vp_updL f19 0 0) 1 0) 2 0) 3 0) 4 0) 0 0) 0 0) 0 0) 0 0) 0 262144) 0 33816576) 0 4328783872) 0 554084597760) 0 70922828775424) 0 9078122083516416) 0 1161999626690363392) 0 1161999626690363392) 1 8) 1 1032) 1 132104) 1 16909320) 1 16909320) H.size) (cw_V 2 hw g_Ref_bits rfl rfl rfl (hw _ m_109) (hw _ m_1093) (hw _ m_1095) (hw _ m_58) (by decide +kernel) ⟨Nat.le_of_ble_eq_true rfl, Nat.le_of_ble_eq_true rfl⟩) ⟨fun a U g mk q => by obtain ⟨q0, q1, qP, qK, qD, qN⟩ := q; exact ⟨q0, q1, qP, va_K.moved (u := U) (U := U.calling g mk a) (Vm.Alike.refl U.vm) qK, qD, nw_call qN⟩, va_recv hKc hPc (ci := 8) (q0 := 0) rfl rfl, fun U hU hW => ⟨rfl, by rw [hU], by rw [hU]; exact hPc, va_K.moved hW.alike hKc, hDc.weaken (fun _ _ _ _ => trivial), nw_warm hW hn⟩⟩ rfl rfl hl.1 rfl (lv_room (Nat.le_of_ble_eq_true rfl)) d_Ref_encode_229 ⟨Nat.le_of_ble_eq_true rfl, Nat.le_of_ble_eq_true rfl⟩) hS (fun q _ h => hFc q h) hFc ?_
  intro u t H1 locs1 ht hvm hw1 hB hz1 hk1 hS1
  obtain ⟨hP1, hK1, hD1⟩ := hB
  rw [ht] at hP1
  replace hK1 := va_K.moved hvm.symm hK1
  have hPD := join3 hP hD rfl [1, 2] [0] rfl (by rfl) (by decide +kernel) (by decide +kernel) hk1 hFc hP1 hD1
  replace hK : va_K (dC, dI) classes [(k13, .int), (k19, .long)] s := hK.app hK1
  clear hP1 hK1 hD1 hk1 hz1 hFc hKc hDc hPc hvm ht hP hS t locs H
  have hP : va_P (dC, dI) classes [ia h14 k13 155 (fun _ => 0), oc h0 8 [.int p0, .int p1, .ref h1, .ref h2, .ref h3, .ref h4, .ref h5, .ref h6, .ref h7, .ref h8, .ref h9, .ref h10, .ref h11, .ref h12, .int p2, .ref h13, .ref h14, .ref h15, .ref h16, .int 2, .int p4, .ref h17, .ref h18, .ref h19, .int p5, .ref h20, .int 95, .int p7, .ref h21, .ref h22, .ref h23, .ref h24, .ref h25, .ref h26, .ref h27, .ref h28, .int p8, .int p9, .ref h29, .ref h30, .ref h31, .ref h32, .ref h33, .ref h34, .ref h35, .ref h36, .int p10, .ref h37], la h20 k19 5 (vp_updL (vp_updL (vp_updL (vp_updL (vp_updL (vp_updL (vp_updL (vp_updL (vp_updL (vp_updL (vp_updL (vp_updL (vp_updL (vp_updL (vp_updL (vp_updL (vp_updL (vp_updL (vp_updL (vp_updL (vp_updL (vp_updL (vp_updL f19 0 0) 1 0) 2 0) 3 0) 4 0) 0 0) 0 0) 0 0) 0 0) 0 262144) 0 33816576) 0 4328783872) 0 554084597760) 0 70922828775424) 0 9078122083516416) 0 1161999626690363392) 0 1161999626690363392) 1 8) 1 1032) 1 132104) 1 16909320) 1 16909320) 1 ((16909320 : Int64) ||| ((0 : Int64) <<< (((28 : Int32) : Int32).toInt64 &&& 63))))] H1 := hPD.1
  rw [show (((16909320 : Int64) ||| ((0 : Int64) <<< (((28 : Int32) : Int32).toInt64 &&& 63)) : Int64)) = 16909320 from by decide] at hP
  replace hD : dd A [h14, h0, h20] := dd_of hPD.2 rfl
  clear hPD
  revert H1 locs1
  intro H locs hS hP
  clear hw1 u
  refine tp_pc (pc' := 232) (by rfl) ?_
  refine lv_iconst (v := 0) hx hb d_Ref_encode_232 (by decide) ?_
  refine lv_istore (lv' := [(6, .int 0), (5, .int 0), (4, .int 1), (3, .int 2), (2, .int 0), (1, .int 0), (0, .ref h0)]) hx hb d_Ref_encode_233 hl (by decide) rfl ?_
  clear hl ls
  intro ls hl
  refine lv_iload hx hb d_Ref_encode_235 (lv_at hl 0 rfl) ?_
  refine lv_aload_n hx hb d_Ref_encode_237 rfl (lv_at hl 6 rfl) ?_
  refine va_get (D := (dC, dI)) (ci := 8) (v := .ref h14) (C := R_Ref) (T := F_Ref) (N := 48) hx hb hw i_Ref hown hK hP 1 rfl rfl 16 (by decide) (hw _ m_915) (fun _ h9 => h9) rfl d_Ref_encode_238 ?_
  refine lv_bipush (v := 15) hx hb d_Ref_encode_241 (by decide) ?_
  refine va_iald (D := (dC, dI)) hx hb hK hP 0 0 rfl rfl (i := 15) (vp_c (by decide)) d_Ref_encode_243 ?_
  refine tp_i (y := 0) (by first | rfl | decide) ?_
  refine lv_icmp_ge (tgt := 301) hx hb d_Ref_encode_244 (by decide) (fun c_52 => ?_) (fun c_52 => absurd c_52 (by decide))
  refine tp_pc (pc' := 301) (by rfl) ?_
  refine lv_iinc (v := 2) (lv' := [(4, .int 2), (6, .int 0), (5, .int 0), (3, .int 2), (2, .int 0), (1, .int 0), (0, .ref h0)]) hx hb d_Ref_encode_301 hl (k := 2) rfl (by first | rfl | decide) (by decide) rfl ?_
  clear hl ls
  intro ls hl
  refine lv_goto (tgt := 172) hx hb d_Ref_encode_304 (by decide) ?_
  refine tp_pc (pc' := 172) (by rfl) ?_
  refine lv_iload hx hb d_Ref_encode_172 (lv_at hl 0 rfl) ?_
  refine lv_iload_n hx hb d_Ref_encode_174 rfl (lv_at hl 3 rfl) ?_
  refine lv_icmp_gt (tgt := 307) hx hb d_Ref_encode_175 (by decide) (fun c_53 => absurd c_53 (by decide)) (fun c_53 => ?_)
  refine tp_pc (pc' := 178) (by rfl) ?_
  refine lv_iconst (v := 0) hx hb d_Ref_encode_178 (by decide) ?_
  refine lv_istore (lv' := [(5, .int 0), (4, .int 2), (6, .int 0), (3, .int 2), (2, .int 0), (1, .int 0), (0, .ref h0)]) hx hb d_Ref_encode_179 hl (by decide) rfl ?_
  clear hl ls
  intro ls hl
  refine lv_iconst (v := 0) hx hb d_Ref_encode_181 (by decide) ?_
  refine lv_istore (lv' := [(6, .int 0), (5, .int 0), (4, .int 2), (3, .int 2), (2, .int 0), (1, .int 0), (0, .ref h0)]) hx hb d_Ref_encode_182 hl (by decide) rfl ?_
  clear hl ls
  intro ls hl
  refine lv_iload hx hb d_Ref_encode_184 (lv_at hl 0 rfl) ?_
  refine lv_aload_n hx hb d_Ref_encode_186 rfl (lv_at hl 6 rfl) ?_
  refine va_get (D := (dC, dI)) (ci := 8) (v := .ref h14) (C := R_Ref) (T := F_Ref) (N := 48) hx hb hw i_Ref hown hK hP 1 rfl rfl 16 (by decide) (hw _ m_915) (fun _ h9 => h9) rfl d_Ref_encode_187 ?_
  refine lv_bipush (v := 15) hx hb d_Ref_encode_190 (by decide) ?_
  refine va_iald (D := (dC, dI)) hx hb hK hP 0 0 rfl rfl (i := 15) (vp_c (by decide)) d_Ref_encode_192 ?_
  refine tp_i (y := 0) (by first | rfl | decide) ?_
  refine lv_icmp_ge (tgt := 224) hx hb d_Ref_encode_193 (by decide) (fun c_54 => ?_) (fun c_54 => absurd c_54 (by decide))
  refine tp_pc (pc' := 224) (by rfl) ?_
  refine lv_aload_n hx hb d_Ref_encode_224 rfl (lv_at hl 6 rfl) ?_
  refine lv_iload hx hb d_Ref_encode_225 (lv_at hl 1 rfl) ?_
  refine lv_i2l (v := 0) hx hb d_Ref_encode_227 (by decide) ?_
  refine lv_iconst (v := 3) hx hb d_Ref_encode_228 (by decide) ?_
  obtain ⟨hPc, hDc, hFc⟩ := cut3 (wc := [oc h0 8 [.int p0, .int p1, .ref h1, .ref h2, .ref h3, .ref h4, .ref h5, .ref h6, .ref h7, .ref h8, .ref h9, .ref h10, .ref h11, .ref h12, .int p2, .ref h13, .ref h14, .ref h15, .ref h16, .int 2, .int p4, .ref h17, .ref h18, .ref h19, .int p5, .ref h20, .int 95, .int p7, .ref h21, .ref h22, .ref h23, .ref h24, .ref h25, .ref h26, .ref h27, .ref h28, .int p8, .int p9, .ref h29, .ref h30, .ref h31, .ref h32, .ref h33, .ref h34, .ref h35, .ref h36, .int p10, .ref h37], la h20 k19 5 (vp_updL (vp_updL (vp_updL (vp_updL (vp_updL (vp_updL (vp_updL (vp_updL (vp_updL (vp_updL (vp_updL (vp_updL (vp_updL (vp_updL (vp_updL (vp_updL (vp_updL (vp_updL (vp_updL (vp_updL (vp_updL (vp_updL (vp_updL f19 0 0) 1 0) 2 0) 3 0) 4 0) 0 0) 0 0) 0 0) 0 0) 0 262144) 0 33816576) 0 4328783872) 0 554084597760) 0 70922828775424) 0 9078122083516416) 0 1161999626690363392) 0 1161999626690363392) 1 8) 1 1032) 1 132104) 1 16909320) 1 16909320) 1 16909320)]) hP hD rfl hS hA [1, 2] (by decide +kernel) rfl
  have hKc := hK.sub (tys' := [(k19, .long)]) [1] rfl
  refine va_callv (va_runV (As := [.long 0, .int 3]) (rest := []) ⟨hx, hb, hml, hown, hw⟩ (c_Ref_bits_v18 l dC dI h0 0 p0 p1 h1 h2 h3 h4 h5 h6 h7 h8 h9 h10 h11 h12 p2 h13 h14 h15 h16 2 p4 h17 h18 h19 p5 h20 p7 h21 h22 h23 h24 h25 h26 h27 h28 p8 p9 h29 h30 h31 h32 h33 h34 h35 h36 p10 h37 k19 (vp_updL (vp_updL (vp_updL (vp_updL (vp_updL (vp_updL (vp_updL (vp_updL (vp_updL (vp_updL (vp_updL (vp_updL (vp_updL (vp_updL (vp_updL (vp_updL (vp_updL (vp_updL (vp_updL (vp_updL (vp_updL (vp_updL (vp_updL f19 0 0) 1 0) 2 0) 3 0) 4 0) 0 0) 0 0) 0 0) 0 0) 0 262144) 0 33816576) 0 4328783872) 0 554084597760) 0 70922828775424) 0 9078122083516416) 0 1161999626690363392) 0 1161999626690363392) 1 8) 1 1032) 1 132104) 1 16909320) 1 16909320) 1 16909320) H.size) (cw_V 2 hw g_Ref_bits rfl rfl rfl (hw _ m_109) (hw _ m_1093) (hw _ m_1095) (hw _ m_58) (by decide +kernel) ⟨Nat.le_of_ble_eq_true rfl, Nat.le_of_ble_eq_true rfl⟩) ⟨fun a U g mk q => by obtain ⟨q0, q1, qP, qK, qD, qN⟩ := q; exact ⟨q0, q1, qP, va_K.moved (u := U) (U := U.calling g mk a) (Vm.Alike.refl U.vm) qK, qD, nw_call qN⟩, va_recv hKc hPc (ci := 8) (q0 := 0) rfl rfl, fun U hU hW => ⟨rfl, by rw [hU], by rw [hU]; exact hPc, va_K.moved hW.alike hKc, hDc.weaken (fun _ _ _ _ => trivial), nw_warm hW hn⟩⟩ rfl rfl hl.1 rfl (lv_room (Nat.le_of_ble_eq_true rfl)) d_Ref_encode_229 ⟨Nat.le_of_ble_eq_true rfl, Nat.le_of_ble_eq_true rfl⟩) hS (fun q _ h => hFc q h) hFc ?_
  intro u t H1 locs1 ht hvm hw1 hB hz1 hk1 hS1
  obtain ⟨hP1, hK1, hD1⟩ := hB
  rw [ht] at hP1
  replace hK1 := va_K.moved hvm.symm hK1
  have hPD := join3 hP hD rfl [1, 2] [0] rfl (by rfl) (by decide +kernel) (by decide +kernel) hk1 hFc hP1 hD1
  replace hK : va_K (dC, dI) classes [(k13, .int), (k19, .long)] s := hK.app hK1
  clear hP1 hK1 hD1 hk1 hz1 hFc hKc hDc hPc hvm ht hP hS t locs H
  have hP : va_P (dC, dI) classes [ia h14 k13 155 (fun _ => 0), oc h0 8 [.int p0, .int p1, .ref h1, .ref h2, .ref h3, .ref h4, .ref h5, .ref h6, .ref h7, .ref h8, .ref h9, .ref h10, .ref h11, .ref h12, .int p2, .ref h13, .ref h14, .ref h15, .ref h16, .int 2, .int p4, .ref h17, .ref h18, .ref h19, .int p5, .ref h20, .int 98, .int p7, .ref h21, .ref h22, .ref h23, .ref h24, .ref h25, .ref h26, .ref h27, .ref h28, .int p8, .int p9, .ref h29, .ref h30, .ref h31, .ref h32, .ref h33, .ref h34, .ref h35, .ref h36, .int p10, .ref h37], la h20 k19 5 (vp_updL (vp_updL (vp_updL (vp_updL (vp_updL (vp_updL (vp_updL (vp_updL (vp_updL (vp_updL (vp_updL (vp_updL (vp_updL (vp_updL (vp_updL (vp_updL (vp_updL (vp_updL (vp_updL (vp_updL (vp_updL (vp_updL (vp_updL (vp_updL f19 0 0) 1 0) 2 0) 3 0) 4 0) 0 0) 0 0) 0 0) 0 0) 0 262144) 0 33816576) 0 4328783872) 0 554084597760) 0 70922828775424) 0 9078122083516416) 0 1161999626690363392) 0 1161999626690363392) 1 8) 1 1032) 1 132104) 1 16909320) 1 16909320) 1 16909320) 1 ((16909320 : Int64) ||| ((0 : Int64) <<< (((31 : Int32) : Int32).toInt64 &&& 63))))] H1 := hPD.1
  rw [show (((16909320 : Int64) ||| ((0 : Int64) <<< (((31 : Int32) : Int32).toInt64 &&& 63)) : Int64)) = 16909320 from by decide] at hP
  replace hD : dd A [h14, h0, h20] := dd_of hPD.2 rfl
  clear hPD
  revert H1 locs1
  intro H locs hS hP
  clear hw1 u
  refine tp_pc (pc' := 232) (by rfl) ?_
  refine lv_iconst (v := 0) hx hb d_Ref_encode_232 (by decide) ?_
  refine lv_istore (lv' := [(6, .int 0), (5, .int 0), (4, .int 2), (3, .int 2), (2, .int 0), (1, .int 0), (0, .ref h0)]) hx hb d_Ref_encode_233 hl (by decide) rfl ?_
  clear hl ls
  intro ls hl
  refine lv_iload hx hb d_Ref_encode_235 (lv_at hl 0 rfl) ?_
  refine lv_aload_n hx hb d_Ref_encode_237 rfl (lv_at hl 6 rfl) ?_
  refine va_get (D := (dC, dI)) (ci := 8) (v := .ref h14) (C := R_Ref) (T := F_Ref) (N := 48) hx hb hw i_Ref hown hK hP 1 rfl rfl 16 (by decide) (hw _ m_915) (fun _ h9 => h9) rfl d_Ref_encode_238 ?_
  refine lv_bipush (v := 15) hx hb d_Ref_encode_241 (by decide) ?_
  refine va_iald (D := (dC, dI)) hx hb hK hP 0 0 rfl rfl (i := 15) (vp_c (by decide)) d_Ref_encode_243 ?_
  refine tp_i (y := 0) (by first | rfl | decide) ?_
  refine lv_icmp_ge (tgt := 301) hx hb d_Ref_encode_244 (by decide) (fun c_56 => ?_) (fun c_56 => absurd c_56 (by decide))
  refine tp_pc (pc' := 301) (by rfl) ?_
  refine lv_iinc (v := 3) (lv' := [(4, .int 3), (6, .int 0), (5, .int 0), (3, .int 2), (2, .int 0), (1, .int 0), (0, .ref h0)]) hx hb d_Ref_encode_301 hl (k := 2) rfl (by first | rfl | decide) (by decide) rfl ?_
  clear hl ls
  intro ls hl
  refine lv_goto (tgt := 172) hx hb d_Ref_encode_304 (by decide) ?_
  refine tp_pc (pc' := 172) (by rfl) ?_
  refine lv_iload hx hb d_Ref_encode_172 (lv_at hl 0 rfl) ?_
  refine lv_iload_n hx hb d_Ref_encode_174 rfl (lv_at hl 3 rfl) ?_
  refine lv_icmp_gt (tgt := 307) hx hb d_Ref_encode_175 (by decide) (fun c_57 => ?_) (fun c_57 => absurd c_57 (by decide))
  refine tp_pc (pc' := 307) (by rfl) ?_
  refine lv_iinc (v := 1) (lv' := [(1, .int 1), (4, .int 3), (6, .int 0), (5, .int 0), (3, .int 2), (2, .int 0), (0, .ref h0)]) hx hb d_Ref_encode_307 hl (k := 5) rfl (by first | rfl | decide) (by decide) rfl ?_
  clear hl ls
  intro ls hl
  refine lv_goto (tgt := 129) hx hb d_Ref_encode_310 (by decide) ?_
  refine tp_pc (pc' := 129) (by rfl) ?_
  refine lv_iload_n hx hb d_Ref_encode_129 rfl (lv_at hl 0 rfl) ?_
  refine lv_iconst (v := 4) hx hb d_Ref_encode_130 (by decide) ?_
  refine lv_icmp_ge (tgt := 313) hx hb d_Ref_encode_131 (by decide) (fun c_58 => absurd c_58 (by decide)) (fun c_58 => ?_)
  refine tp_pc (pc' := 134) (by rfl) ?_
  refine lv_aload_n hx hb d_Ref_encode_134 rfl (lv_at hl 6 rfl) ?_
  refine va_get (D := (dC, dI)) (ci := 8) (v := .int 2) (C := R_Ref) (T := F_Ref) (N := 48) hx hb hw i_Ref hown hK hP 1 rfl rfl 19 (by decide) (hw _ m_918) (fun _ h9 => h9) rfl d_Ref_encode_135 ?_
  refine lv_if_le (tgt := 313) hx hb d_Ref_encode_138 (by decide) (fun c_59 => absurd c_59 (by decide)) (fun c_59 => ?_)
  refine tp_pc (pc' := 141) (by rfl) ?_
  refine lv_aload_n hx hb d_Ref_encode_141 rfl (lv_at hl 6 rfl) ?_
  refine va_get (D := (dC, dI)) (ci := 8) (v := .int 2) (C := R_Ref) (T := F_Ref) (N := 48) hx hb hw i_Ref hown hK hP 1 rfl rfl 19 (by decide) (hw _ m_918) (fun _ h9 => h9) rfl d_Ref_encode_142 ?_
  refine lv_iconst (v := 1) hx hb d_Ref_encode_145 (by decide) ?_
  refine lv_icmp_ne (tgt := 153) hx hb d_Ref_encode_146 (by decide) (fun c_60 => ?_) (fun c_60 => absurd c_60 (by decide))
  refine tp_pc (pc' := 153) (by rfl) ?_
  refine lv_iconst (v := 0) hx hb d_Ref_encode_153 (by decide) ?_
  refine lv_istore_n (lv' := [(2, .int 0), (1, .int 1), (4, .int 3), (6, .int 0), (5, .int 0), (3, .int 2), (0, .ref h0)]) hx hb d_Ref_encode_154 rfl hl (by decide) rfl ?_
  clear hl ls
  intro ls hl
  refine lv_aload_n hx hb d_Ref_encode_155 rfl (lv_at hl 6 rfl) ?_
  refine va_get (D := (dC, dI)) (ci := 8) (v := .int 2) (C := R_Ref) (T := F_Ref) (N := 48) hx hb hw i_Ref hown hK hP 1 rfl rfl 19 (by decide) (hw _ m_918) (fun _ h9 => h9) rfl d_Ref_encode_156 ?_
  refine lv_iconst (v := 1) hx hb d_Ref_encode_159 (by decide) ?_
  refine lv_icmp_ne (tgt := 167) hx hb d_Ref_encode_160 (by decide) (fun c_61 => ?_) (fun c_61 => absurd c_61 (by decide))
  refine tp_pc (pc' := 167) (by rfl) ?_
  refine lv_iconst (v := 2) hx hb d_Ref_encode_167 (by decide) ?_
  refine lv_istore_n (lv' := [(3, .int 2), (2, .int 0), (1, .int 1), (4, .int 3), (6, .int 0), (5, .int 0), (0, .ref h0)]) hx hb d_Ref_encode_168 rfl hl (by decide) rfl ?_
  clear hl ls
  intro ls hl
  refine lv_iload_n hx hb d_Ref_encode_169 rfl (lv_at hl 1 rfl) ?_
  refine lv_istore (lv' := [(4, .int 0), (3, .int 2), (2, .int 0), (1, .int 1), (6, .int 0), (5, .int 0), (0, .ref h0)]) hx hb d_Ref_encode_170 hl (by decide) rfl ?_
  clear hl ls
  intro ls hl
  refine lv_iload hx hb d_Ref_encode_172 (lv_at hl 0 rfl) ?_
  refine lv_iload_n hx hb d_Ref_encode_174 rfl (lv_at hl 1 rfl) ?_
  refine lv_icmp_gt (tgt := 307) hx hb d_Ref_encode_175 (by decide) (fun c_62 => absurd c_62 (by decide)) (fun c_62 => ?_)
  refine tp_pc (pc' := 178) (by rfl) ?_
  refine lv_iconst (v := 0) hx hb d_Ref_encode_178 (by decide) ?_
  refine lv_istore (lv' := [(5, .int 0), (4, .int 0), (3, .int 2), (2, .int 0), (1, .int 1), (6, .int 0), (0, .ref h0)]) hx hb d_Ref_encode_179 hl (by decide) rfl ?_
  clear hl ls
  intro ls hl
  refine lv_iconst (v := 0) hx hb d_Ref_encode_181 (by decide) ?_
  refine lv_istore (lv' := [(6, .int 0), (5, .int 0), (4, .int 0), (3, .int 2), (2, .int 0), (1, .int 1), (0, .ref h0)]) hx hb d_Ref_encode_182 hl (by decide) rfl ?_
  clear hl ls
  intro ls hl
  refine lv_iload hx hb d_Ref_encode_184 (lv_at hl 0 rfl) ?_
  refine lv_aload_n hx hb d_Ref_encode_186 rfl (lv_at hl 6 rfl) ?_
  refine va_get (D := (dC, dI)) (ci := 8) (v := .ref h14) (C := R_Ref) (T := F_Ref) (N := 48) hx hb hw i_Ref hown hK hP 1 rfl rfl 16 (by decide) (hw _ m_915) (fun _ h9 => h9) rfl d_Ref_encode_187 ?_
  refine lv_bipush (v := 15) hx hb d_Ref_encode_190 (by decide) ?_
  refine va_iald (D := (dC, dI)) hx hb hK hP 0 0 rfl rfl (i := 15) (vp_c (by decide)) d_Ref_encode_192 ?_
  refine tp_i (y := 0) (by first | rfl | decide) ?_
  refine lv_icmp_ge (tgt := 224) hx hb d_Ref_encode_193 (by decide) (fun c_63 => ?_) (fun c_63 => absurd c_63 (by decide))
  refine tp_pc (pc' := 224) (by rfl) ?_
  refine lv_aload_n hx hb d_Ref_encode_224 rfl (lv_at hl 6 rfl) ?_
  refine lv_iload hx hb d_Ref_encode_225 (lv_at hl 1 rfl) ?_
  refine lv_i2l (v := 0) hx hb d_Ref_encode_227 (by decide) ?_
  refine lv_iconst (v := 3) hx hb d_Ref_encode_228 (by decide) ?_
  obtain ⟨hPc, hDc, hFc⟩ := cut3 (wc := [oc h0 8 [.int p0, .int p1, .ref h1, .ref h2, .ref h3, .ref h4, .ref h5, .ref h6, .ref h7, .ref h8, .ref h9, .ref h10, .ref h11, .ref h12, .int p2, .ref h13, .ref h14, .ref h15, .ref h16, .int 2, .int p4, .ref h17, .ref h18, .ref h19, .int p5, .ref h20, .int 98, .int p7, .ref h21, .ref h22, .ref h23, .ref h24, .ref h25, .ref h26, .ref h27, .ref h28, .int p8, .int p9, .ref h29, .ref h30, .ref h31, .ref h32, .ref h33, .ref h34, .ref h35, .ref h36, .int p10, .ref h37], la h20 k19 5 (vp_updL (vp_updL (vp_updL (vp_updL (vp_updL (vp_updL (vp_updL (vp_updL (vp_updL (vp_updL (vp_updL (vp_updL (vp_updL (vp_updL (vp_updL (vp_updL (vp_updL (vp_updL (vp_updL (vp_updL (vp_updL (vp_updL (vp_updL (vp_updL f19 0 0) 1 0) 2 0) 3 0) 4 0) 0 0) 0 0) 0 0) 0 0) 0 262144) 0 33816576) 0 4328783872) 0 554084597760) 0 70922828775424) 0 9078122083516416) 0 1161999626690363392) 0 1161999626690363392) 1 8) 1 1032) 1 132104) 1 16909320) 1 16909320) 1 16909320) 1 16909320)]) hP hD rfl hS hA [1, 2] (by decide +kernel) rfl
  have hKc := hK.sub (tys' := [(k19, .long)]) [1] rfl
  refine va_callv (va_runV (As := [.long 0, .int 3]) (rest := []) ⟨hx, hb, hml, hown, hw⟩ (c_Ref_bits_v19 l dC dI h0 0 p0 p1 h1 h2 h3 h4 h5 h6 h7 h8 h9 h10 h11 h12 p2 h13 h14 h15 h16 2 p4 h17 h18 h19 p5 h20 p7 h21 h22 h23 h24 h25 h26 h27 h28 p8 p9 h29 h30 h31 h32 h33 h34 h35 h36 p10 h37 k19 (vp_updL (vp_updL (vp_updL (vp_updL (vp_updL (vp_updL (vp_updL (vp_updL (vp_updL (vp_updL (vp_updL (vp_updL (vp_updL (vp_updL (vp_updL (vp_updL (vp_updL (vp_updL (vp_updL (vp_updL (vp_updL (vp_updL (vp_updL (vp_updL f19 0 0) 1 0) 2 0) 3 0) 4 0) 0 0) 0 0) 0 0) 0 0) 0 262144) 0 33816576) 0 4328783872) 0 554084597760) 0 70922828775424) 0 9078122083516416) 0 1161999626690363392) 0 1161999626690363392) 1 8) 1 1032) 1 132104) 1 16909320) 1 16909320) 1 16909320) 1 16909320) H.size) (cw_V 2 hw g_Ref_bits rfl rfl rfl (hw _ m_109) (hw _ m_1093) (hw _ m_1095) (hw _ m_58) (by decide +kernel) ⟨Nat.le_of_ble_eq_true rfl, Nat.le_of_ble_eq_true rfl⟩) ⟨fun a U g mk q => by obtain ⟨q0, q1, qP, qK, qD, qN⟩ := q; exact ⟨q0, q1, qP, va_K.moved (u := U) (U := U.calling g mk a) (Vm.Alike.refl U.vm) qK, qD, nw_call qN⟩, va_recv hKc hPc (ci := 8) (q0 := 0) rfl rfl, fun U hU hW => ⟨rfl, by rw [hU], by rw [hU]; exact hPc, va_K.moved hW.alike hKc, hDc.weaken (fun _ _ _ _ => trivial), nw_warm hW hn⟩⟩ rfl rfl hl.1 rfl (lv_room (Nat.le_of_ble_eq_true rfl)) d_Ref_encode_229 ⟨Nat.le_of_ble_eq_true rfl, Nat.le_of_ble_eq_true rfl⟩) hS (fun q _ h => hFc q h) hFc ?_
  intro u t H1 locs1 ht hvm hw1 hB hz1 hk1 hS1
  obtain ⟨hP1, hK1, hD1⟩ := hB
  rw [ht] at hP1
  replace hK1 := va_K.moved hvm.symm hK1
  have hPD := join3 hP hD rfl [1, 2] [0] rfl (by rfl) (by decide +kernel) (by decide +kernel) hk1 hFc hP1 hD1
  replace hK : va_K (dC, dI) classes [(k13, .int), (k19, .long)] s := hK.app hK1
  clear hP1 hK1 hD1 hk1 hz1 hFc hKc hDc hPc hvm ht hP hS t locs H
  have hP : va_P (dC, dI) classes [ia h14 k13 155 (fun _ => 0), oc h0 8 [.int p0, .int p1, .ref h1, .ref h2, .ref h3, .ref h4, .ref h5, .ref h6, .ref h7, .ref h8, .ref h9, .ref h10, .ref h11, .ref h12, .int p2, .ref h13, .ref h14, .ref h15, .ref h16, .int 2, .int p4, .ref h17, .ref h18, .ref h19, .int p5, .ref h20, .int 101, .int p7, .ref h21, .ref h22, .ref h23, .ref h24, .ref h25, .ref h26, .ref h27, .ref h28, .int p8, .int p9, .ref h29, .ref h30, .ref h31, .ref h32, .ref h33, .ref h34, .ref h35, .ref h36, .int p10, .ref h37], la h20 k19 5 (vp_updL (vp_updL (vp_updL (vp_updL (vp_updL (vp_updL (vp_updL (vp_updL (vp_updL (vp_updL (vp_updL (vp_updL (vp_updL (vp_updL (vp_updL (vp_updL (vp_updL (vp_updL (vp_updL (vp_updL (vp_updL (vp_updL (vp_updL (vp_updL (vp_updL f19 0 0) 1 0) 2 0) 3 0) 4 0) 0 0) 0 0) 0 0) 0 0) 0 262144) 0 33816576) 0 4328783872) 0 554084597760) 0 70922828775424) 0 9078122083516416) 0 1161999626690363392) 0 1161999626690363392) 1 8) 1 1032) 1 132104) 1 16909320) 1 16909320) 1 16909320) 1 16909320) 1 ((16909320 : Int64) ||| ((0 : Int64) <<< (((34 : Int32) : Int32).toInt64 &&& 63))))] H1 := hPD.1
  rw [show (((16909320 : Int64) ||| ((0 : Int64) <<< (((34 : Int32) : Int32).toInt64 &&& 63)) : Int64)) = 16909320 from by decide] at hP
  replace hD : dd A [h14, h0, h20] := dd_of hPD.2 rfl
  clear hPD
  revert H1 locs1
  intro H locs hS hP
  clear hw1 u
  refine tp_pc (pc' := 232) (by rfl) ?_
  refine lv_iconst (v := 0) hx hb d_Ref_encode_232 (by decide) ?_
  refine lv_istore (lv' := [(6, .int 0), (5, .int 0), (4, .int 0), (3, .int 2), (2, .int 0), (1, .int 1), (0, .ref h0)]) hx hb d_Ref_encode_233 hl (by decide) rfl ?_
  clear hl ls
  intro ls hl
  refine lv_iload hx hb d_Ref_encode_235 (lv_at hl 0 rfl) ?_
  refine lv_aload_n hx hb d_Ref_encode_237 rfl (lv_at hl 6 rfl) ?_
  refine va_get (D := (dC, dI)) (ci := 8) (v := .ref h14) (C := R_Ref) (T := F_Ref) (N := 48) hx hb hw i_Ref hown hK hP 1 rfl rfl 16 (by decide) (hw _ m_915) (fun _ h9 => h9) rfl d_Ref_encode_238 ?_
  refine lv_bipush (v := 15) hx hb d_Ref_encode_241 (by decide) ?_
  refine va_iald (D := (dC, dI)) hx hb hK hP 0 0 rfl rfl (i := 15) (vp_c (by decide)) d_Ref_encode_243 ?_
  refine tp_i (y := 0) (by first | rfl | decide) ?_
  refine lv_icmp_ge (tgt := 301) hx hb d_Ref_encode_244 (by decide) (fun c_65 => ?_) (fun c_65 => absurd c_65 (by decide))
  refine tp_pc (pc' := 301) (by rfl) ?_
  refine lv_iinc (v := 1) (lv' := [(4, .int 1), (6, .int 0), (5, .int 0), (3, .int 2), (2, .int 0), (1, .int 1), (0, .ref h0)]) hx hb d_Ref_encode_301 hl (k := 2) rfl (by first | rfl | decide) (by decide) rfl ?_
  clear hl ls
  intro ls hl
  refine lv_goto (tgt := 172) hx hb d_Ref_encode_304 (by decide) ?_
  refine tp_pc (pc' := 172) (by rfl) ?_
  refine lv_iload hx hb d_Ref_encode_172 (lv_at hl 0 rfl) ?_
  refine lv_iload_n hx hb d_Ref_encode_174 rfl (lv_at hl 3 rfl) ?_
  refine lv_icmp_gt (tgt := 307) hx hb d_Ref_encode_175 (by decide) (fun c_66 => absurd c_66 (by decide)) (fun c_66 => ?_)
  refine tp_pc (pc' := 178) (by rfl) ?_
  refine lv_iconst (v := 0) hx hb d_Ref_encode_178 (by decide) ?_
  refine lv_istore (lv' := [(5, .int 0), (4, .int 1), (6, .int 0), (3, .int 2), (2, .int 0), (1, .int 1), (0, .ref h0)]) hx hb d_Ref_encode_179 hl (by decide) rfl ?_
  clear hl ls
  intro ls hl
  refine lv_iconst (v := 0) hx hb d_Ref_encode_181 (by decide) ?_
  refine lv_istore (lv' := [(6, .int 0), (5, .int 0), (4, .int 1), (3, .int 2), (2, .int 0), (1, .int 1), (0, .ref h0)]) hx hb d_Ref_encode_182 hl (by decide) rfl ?_
  clear hl ls
  intro ls hl
  refine lv_iload hx hb d_Ref_encode_184 (lv_at hl 0 rfl) ?_
  refine lv_aload_n hx hb d_Ref_encode_186 rfl (lv_at hl 6 rfl) ?_
  refine va_get (D := (dC, dI)) (ci := 8) (v := .ref h14) (C := R_Ref) (T := F_Ref) (N := 48) hx hb hw i_Ref hown hK hP 1 rfl rfl 16 (by decide) (hw _ m_915) (fun _ h9 => h9) rfl d_Ref_encode_187 ?_
  refine lv_bipush (v := 15) hx hb d_Ref_encode_190 (by decide) ?_
  refine va_iald (D := (dC, dI)) hx hb hK hP 0 0 rfl rfl (i := 15) (vp_c (by decide)) d_Ref_encode_192 ?_
  refine tp_i (y := 0) (by first | rfl | decide) ?_
  refine lv_icmp_ge (tgt := 224) hx hb d_Ref_encode_193 (by decide) (fun c_67 => ?_) (fun c_67 => absurd c_67 (by decide))
  refine tp_pc (pc' := 224) (by rfl) ?_
  refine lv_aload_n hx hb d_Ref_encode_224 rfl (lv_at hl 6 rfl) ?_
  refine lv_iload hx hb d_Ref_encode_225 (lv_at hl 1 rfl) ?_
  refine lv_i2l (v := 0) hx hb d_Ref_encode_227 (by decide) ?_
  refine lv_iconst (v := 3) hx hb d_Ref_encode_228 (by decide) ?_
  obtain ⟨hPc, hDc, hFc⟩ := cut3 (wc := [oc h0 8 [.int p0, .int p1, .ref h1, .ref h2, .ref h3, .ref h4, .ref h5, .ref h6, .ref h7, .ref h8, .ref h9, .ref h10, .ref h11, .ref h12, .int p2, .ref h13, .ref h14, .ref h15, .ref h16, .int 2, .int p4, .ref h17, .ref h18, .ref h19, .int p5, .ref h20, .int 101, .int p7, .ref h21, .ref h22, .ref h23, .ref h24, .ref h25, .ref h26, .ref h27, .ref h28, .int p8, .int p9, .ref h29, .ref h30, .ref h31, .ref h32, .ref h33, .ref h34, .ref h35, .ref h36, .int p10, .ref h37], la h20 k19 5 (vp_updL (vp_updL (vp_updL (vp_updL (vp_updL (vp_updL (vp_updL (vp_updL (vp_updL (vp_updL (vp_updL (vp_updL (vp_updL (vp_updL (vp_updL (vp_updL (vp_updL (vp_updL (vp_updL (vp_updL (vp_updL (vp_updL (vp_updL (vp_updL (vp_updL f19 0 0) 1 0) 2 0) 3 0) 4 0) 0 0) 0 0) 0 0) 0 0) 0 262144) 0 33816576) 0 4328783872) 0 554084597760) 0 70922828775424) 0 9078122083516416) 0 1161999626690363392) 0 1161999626690363392) 1 8) 1 1032) 1 132104) 1 16909320) 1 16909320) 1 16909320) 1 16909320) 1 16909320)]) hP hD rfl hS hA [1, 2] (by decide +kernel) rfl
  have hKc := hK.sub (tys' := [(k19, .long)]) [1] rfl
  refine va_callv (va_runV (As := [.long 0, .int 3]) (rest := []) ⟨hx, hb, hml, hown, hw⟩ (c_Ref_bits_v20 l dC dI h0 0 p0 p1 h1 h2 h3 h4 h5 h6 h7 h8 h9 h10 h11 h12 p2 h13 h14 h15 h16 2 p4 h17 h18 h19 p5 h20 p7 h21 h22 h23 h24 h25 h26 h27 h28 p8 p9 h29 h30 h31 h32 h33 h34 h35 h36 p10 h37 k19 (vp_updL (vp_updL (vp_updL (vp_updL (vp_updL (vp_updL (vp_updL (vp_updL (vp_updL (vp_updL (vp_updL (vp_updL (vp_updL (vp_updL (vp_updL (vp_updL (vp_updL (vp_updL (vp_updL (vp_updL (vp_updL (vp_updL (vp_updL (vp_updL (vp_updL f19 0 0) 1 0) 2 0) 3 0) 4 0) 0 0) 0 0) 0 0) 0 0) 0 262144) 0 33816576) 0 4328783872) 0 554084597760) 0 70922828775424) 0 9078122083516416) 0 1161999626690363392) 0 1161999626690363392) 1 8) 1 1032) 1 132104) 1 16909320) 1 16909320) 1 16909320) 1 16909320) 1 16909320) H.size) (cw_V 2 hw g_Ref_bits rfl rfl rfl (hw _ m_109) (hw _ m_1093) (hw _ m_1095) (hw _ m_58) (by decide +kernel) ⟨Nat.le_of_ble_eq_true rfl, Nat.le_of_ble_eq_true rfl⟩) ⟨fun a U g mk q => by obtain ⟨q0, q1, qP, qK, qD, qN⟩ := q; exact ⟨q0, q1, qP, va_K.moved (u := U) (U := U.calling g mk a) (Vm.Alike.refl U.vm) qK, qD, nw_call qN⟩, va_recv hKc hPc (ci := 8) (q0 := 0) rfl rfl, fun U hU hW => ⟨rfl, by rw [hU], by rw [hU]; exact hPc, va_K.moved hW.alike hKc, hDc.weaken (fun _ _ _ _ => trivial), nw_warm hW hn⟩⟩ rfl rfl hl.1 rfl (lv_room (Nat.le_of_ble_eq_true rfl)) d_Ref_encode_229 ⟨Nat.le_of_ble_eq_true rfl, Nat.le_of_ble_eq_true rfl⟩) hS (fun q _ h => hFc q h) hFc ?_
  intro u t H1 locs1 ht hvm hw1 hB hz1 hk1 hS1
  obtain ⟨hP1, hK1, hD1⟩ := hB
  rw [ht] at hP1
  replace hK1 := va_K.moved hvm.symm hK1
  have hPD := join3 hP hD rfl [1, 2] [0] rfl (by rfl) (by decide +kernel) (by decide +kernel) hk1 hFc hP1 hD1
  replace hK : va_K (dC, dI) classes [(k13, .int), (k19, .long)] s := hK.app hK1
  clear hP1 hK1 hD1 hk1 hz1 hFc hKc hDc hPc hvm ht hP hS t locs H
  have hP : va_P (dC, dI) classes [ia h14 k13 155 (fun _ => 0), oc h0 8 [.int p0, .int p1, .ref h1, .ref h2, .ref h3, .ref h4, .ref h5, .ref h6, .ref h7, .ref h8, .ref h9, .ref h10, .ref h11, .ref h12, .int p2, .ref h13, .ref h14, .ref h15, .ref h16, .int 2, .int p4, .ref h17, .ref h18, .ref h19, .int p5, .ref h20, .int 104, .int p7, .ref h21, .ref h22, .ref h23, .ref h24, .ref h25, .ref h26, .ref h27, .ref h28, .int p8, .int p9, .ref h29, .ref h30, .ref h31, .ref h32, .ref h33, .ref h34, .ref h35, .ref h36, .int p10, .ref h37], la h20 k19 5 (vp_updL (vp_updL (vp_updL (vp_updL (vp_updL (vp_updL (vp_updL (vp_updL (vp_updL (vp_updL (vp_updL (vp_updL (vp_updL (vp_updL (vp_updL (vp_updL (vp_updL (vp_updL (vp_updL (vp_updL (vp_updL (vp_updL (vp_updL (vp_updL (vp_updL (vp_updL f19 0 0) 1 0) 2 0) 3 0) 4 0) 0 0) 0 0) 0 0) 0 0) 0 262144) 0 33816576) 0 4328783872) 0 554084597760) 0 70922828775424) 0 9078122083516416) 0 1161999626690363392) 0 1161999626690363392) 1 8) 1 1032) 1 132104) 1 16909320) 1 16909320) 1 16909320) 1 16909320) 1 16909320) 1 ((16909320 : Int64) ||| ((0 : Int64) <<< (((37 : Int32) : Int32).toInt64 &&& 63))))] H1 := hPD.1
  rw [show (((16909320 : Int64) ||| ((0 : Int64) <<< (((37 : Int32) : Int32).toInt64 &&& 63)) : Int64)) = 16909320 from by decide] at hP
  replace hD : dd A [h14, h0, h20] := dd_of hPD.2 rfl
  clear hPD
  revert H1 locs1
  intro H locs hS hP
  clear hw1 u
  refine tp_pc (pc' := 232) (by rfl) ?_
  refine lv_iconst (v := 0) hx hb d_Ref_encode_232 (by decide) ?_
  refine lv_istore (lv' := [(6, .int 0), (5, .int 0), (4, .int 1), (3, .int 2), (2, .int 0), (1, .int 1), (0, .ref h0)]) hx hb d_Ref_encode_233 hl (by decide) rfl ?_
  clear hl ls
  intro ls hl
  refine lv_iload hx hb d_Ref_encode_235 (lv_at hl 0 rfl) ?_
  refine lv_aload_n hx hb d_Ref_encode_237 rfl (lv_at hl 6 rfl) ?_
  refine va_get (D := (dC, dI)) (ci := 8) (v := .ref h14) (C := R_Ref) (T := F_Ref) (N := 48) hx hb hw i_Ref hown hK hP 1 rfl rfl 16 (by decide) (hw _ m_915) (fun _ h9 => h9) rfl d_Ref_encode_238 ?_
  refine lv_bipush (v := 15) hx hb d_Ref_encode_241 (by decide) ?_
  refine va_iald (D := (dC, dI)) hx hb hK hP 0 0 rfl rfl (i := 15) (vp_c (by decide)) d_Ref_encode_243 ?_
  refine tp_i (y := 0) (by first | rfl | decide) ?_
  refine lv_icmp_ge (tgt := 301) hx hb d_Ref_encode_244 (by decide) (fun c_69 => ?_) (fun c_69 => absurd c_69 (by decide))
  refine tp_pc (pc' := 301) (by rfl) ?_
  refine lv_iinc (v := 2) (lv' := [(4, .int 2), (6, .int 0), (5, .int 0), (3, .int 2), (2, .int 0), (1, .int 1), (0, .ref h0)]) hx hb d_Ref_encode_301 hl (k := 2) rfl (by first | rfl | decide) (by decide) rfl ?_
  clear hl ls
  intro ls hl
  refine lv_goto (tgt := 172) hx hb d_Ref_encode_304 (by decide) ?_
  refine tp_pc (pc' := 172) (by rfl) ?_
  refine lv_iload hx hb d_Ref_encode_172 (lv_at hl 0 rfl) ?_
  refine lv_iload_n hx hb d_Ref_encode_174 rfl (lv_at hl 3 rfl) ?_
  refine lv_icmp_gt (tgt := 307) hx hb d_Ref_encode_175 (by decide) (fun c_70 => absurd c_70 (by decide)) (fun c_70 => ?_)
  refine tp_pc (pc' := 178) (by rfl) ?_
  refine lv_iconst (v := 0) hx hb d_Ref_encode_178 (by decide) ?_
  refine lv_istore (lv' := [(5, .int 0), (4, .int 2), (6, .int 0), (3, .int 2), (2, .int 0), (1, .int 1), (0, .ref h0)]) hx hb d_Ref_encode_179 hl (by decide) rfl ?_
  clear hl ls
  intro ls hl
  refine lv_iconst (v := 0) hx hb d_Ref_encode_181 (by decide) ?_
  refine lv_istore (lv' := [(6, .int 0), (5, .int 0), (4, .int 2), (3, .int 2), (2, .int 0), (1, .int 1), (0, .ref h0)]) hx hb d_Ref_encode_182 hl (by decide) rfl ?_
  clear hl ls
  intro ls hl
  refine lv_iload hx hb d_Ref_encode_184 (lv_at hl 0 rfl) ?_
  refine lv_aload_n hx hb d_Ref_encode_186 rfl (lv_at hl 6 rfl) ?_
  refine va_get (D := (dC, dI)) (ci := 8) (v := .ref h14) (C := R_Ref) (T := F_Ref) (N := 48) hx hb hw i_Ref hown hK hP 1 rfl rfl 16 (by decide) (hw _ m_915) (fun _ h9 => h9) rfl d_Ref_encode_187 ?_
  refine lv_bipush (v := 15) hx hb d_Ref_encode_190 (by decide) ?_
  refine va_iald (D := (dC, dI)) hx hb hK hP 0 0 rfl rfl (i := 15) (vp_c (by decide)) d_Ref_encode_192 ?_
  refine tp_i (y := 0) (by first | rfl | decide) ?_
  refine lv_icmp_ge (tgt := 224) hx hb d_Ref_encode_193 (by decide) (fun c_71 => ?_) (fun c_71 => absurd c_71 (by decide))
  refine tp_pc (pc' := 224) (by rfl) ?_
  refine lv_aload_n hx hb d_Ref_encode_224 rfl (lv_at hl 6 rfl) ?_
  refine lv_iload hx hb d_Ref_encode_225 (lv_at hl 1 rfl) ?_
  refine lv_i2l (v := 0) hx hb d_Ref_encode_227 (by decide) ?_
  refine lv_iconst (v := 3) hx hb d_Ref_encode_228 (by decide) ?_
  obtain ⟨hPc, hDc, hFc⟩ := cut3 (wc := [oc h0 8 [.int p0, .int p1, .ref h1, .ref h2, .ref h3, .ref h4, .ref h5, .ref h6, .ref h7, .ref h8, .ref h9, .ref h10, .ref h11, .ref h12, .int p2, .ref h13, .ref h14, .ref h15, .ref h16, .int 2, .int p4, .ref h17, .ref h18, .ref h19, .int p5, .ref h20, .int 104, .int p7, .ref h21, .ref h22, .ref h23, .ref h24, .ref h25, .ref h26, .ref h27, .ref h28, .int p8, .int p9, .ref h29, .ref h30, .ref h31, .ref h32, .ref h33, .ref h34, .ref h35, .ref h36, .int p10, .ref h37], la h20 k19 5 (vp_updL (vp_updL (vp_updL (vp_updL (vp_updL (vp_updL (vp_updL (vp_updL (vp_updL (vp_updL (vp_updL (vp_updL (vp_updL (vp_updL (vp_updL (vp_updL (vp_updL (vp_updL (vp_updL (vp_updL (vp_updL (vp_updL (vp_updL (vp_updL (vp_updL (vp_updL f19 0 0) 1 0) 2 0) 3 0) 4 0) 0 0) 0 0) 0 0) 0 0) 0 262144) 0 33816576) 0 4328783872) 0 554084597760) 0 70922828775424) 0 9078122083516416) 0 1161999626690363392) 0 1161999626690363392) 1 8) 1 1032) 1 132104) 1 16909320) 1 16909320) 1 16909320) 1 16909320) 1 16909320) 1 16909320)]) hP hD rfl hS hA [1, 2] (by decide +kernel) rfl
  have hKc := hK.sub (tys' := [(k19, .long)]) [1] rfl
  refine va_callv (va_runV (As := [.long 0, .int 3]) (rest := []) ⟨hx, hb, hml, hown, hw⟩ (c_Ref_bits_v21 l dC dI h0 0 p0 p1 h1 h2 h3 h4 h5 h6 h7 h8 h9 h10 h11 h12 p2 h13 h14 h15 h16 2 p4 h17 h18 h19 p5 h20 p7 h21 h22 h23 h24 h25 h26 h27 h28 p8 p9 h29 h30 h31 h32 h33 h34 h35 h36 p10 h37 k19 (vp_updL (vp_updL (vp_updL (vp_updL (vp_updL (vp_updL (vp_updL (vp_updL (vp_updL (vp_updL (vp_updL (vp_updL (vp_updL (vp_updL (vp_updL (vp_updL (vp_updL (vp_updL (vp_updL (vp_updL (vp_updL (vp_updL (vp_updL (vp_updL (vp_updL (vp_updL f19 0 0) 1 0) 2 0) 3 0) 4 0) 0 0) 0 0) 0 0) 0 0) 0 262144) 0 33816576) 0 4328783872) 0 554084597760) 0 70922828775424) 0 9078122083516416) 0 1161999626690363392) 0 1161999626690363392) 1 8) 1 1032) 1 132104) 1 16909320) 1 16909320) 1 16909320) 1 16909320) 1 16909320) 1 16909320) H.size) (cw_V 2 hw g_Ref_bits rfl rfl rfl (hw _ m_109) (hw _ m_1093) (hw _ m_1095) (hw _ m_58) (by decide +kernel) ⟨Nat.le_of_ble_eq_true rfl, Nat.le_of_ble_eq_true rfl⟩) ⟨fun a U g mk q => by obtain ⟨q0, q1, qP, qK, qD, qN⟩ := q; exact ⟨q0, q1, qP, va_K.moved (u := U) (U := U.calling g mk a) (Vm.Alike.refl U.vm) qK, qD, nw_call qN⟩, va_recv hKc hPc (ci := 8) (q0 := 0) rfl rfl, fun U hU hW => ⟨rfl, by rw [hU], by rw [hU]; exact hPc, va_K.moved hW.alike hKc, hDc.weaken (fun _ _ _ _ => trivial), nw_warm hW hn⟩⟩ rfl rfl hl.1 rfl (lv_room (Nat.le_of_ble_eq_true rfl)) d_Ref_encode_229 ⟨Nat.le_of_ble_eq_true rfl, Nat.le_of_ble_eq_true rfl⟩) hS (fun q _ h => hFc q h) hFc ?_
  intro u t H1 locs1 ht hvm hw1 hB hz1 hk1 hS1
  obtain ⟨hP1, hK1, hD1⟩ := hB
  rw [ht] at hP1
  replace hK1 := va_K.moved hvm.symm hK1
  have hPD := join3 hP hD rfl [1, 2] [0] rfl (by rfl) (by decide +kernel) (by decide +kernel) hk1 hFc hP1 hD1
  replace hK : va_K (dC, dI) classes [(k13, .int), (k19, .long)] s := hK.app hK1
  clear hP1 hK1 hD1 hk1 hz1 hFc hKc hDc hPc hvm ht hP hS t locs H
  have hP : va_P (dC, dI) classes [ia h14 k13 155 (fun _ => 0), oc h0 8 [.int p0, .int p1, .ref h1, .ref h2, .ref h3, .ref h4, .ref h5, .ref h6, .ref h7, .ref h8, .ref h9, .ref h10, .ref h11, .ref h12, .int p2, .ref h13, .ref h14, .ref h15, .ref h16, .int 2, .int p4, .ref h17, .ref h18, .ref h19, .int p5, .ref h20, .int 107, .int p7, .ref h21, .ref h22, .ref h23, .ref h24, .ref h25, .ref h26, .ref h27, .ref h28, .int p8, .int p9, .ref h29, .ref h30, .ref h31, .ref h32, .ref h33, .ref h34, .ref h35, .ref h36, .int p10, .ref h37], la h20 k19 5 (vp_updL (vp_updL (vp_updL (vp_updL (vp_updL (vp_updL (vp_updL (vp_updL (vp_updL (vp_updL (vp_updL (vp_updL (vp_updL (vp_updL (vp_updL (vp_updL (vp_updL (vp_updL (vp_updL (vp_updL (vp_updL (vp_updL (vp_updL (vp_updL (vp_updL (vp_updL (vp_updL f19 0 0) 1 0) 2 0) 3 0) 4 0) 0 0) 0 0) 0 0) 0 0) 0 262144) 0 33816576) 0 4328783872) 0 554084597760) 0 70922828775424) 0 9078122083516416) 0 1161999626690363392) 0 1161999626690363392) 1 8) 1 1032) 1 132104) 1 16909320) 1 16909320) 1 16909320) 1 16909320) 1 16909320) 1 16909320) 1 ((16909320 : Int64) ||| ((0 : Int64) <<< (((40 : Int32) : Int32).toInt64 &&& 63))))] H1 := hPD.1
  rw [show (((16909320 : Int64) ||| ((0 : Int64) <<< (((40 : Int32) : Int32).toInt64 &&& 63)) : Int64)) = 16909320 from by decide] at hP
  replace hD : dd A [h14, h0, h20] := dd_of hPD.2 rfl
  clear hPD
  revert H1 locs1
  intro H locs hS hP
  clear hw1 u
  refine tp_pc (pc' := 232) (by rfl) ?_
  refine lv_iconst (v := 0) hx hb d_Ref_encode_232 (by decide) ?_
  refine lv_istore (lv' := [(6, .int 0), (5, .int 0), (4, .int 2), (3, .int 2), (2, .int 0), (1, .int 1), (0, .ref h0)]) hx hb d_Ref_encode_233 hl (by decide) rfl ?_
  clear hl ls
  intro ls hl
  refine lv_iload hx hb d_Ref_encode_235 (lv_at hl 0 rfl) ?_
  refine lv_aload_n hx hb d_Ref_encode_237 rfl (lv_at hl 6 rfl) ?_
  refine va_get (D := (dC, dI)) (ci := 8) (v := .ref h14) (C := R_Ref) (T := F_Ref) (N := 48) hx hb hw i_Ref hown hK hP 1 rfl rfl 16 (by decide) (hw _ m_915) (fun _ h9 => h9) rfl d_Ref_encode_238 ?_
  refine lv_bipush (v := 15) hx hb d_Ref_encode_241 (by decide) ?_
  refine va_iald (D := (dC, dI)) hx hb hK hP 0 0 rfl rfl (i := 15) (vp_c (by decide)) d_Ref_encode_243 ?_
  refine tp_i (y := 0) (by first | rfl | decide) ?_
  refine lv_icmp_ge (tgt := 301) hx hb d_Ref_encode_244 (by decide) (fun c_73 => ?_) (fun c_73 => absurd c_73 (by decide))
  refine tp_pc (pc' := 301) (by rfl) ?_
  refine lv_iinc (v := 3) (lv' := [(4, .int 3), (6, .int 0), (5, .int 0), (3, .int 2), (2, .int 0), (1, .int 1), (0, .ref h0)]) hx hb d_Ref_encode_301 hl (k := 2) rfl (by first | rfl | decide) (by decide) rfl ?_
  clear hl ls
  intro ls hl
  refine lv_goto (tgt := 172) hx hb d_Ref_encode_304 (by decide) ?_
  refine tp_pc (pc' := 172) (by rfl) ?_
  refine lv_iload hx hb d_Ref_encode_172 (lv_at hl 0 rfl) ?_
  refine lv_iload_n hx hb d_Ref_encode_174 rfl (lv_at hl 3 rfl) ?_
  refine lv_icmp_gt (tgt := 307) hx hb d_Ref_encode_175 (by decide) (fun c_74 => ?_) (fun c_74 => absurd c_74 (by decide))
  refine tp_pc (pc' := 307) (by rfl) ?_
  refine lv_iinc (v := 2) (lv' := [(1, .int 2), (4, .int 3), (6, .int 0), (5, .int 0), (3, .int 2), (2, .int 0), (0, .ref h0)]) hx hb d_Ref_encode_307 hl (k := 5) rfl (by first | rfl | decide) (by decide) rfl ?_
  clear hl ls
  intro ls hl
  refine lv_goto (tgt := 129) hx hb d_Ref_encode_310 (by decide) ?_
  refine tp_pc (pc' := 129) (by rfl) ?_
  refine lv_iload_n hx hb d_Ref_encode_129 rfl (lv_at hl 0 rfl) ?_
  refine lv_iconst (v := 4) hx hb d_Ref_encode_130 (by decide) ?_
  refine lv_icmp_ge (tgt := 313) hx hb d_Ref_encode_131 (by decide) (fun c_75 => absurd c_75 (by decide)) (fun c_75 => ?_)
  refine tp_pc (pc' := 134) (by rfl) ?_
  refine lv_aload_n hx hb d_Ref_encode_134 rfl (lv_at hl 6 rfl) ?_
  refine va_get (D := (dC, dI)) (ci := 8) (v := .int 2) (C := R_Ref) (T := F_Ref) (N := 48) hx hb hw i_Ref hown hK hP 1 rfl rfl 19 (by decide) (hw _ m_918) (fun _ h9 => h9) rfl d_Ref_encode_135 ?_
  refine lv_if_le (tgt := 313) hx hb d_Ref_encode_138 (by decide) (fun c_76 => absurd c_76 (by decide)) (fun c_76 => ?_)
  refine tp_pc (pc' := 141) (by rfl) ?_
  refine lv_aload_n hx hb d_Ref_encode_141 rfl (lv_at hl 6 rfl) ?_
  refine va_get (D := (dC, dI)) (ci := 8) (v := .int 2) (C := R_Ref) (T := F_Ref) (N := 48) hx hb hw i_Ref hown hK hP 1 rfl rfl 19 (by decide) (hw _ m_918) (fun _ h9 => h9) rfl d_Ref_encode_142 ?_
  refine lv_iconst (v := 1) hx hb d_Ref_encode_145 (by decide) ?_
  refine lv_icmp_ne (tgt := 153) hx hb d_Ref_encode_146 (by decide) (fun c_77 => ?_) (fun c_77 => absurd c_77 (by decide))
  refine tp_pc (pc' := 153) (by rfl) ?_
  refine lv_iconst (v := 0) hx hb d_Ref_encode_153 (by decide) ?_
  refine lv_istore_n (lv' := [(2, .int 0), (1, .int 2), (4, .int 3), (6, .int 0), (5, .int 0), (3, .int 2), (0, .ref h0)]) hx hb d_Ref_encode_154 rfl hl (by decide) rfl ?_
  clear hl ls
  intro ls hl
  refine lv_aload_n hx hb d_Ref_encode_155 rfl (lv_at hl 6 rfl) ?_
  refine va_get (D := (dC, dI)) (ci := 8) (v := .int 2) (C := R_Ref) (T := F_Ref) (N := 48) hx hb hw i_Ref hown hK hP 1 rfl rfl 19 (by decide) (hw _ m_918) (fun _ h9 => h9) rfl d_Ref_encode_156 ?_
  refine lv_iconst (v := 1) hx hb d_Ref_encode_159 (by decide) ?_
  refine lv_icmp_ne (tgt := 167) hx hb d_Ref_encode_160 (by decide) (fun c_78 => ?_) (fun c_78 => absurd c_78 (by decide))
  refine tp_pc (pc' := 167) (by rfl) ?_
  refine lv_iconst (v := 2) hx hb d_Ref_encode_167 (by decide) ?_
  refine lv_istore_n (lv' := [(3, .int 2), (2, .int 0), (1, .int 2), (4, .int 3), (6, .int 0), (5, .int 0), (0, .ref h0)]) hx hb d_Ref_encode_168 rfl hl (by decide) rfl ?_
  clear hl ls
  intro ls hl
  refine lv_iload_n hx hb d_Ref_encode_169 rfl (lv_at hl 1 rfl) ?_
  refine lv_istore (lv' := [(4, .int 0), (3, .int 2), (2, .int 0), (1, .int 2), (6, .int 0), (5, .int 0), (0, .ref h0)]) hx hb d_Ref_encode_170 hl (by decide) rfl ?_
  clear hl ls
  intro ls hl
  refine lv_iload hx hb d_Ref_encode_172 (lv_at hl 0 rfl) ?_
  refine lv_iload_n hx hb d_Ref_encode_174 rfl (lv_at hl 1 rfl) ?_
  refine lv_icmp_gt (tgt := 307) hx hb d_Ref_encode_175 (by decide) (fun c_79 => absurd c_79 (by decide)) (fun c_79 => ?_)
  refine tp_pc (pc' := 178) (by rfl) ?_
  refine lv_iconst (v := 0) hx hb d_Ref_encode_178 (by decide) ?_
  refine lv_istore (lv' := [(5, .int 0), (4, .int 0), (3, .int 2), (2, .int 0), (1, .int 2), (6, .int 0), (0, .ref h0)]) hx hb d_Ref_encode_179 hl (by decide) rfl ?_
  clear hl ls
  intro ls hl
  refine lv_iconst (v := 0) hx hb d_Ref_encode_181 (by decide) ?_
  refine lv_istore (lv' := [(6, .int 0), (5, .int 0), (4, .int 0), (3, .int 2), (2, .int 0), (1, .int 2), (0, .ref h0)]) hx hb d_Ref_encode_182 hl (by decide) rfl ?_
  clear hl ls
  intro ls hl
  refine lv_iload hx hb d_Ref_encode_184 (lv_at hl 0 rfl) ?_
  refine lv_aload_n hx hb d_Ref_encode_186 rfl (lv_at hl 6 rfl) ?_
  refine va_get (D := (dC, dI)) (ci := 8) (v := .ref h14) (C := R_Ref) (T := F_Ref) (N := 48) hx hb hw i_Ref hown hK hP 1 rfl rfl 16 (by decide) (hw _ m_915) (fun _ h9 => h9) rfl d_Ref_encode_187 ?_
  refine lv_bipush (v := 15) hx hb d_Ref_encode_190 (by decide) ?_
  refine va_iald (D := (dC, dI)) hx hb hK hP 0 0 rfl rfl (i := 15) (vp_c (by decide)) d_Ref_encode_192 ?_
  refine tp_i (y := 0) (by first | rfl | decide) ?_
  refine lv_icmp_ge (tgt := 224) hx hb d_Ref_encode_193 (by decide) (fun c_80 => ?_) (fun c_80 => absurd c_80 (by decide))
  refine tp_pc (pc' := 224) (by rfl) ?_
  refine lv_aload_n hx hb d_Ref_encode_224 rfl (lv_at hl 6 rfl) ?_
  refine lv_iload hx hb d_Ref_encode_225 (lv_at hl 1 rfl) ?_
  refine lv_i2l (v := 0) hx hb d_Ref_encode_227 (by decide) ?_
  refine lv_iconst (v := 3) hx hb d_Ref_encode_228 (by decide) ?_
  obtain ⟨hPc, hDc, hFc⟩ := cut3 (wc := [oc h0 8 [.int p0, .int p1, .ref h1, .ref h2, .ref h3, .ref h4, .ref h5, .ref h6, .ref h7, .ref h8, .ref h9, .ref h10, .ref h11, .ref h12, .int p2, .ref h13, .ref h14, .ref h15, .ref h16, .int 2, .int p4, .ref h17, .ref h18, .ref h19, .int p5, .ref h20, .int 107, .int p7, .ref h21, .ref h22, .ref h23, .ref h24, .ref h25, .ref h26, .ref h27, .ref h28, .int p8, .int p9, .ref h29, .ref h30, .ref h31, .ref h32, .ref h33, .ref h34, .ref h35, .ref h36, .int p10, .ref h37], la h20 k19 5 (vp_updL (vp_updL (vp_updL (vp_updL (vp_updL (vp_updL (vp_updL (vp_updL (vp_updL (vp_updL (vp_updL (vp_updL (vp_updL (vp_updL (vp_updL (vp_updL (vp_updL (vp_updL (vp_updL (vp_updL (vp_updL (vp_updL (vp_updL (vp_updL (vp_updL (vp_updL (vp_updL f19 0 0) 1 0) 2 0) 3 0) 4 0) 0 0) 0 0) 0 0) 0 0) 0 262144) 0 33816576) 0 4328783872) 0 554084597760) 0 70922828775424) 0 9078122083516416) 0 1161999626690363392) 0 1161999626690363392) 1 8) 1 1032) 1 132104) 1 16909320) 1 16909320) 1 16909320) 1 16909320) 1 16909320) 1 16909320) 1 16909320)]) hP hD rfl hS hA [1, 2] (by decide +kernel) rfl
  have hKc := hK.sub (tys' := [(k19, .long)]) [1] rfl
  refine va_callv (va_runV (As := [.long 0, .int 3]) (rest := []) ⟨hx, hb, hml, hown, hw⟩ (c_Ref_bits_v22 l dC dI h0 0 p0 p1 h1 h2 h3 h4 h5 h6 h7 h8 h9 h10 h11 h12 p2 h13 h14 h15 h16 2 p4 h17 h18 h19 p5 h20 p7 h21 h22 h23 h24 h25 h26 h27 h28 p8 p9 h29 h30 h31 h32 h33 h34 h35 h36 p10 h37 k19 (vp_updL (vp_updL (vp_updL (vp_updL (vp_updL (vp_updL (vp_updL (vp_updL (vp_updL (vp_updL (vp_updL (vp_updL (vp_updL (vp_updL (vp_updL (vp_updL (vp_updL (vp_updL (vp_updL (vp_updL (vp_updL (vp_updL (vp_updL (vp_updL (vp_updL (vp_updL (vp_updL f19 0 0) 1 0) 2 0) 3 0) 4 0) 0 0) 0 0) 0 0) 0 0) 0 262144) 0 33816576) 0 4328783872) 0 554084597760) 0 70922828775424) 0 9078122083516416) 0 1161999626690363392) 0 1161999626690363392) 1 8) 1 1032) 1 132104) 1 16909320) 1 16909320) 1 16909320) 1 16909320) 1 16909320) 1 16909320) 1 16909320) H.size) (cw_V 2 hw g_Ref_bits rfl rfl rfl (hw _ m_109) (hw _ m_1093) (hw _ m_1095) (hw _ m_58) (by decide +kernel) ⟨Nat.le_of_ble_eq_true rfl, Nat.le_of_ble_eq_true rfl⟩) ⟨fun a U g mk q => by obtain ⟨q0, q1, qP, qK, qD, qN⟩ := q; exact ⟨q0, q1, qP, va_K.moved (u := U) (U := U.calling g mk a) (Vm.Alike.refl U.vm) qK, qD, nw_call qN⟩, va_recv hKc hPc (ci := 8) (q0 := 0) rfl rfl, fun U hU hW => ⟨rfl, by rw [hU], by rw [hU]; exact hPc, va_K.moved hW.alike hKc, hDc.weaken (fun _ _ _ _ => trivial), nw_warm hW hn⟩⟩ rfl rfl hl.1 rfl (lv_room (Nat.le_of_ble_eq_true rfl)) d_Ref_encode_229 ⟨Nat.le_of_ble_eq_true rfl, Nat.le_of_ble_eq_true rfl⟩) hS (fun q _ h => hFc q h) hFc ?_
  intro u t H1 locs1 ht hvm hw1 hB hz1 hk1 hS1
  obtain ⟨hP1, hK1, hD1⟩ := hB
  rw [ht] at hP1
  replace hK1 := va_K.moved hvm.symm hK1
  have hPD := join3 hP hD rfl [1, 2] [0] rfl (by rfl) (by decide +kernel) (by decide +kernel) hk1 hFc hP1 hD1
  replace hK : va_K (dC, dI) classes [(k13, .int), (k19, .long)] s := hK.app hK1
  clear hP1 hK1 hD1 hk1 hz1 hFc hKc hDc hPc hvm ht hP hS t locs H
  have hP : va_P (dC, dI) classes [ia h14 k13 155 (fun _ => 0), oc h0 8 [.int p0, .int p1, .ref h1, .ref h2, .ref h3, .ref h4, .ref h5, .ref h6, .ref h7, .ref h8, .ref h9, .ref h10, .ref h11, .ref h12, .int p2, .ref h13, .ref h14, .ref h15, .ref h16, .int 2, .int p4, .ref h17, .ref h18, .ref h19, .int p5, .ref h20, .int 110, .int p7, .ref h21, .ref h22, .ref h23, .ref h24, .ref h25, .ref h26, .ref h27, .ref h28, .int p8, .int p9, .ref h29, .ref h30, .ref h31, .ref h32, .ref h33, .ref h34, .ref h35, .ref h36, .int p10, .ref h37], la h20 k19 5 (vp_updL (vp_updL (vp_updL (vp_updL (vp_updL (vp_updL (vp_updL (vp_updL (vp_updL (vp_updL (vp_updL (vp_updL (vp_updL (vp_updL (vp_updL (vp_updL (vp_updL (vp_updL (vp_updL (vp_updL (vp_updL (vp_updL (vp_updL (vp_updL (vp_updL (vp_updL (vp_updL (vp_updL f19 0 0) 1 0) 2 0) 3 0) 4 0) 0 0) 0 0) 0 0) 0 0) 0 262144) 0 33816576) 0 4328783872) 0 554084597760) 0 70922828775424) 0 9078122083516416) 0 1161999626690363392) 0 1161999626690363392) 1 8) 1 1032) 1 132104) 1 16909320) 1 16909320) 1 16909320) 1 16909320) 1 16909320) 1 16909320) 1 16909320) 1 ((16909320 : Int64) ||| ((0 : Int64) <<< (((43 : Int32) : Int32).toInt64 &&& 63))))] H1 := hPD.1
  rw [show (((16909320 : Int64) ||| ((0 : Int64) <<< (((43 : Int32) : Int32).toInt64 &&& 63)) : Int64)) = 16909320 from by decide] at hP
  replace hD : dd A [h14, h0, h20] := dd_of hPD.2 rfl
  clear hPD
  revert H1 locs1
  intro H locs hS hP
  clear hw1 u
  refine tp_pc (pc' := 232) (by rfl) ?_
  refine lv_iconst (v := 0) hx hb d_Ref_encode_232 (by decide) ?_
  refine lv_istore (lv' := [(6, .int 0), (5, .int 0), (4, .int 0), (3, .int 2), (2, .int 0), (1, .int 2), (0, .ref h0)]) hx hb d_Ref_encode_233 hl (by decide) rfl ?_
  clear hl ls
  intro ls hl
  refine lv_iload hx hb d_Ref_encode_235 (lv_at hl 0 rfl) ?_
  refine lv_aload_n hx hb d_Ref_encode_237 rfl (lv_at hl 6 rfl) ?_
  refine va_get (D := (dC, dI)) (ci := 8) (v := .ref h14) (C := R_Ref) (T := F_Ref) (N := 48) hx hb hw i_Ref hown hK hP 1 rfl rfl 16 (by decide) (hw _ m_915) (fun _ h9 => h9) rfl d_Ref_encode_238 ?_
  refine lv_bipush (v := 15) hx hb d_Ref_encode_241 (by decide) ?_
  refine va_iald (D := (dC, dI)) hx hb hK hP 0 0 rfl rfl (i := 15) (vp_c (by decide)) d_Ref_encode_243 ?_
  refine tp_i (y := 0) (by first | rfl | decide) ?_
  refine lv_icmp_ge (tgt := 301) hx hb d_Ref_encode_244 (by decide) (fun c_82 => ?_) (fun c_82 => absurd c_82 (by decide))
  refine tp_pc (pc' := 301) (by rfl) ?_
  refine lv_iinc (v := 1) (lv' := [(4, .int 1), (6, .int 0), (5, .int 0), (3, .int 2), (2, .int 0), (1, .int 2), (0, .ref h0)]) hx hb d_Ref_encode_301 hl (k := 2) rfl (by first | rfl | decide) (by decide) rfl ?_
  clear hl ls
  intro ls hl
  refine lv_goto (tgt := 172) hx hb d_Ref_encode_304 (by decide) ?_
  refine tp_pc (pc' := 172) (by rfl) ?_
  refine lv_iload hx hb d_Ref_encode_172 (lv_at hl 0 rfl) ?_
  refine lv_iload_n hx hb d_Ref_encode_174 rfl (lv_at hl 3 rfl) ?_
  refine lv_icmp_gt (tgt := 307) hx hb d_Ref_encode_175 (by decide) (fun c_83 => absurd c_83 (by decide)) (fun c_83 => ?_)
  refine tp_pc (pc' := 178) (by rfl) ?_
  refine lv_iconst (v := 0) hx hb d_Ref_encode_178 (by decide) ?_
  refine lv_istore (lv' := [(5, .int 0), (4, .int 1), (6, .int 0), (3, .int 2), (2, .int 0), (1, .int 2), (0, .ref h0)]) hx hb d_Ref_encode_179 hl (by decide) rfl ?_
  clear hl ls
  intro ls hl
  refine lv_iconst (v := 0) hx hb d_Ref_encode_181 (by decide) ?_
  refine lv_istore (lv' := [(6, .int 0), (5, .int 0), (4, .int 1), (3, .int 2), (2, .int 0), (1, .int 2), (0, .ref h0)]) hx hb d_Ref_encode_182 hl (by decide) rfl ?_
  clear hl ls
  intro ls hl
  refine lv_iload hx hb d_Ref_encode_184 (lv_at hl 0 rfl) ?_
  refine lv_aload_n hx hb d_Ref_encode_186 rfl (lv_at hl 6 rfl) ?_
  refine va_get (D := (dC, dI)) (ci := 8) (v := .ref h14) (C := R_Ref) (T := F_Ref) (N := 48) hx hb hw i_Ref hown hK hP 1 rfl rfl 16 (by decide) (hw _ m_915) (fun _ h9 => h9) rfl d_Ref_encode_187 ?_
  refine lv_bipush (v := 15) hx hb d_Ref_encode_190 (by decide) ?_
  refine va_iald (D := (dC, dI)) hx hb hK hP 0 0 rfl rfl (i := 15) (vp_c (by decide)) d_Ref_encode_192 ?_
  refine tp_i (y := 0) (by first | rfl | decide) ?_
  refine lv_icmp_ge (tgt := 224) hx hb d_Ref_encode_193 (by decide) (fun c_84 => ?_) (fun c_84 => absurd c_84 (by decide))
  refine tp_pc (pc' := 224) (by rfl) ?_
  refine lv_aload_n hx hb d_Ref_encode_224 rfl (lv_at hl 6 rfl) ?_
  refine lv_iload hx hb d_Ref_encode_225 (lv_at hl 1 rfl) ?_
  refine lv_i2l (v := 0) hx hb d_Ref_encode_227 (by decide) ?_
  refine lv_iconst (v := 3) hx hb d_Ref_encode_228 (by decide) ?_
  obtain ⟨hPc, hDc, hFc⟩ := cut3 (wc := [oc h0 8 [.int p0, .int p1, .ref h1, .ref h2, .ref h3, .ref h4, .ref h5, .ref h6, .ref h7, .ref h8, .ref h9, .ref h10, .ref h11, .ref h12, .int p2, .ref h13, .ref h14, .ref h15, .ref h16, .int 2, .int p4, .ref h17, .ref h18, .ref h19, .int p5, .ref h20, .int 110, .int p7, .ref h21, .ref h22, .ref h23, .ref h24, .ref h25, .ref h26, .ref h27, .ref h28, .int p8, .int p9, .ref h29, .ref h30, .ref h31, .ref h32, .ref h33, .ref h34, .ref h35, .ref h36, .int p10, .ref h37], la h20 k19 5 (vp_updL (vp_updL (vp_updL (vp_updL (vp_updL (vp_updL (vp_updL (vp_updL (vp_updL (vp_updL (vp_updL (vp_updL (vp_updL (vp_updL (vp_updL (vp_updL (vp_updL (vp_updL (vp_updL (vp_updL (vp_updL (vp_updL (vp_updL (vp_updL (vp_updL (vp_updL (vp_updL (vp_updL f19 0 0) 1 0) 2 0) 3 0) 4 0) 0 0) 0 0) 0 0) 0 0) 0 262144) 0 33816576) 0 4328783872) 0 554084597760) 0 70922828775424) 0 9078122083516416) 0 1161999626690363392) 0 1161999626690363392) 1 8) 1 1032) 1 132104) 1 16909320) 1 16909320) 1 16909320) 1 16909320) 1 16909320) 1 16909320) 1 16909320) 1 16909320)]) hP hD rfl hS hA [1, 2] (by decide +kernel) rfl
  have hKc := hK.sub (tys' := [(k19, .long)]) [1] rfl
  refine va_callv (va_runV (As := [.long 0, .int 3]) (rest := []) ⟨hx, hb, hml, hown, hw⟩ (c_Ref_bits_v23 l dC dI h0 0 p0 p1 h1 h2 h3 h4 h5 h6 h7 h8 h9 h10 h11 h12 p2 h13 h14 h15 h16 2 p4 h17 h18 h19 p5 h20 p7 h21 h22 h23 h24 h25 h26 h27 h28 p8 p9 h29 h30 h31 h32 h33 h34 h35 h36 p10 h37 k19 (vp_updL (vp_updL (vp_updL (vp_updL (vp_updL (vp_updL (vp_updL (vp_updL (vp_updL (vp_updL (vp_updL (vp_updL (vp_updL (vp_updL (vp_updL (vp_updL (vp_updL (vp_updL (vp_updL (vp_updL (vp_updL (vp_updL (vp_updL (vp_updL (vp_updL (vp_updL (vp_updL (vp_updL f19 0 0) 1 0) 2 0) 3 0) 4 0) 0 0) 0 0) 0 0) 0 0) 0 262144) 0 33816576) 0 4328783872) 0 554084597760) 0 70922828775424) 0 9078122083516416) 0 1161999626690363392) 0 1161999626690363392) 1 8) 1 1032) 1 132104) 1 16909320) 1 16909320) 1 16909320) 1 16909320) 1 16909320) 1 16909320) 1 16909320) 1 16909320) H.size) (cw_V 2 hw g_Ref_bits rfl rfl rfl (hw _ m_109) (hw _ m_1093) (hw _ m_1095) (hw _ m_58) (by decide +kernel) ⟨Nat.le_of_ble_eq_true rfl, Nat.le_of_ble_eq_true rfl⟩) ⟨fun a U g mk q => by obtain ⟨q0, q1, qP, qK, qD, qN⟩ := q; exact ⟨q0, q1, qP, va_K.moved (u := U) (U := U.calling g mk a) (Vm.Alike.refl U.vm) qK, qD, nw_call qN⟩, va_recv hKc hPc (ci := 8) (q0 := 0) rfl rfl, fun U hU hW => ⟨rfl, by rw [hU], by rw [hU]; exact hPc, va_K.moved hW.alike hKc, hDc.weaken (fun _ _ _ _ => trivial), nw_warm hW hn⟩⟩ rfl rfl hl.1 rfl (lv_room (Nat.le_of_ble_eq_true rfl)) d_Ref_encode_229 ⟨Nat.le_of_ble_eq_true rfl, Nat.le_of_ble_eq_true rfl⟩) hS (fun q _ h => hFc q h) hFc ?_
  intro u t H1 locs1 ht hvm hw1 hB hz1 hk1 hS1
  obtain ⟨hP1, hK1, hD1⟩ := hB
  rw [ht] at hP1
  replace hK1 := va_K.moved hvm.symm hK1
  have hPD := join3 hP hD rfl [1, 2] [0] rfl (by rfl) (by decide +kernel) (by decide +kernel) hk1 hFc hP1 hD1
  replace hK : va_K (dC, dI) classes [(k13, .int), (k19, .long)] s := hK.app hK1
  clear hP1 hK1 hD1 hk1 hz1 hFc hKc hDc hPc hvm ht hP hS t locs H
  have hP : va_P (dC, dI) classes [ia h14 k13 155 (fun _ => 0), oc h0 8 [.int p0, .int p1, .ref h1, .ref h2, .ref h3, .ref h4, .ref h5, .ref h6, .ref h7, .ref h8, .ref h9, .ref h10, .ref h11, .ref h12, .int p2, .ref h13, .ref h14, .ref h15, .ref h16, .int 2, .int p4, .ref h17, .ref h18, .ref h19, .int p5, .ref h20, .int 113, .int p7, .ref h21, .ref h22, .ref h23, .ref h24, .ref h25, .ref h26, .ref h27, .ref h28, .int p8, .int p9, .ref h29, .ref h30, .ref h31, .ref h32, .ref h33, .ref h34, .ref h35, .ref h36, .int p10, .ref h37], la h20 k19 5 (vp_updL (vp_updL (vp_updL (vp_updL (vp_updL (vp_updL (vp_updL (vp_updL (vp_updL (vp_updL (vp_updL (vp_updL (vp_updL (vp_updL (vp_updL (vp_updL (vp_updL (vp_updL (vp_updL (vp_updL (vp_updL (vp_updL (vp_updL (vp_updL (vp_updL (vp_updL (vp_updL (vp_updL (vp_updL f19 0 0) 1 0) 2 0) 3 0) 4 0) 0 0) 0 0) 0 0) 0 0) 0 262144) 0 33816576) 0 4328783872) 0 554084597760) 0 70922828775424) 0 9078122083516416) 0 1161999626690363392) 0 1161999626690363392) 1 8) 1 1032) 1 132104) 1 16909320) 1 16909320) 1 16909320) 1 16909320) 1 16909320) 1 16909320) 1 16909320) 1 16909320) 1 ((16909320 : Int64) ||| ((0 : Int64) <<< (((46 : Int32) : Int32).toInt64 &&& 63))))] H1 := hPD.1
  rw [show (((16909320 : Int64) ||| ((0 : Int64) <<< (((46 : Int32) : Int32).toInt64 &&& 63)) : Int64)) = 16909320 from by decide] at hP
  replace hD : dd A [h14, h0, h20] := dd_of hPD.2 rfl
  clear hPD
  revert H1 locs1
  intro H locs hS hP
  clear hw1 u
  refine tp_pc (pc' := 232) (by rfl) ?_
  refine lv_iconst (v := 0) hx hb d_Ref_encode_232 (by decide) ?_
  refine lv_istore (lv' := [(6, .int 0), (5, .int 0), (4, .int 1), (3, .int 2), (2, .int 0), (1, .int 2), (0, .ref h0)]) hx hb d_Ref_encode_233 hl (by decide) rfl ?_
  clear hl ls
  intro ls hl
  refine lv_iload hx hb d_Ref_encode_235 (lv_at hl 0 rfl) ?_
  refine lv_aload_n hx hb d_Ref_encode_237 rfl (lv_at hl 6 rfl) ?_
  refine va_get (D := (dC, dI)) (ci := 8) (v := .ref h14) (C := R_Ref) (T := F_Ref) (N := 48) hx hb hw i_Ref hown hK hP 1 rfl rfl 16 (by decide) (hw _ m_915) (fun _ h9 => h9) rfl d_Ref_encode_238 ?_
  refine lv_bipush (v := 15) hx hb d_Ref_encode_241 (by decide) ?_
  refine va_iald (D := (dC, dI)) hx hb hK hP 0 0 rfl rfl (i := 15) (vp_c (by decide)) d_Ref_encode_243 ?_
  refine tp_i (y := 0) (by first | rfl | decide) ?_
  refine lv_icmp_ge (tgt := 301) hx hb d_Ref_encode_244 (by decide) (fun c_86 => ?_) (fun c_86 => absurd c_86 (by decide))
  refine tp_pc (pc' := 301) (by rfl) ?_
  refine lv_iinc (v := 2) (lv' := [(4, .int 2), (6, .int 0), (5, .int 0), (3, .int 2), (2, .int 0), (1, .int 2), (0, .ref h0)]) hx hb d_Ref_encode_301 hl (k := 2) rfl (by first | rfl | decide) (by decide) rfl ?_
  clear hl ls
  intro ls hl
  refine lv_goto (tgt := 172) hx hb d_Ref_encode_304 (by decide) ?_
  refine tp_pc (pc' := 172) (by rfl) ?_
  refine lv_iload hx hb d_Ref_encode_172 (lv_at hl 0 rfl) ?_
  refine lv_iload_n hx hb d_Ref_encode_174 rfl (lv_at hl 3 rfl) ?_
  refine lv_icmp_gt (tgt := 307) hx hb d_Ref_encode_175 (by decide) (fun c_87 => absurd c_87 (by decide)) (fun c_87 => ?_)
  refine tp_pc (pc' := 178) (by rfl) ?_
  refine lv_iconst (v := 0) hx hb d_Ref_encode_178 (by decide) ?_
  refine lv_istore (lv' := [(5, .int 0), (4, .int 2), (6, .int 0), (3, .int 2), (2, .int 0), (1, .int 2), (0, .ref h0)]) hx hb d_Ref_encode_179 hl (by decide) rfl ?_
  clear hl ls
  intro ls hl
  refine lv_iconst (v := 0) hx hb d_Ref_encode_181 (by decide) ?_
  refine lv_istore (lv' := [(6, .int 0), (5, .int 0), (4, .int 2), (3, .int 2), (2, .int 0), (1, .int 2), (0, .ref h0)]) hx hb d_Ref_encode_182 hl (by decide) rfl ?_
  clear hl ls
  intro ls hl
  refine lv_iload hx hb d_Ref_encode_184 (lv_at hl 0 rfl) ?_
  refine lv_aload_n hx hb d_Ref_encode_186 rfl (lv_at hl 6 rfl) ?_
  refine va_get (D := (dC, dI)) (ci := 8) (v := .ref h14) (C := R_Ref) (T := F_Ref) (N := 48) hx hb hw i_Ref hown hK hP 1 rfl rfl 16 (by decide) (hw _ m_915) (fun _ h9 => h9) rfl d_Ref_encode_187 ?_
  refine lv_bipush (v := 15) hx hb d_Ref_encode_190 (by decide) ?_
  refine va_iald (D := (dC, dI)) hx hb hK hP 0 0 rfl rfl (i := 15) (vp_c (by decide)) d_Ref_encode_192 ?_
  refine tp_i (y := 0) (by first | rfl | decide) ?_
  refine lv_icmp_ge (tgt := 224) hx hb d_Ref_encode_193 (by decide) (fun c_88 => ?_) (fun c_88 => absurd c_88 (by decide))
  refine tp_pc (pc' := 224) (by rfl) ?_
  refine lv_aload_n hx hb d_Ref_encode_224 rfl (lv_at hl 6 rfl) ?_
  refine lv_iload hx hb d_Ref_encode_225 (lv_at hl 1 rfl) ?_
  refine lv_i2l (v := 0) hx hb d_Ref_encode_227 (by decide) ?_
  refine lv_iconst (v := 3) hx hb d_Ref_encode_228 (by decide) ?_
  obtain ⟨hPc, hDc, hFc⟩ := cut3 (wc := [oc h0 8 [.int p0, .int p1, .ref h1, .ref h2, .ref h3, .ref h4, .ref h5, .ref h6, .ref h7, .ref h8, .ref h9, .ref h10, .ref h11, .ref h12, .int p2, .ref h13, .ref h14, .ref h15, .ref h16, .int 2, .int p4, .ref h17, .ref h18, .ref h19, .int p5, .ref h20, .int 113, .int p7, .ref h21, .ref h22, .ref h23, .ref h24, .ref h25, .ref h26, .ref h27, .ref h28, .int p8, .int p9, .ref h29, .ref h30, .ref h31, .ref h32, .ref h33, .ref h34, .ref h35, .ref h36, .int p10, .ref h37], la h20 k19 5 (vp_updL (vp_updL (vp_updL (vp_updL (vp_updL (vp_updL (vp_updL (vp_updL (vp_updL (vp_updL (vp_updL (vp_updL (vp_updL (vp_updL (vp_updL (vp_updL (vp_updL (vp_updL (vp_updL (vp_updL (vp_updL (vp_updL (vp_updL (vp_updL (vp_updL (vp_updL (vp_updL (vp_updL (vp_updL f19 0 0) 1 0) 2 0) 3 0) 4 0) 0 0) 0 0) 0 0) 0 0) 0 262144) 0 33816576) 0 4328783872) 0 554084597760) 0 70922828775424) 0 9078122083516416) 0 1161999626690363392) 0 1161999626690363392) 1 8) 1 1032) 1 132104) 1 16909320) 1 16909320) 1 16909320) 1 16909320) 1 16909320) 1 16909320) 1 16909320) 1 16909320) 1 16909320)]) hP hD rfl hS hA [1, 2] (by decide +kernel) rfl
  have hKc := hK.sub (tys' := [(k19, .long)]) [1] rfl
  refine va_callv (va_runV (As := [.long 0, .int 3]) (rest := []) ⟨hx, hb, hml, hown, hw⟩ (c_Ref_bits_v24 l dC dI h0 0 p0 p1 h1 h2 h3 h4 h5 h6 h7 h8 h9 h10 h11 h12 p2 h13 h14 h15 h16 2 p4 h17 h18 h19 p5 h20 p7 h21 h22 h23 h24 h25 h26 h27 h28 p8 p9 h29 h30 h31 h32 h33 h34 h35 h36 p10 h37 k19 (vp_updL (vp_updL (vp_updL (vp_updL (vp_updL (vp_updL (vp_updL (vp_updL (vp_updL (vp_updL (vp_updL (vp_updL (vp_updL (vp_updL (vp_updL (vp_updL (vp_updL (vp_updL (vp_updL (vp_updL (vp_updL (vp_updL (vp_updL (vp_updL (vp_updL (vp_updL (vp_updL (vp_updL (vp_updL f19 0 0) 1 0) 2 0) 3 0) 4 0) 0 0) 0 0) 0 0) 0 0) 0 262144) 0 33816576) 0 4328783872) 0 554084597760) 0 70922828775424) 0 9078122083516416) 0 1161999626690363392) 0 1161999626690363392) 1 8) 1 1032) 1 132104) 1 16909320) 1 16909320) 1 16909320) 1 16909320) 1 16909320) 1 16909320) 1 16909320) 1 16909320) 1 16909320) H.size) (cw_V 2 hw g_Ref_bits rfl rfl rfl (hw _ m_109) (hw _ m_1093) (hw _ m_1095) (hw _ m_58) (by decide +kernel) ⟨Nat.le_of_ble_eq_true rfl, Nat.le_of_ble_eq_true rfl⟩) ⟨fun a U g mk q => by obtain ⟨q0, q1, qP, qK, qD, qN⟩ := q; exact ⟨q0, q1, qP, va_K.moved (u := U) (U := U.calling g mk a) (Vm.Alike.refl U.vm) qK, qD, nw_call qN⟩, va_recv hKc hPc (ci := 8) (q0 := 0) rfl rfl, fun U hU hW => ⟨rfl, by rw [hU], by rw [hU]; exact hPc, va_K.moved hW.alike hKc, hDc.weaken (fun _ _ _ _ => trivial), nw_warm hW hn⟩⟩ rfl rfl hl.1 rfl (lv_room (Nat.le_of_ble_eq_true rfl)) d_Ref_encode_229 ⟨Nat.le_of_ble_eq_true rfl, Nat.le_of_ble_eq_true rfl⟩) hS (fun q _ h => hFc q h) hFc ?_
  intro u t H1 locs1 ht hvm hw1 hB hz1 hk1 hS1
  obtain ⟨hP1, hK1, hD1⟩ := hB
  rw [ht] at hP1
  replace hK1 := va_K.moved hvm.symm hK1
  have hPD := join3 hP hD rfl [1, 2] [0] rfl (by rfl) (by decide +kernel) (by decide +kernel) hk1 hFc hP1 hD1
  replace hK : va_K (dC, dI) classes [(k13, .int), (k19, .long)] s := hK.app hK1
  clear hP1 hK1 hD1 hk1 hz1 hFc hKc hDc hPc hvm ht hP hS t locs H
  have hP : va_P (dC, dI) classes [ia h14 k13 155 (fun _ => 0), oc h0 8 [.int p0, .int p1, .ref h1, .ref h2, .ref h3, .ref h4, .ref h5, .ref h6, .ref h7, .ref h8, .ref h9, .ref h10, .ref h11, .ref h12, .int p2, .ref h13, .ref h14, .ref h15, .ref h16, .int 2, .int p4, .ref h17, .ref h18, .ref h19, .int p5, .ref h20, .int 116, .int p7, .ref h21, .ref h22, .ref h23, .ref h24, .ref h25, .ref h26, .ref h27, .ref h28, .int p8, .int p9, .ref h29, .ref h30, .ref h31, .ref h32, .ref h33, .ref h34, .ref h35, .ref h36, .int p10, .ref h37], la h20 k19 5 (vp_updL (vp_updL (vp_updL (vp_updL (vp_updL (vp_updL (vp_updL (vp_updL (vp_updL (vp_updL (vp_updL (vp_updL (vp_updL (vp_updL (vp_updL (vp_updL (vp_updL (vp_updL (vp_updL (vp_updL (vp_updL (vp_updL (vp_updL (vp_updL (vp_updL (vp_updL (vp_updL (vp_updL (vp_updL (vp_updL f19 0 0) 1 0) 2 0) 3 0) 4 0) 0 0) 0 0) 0 0) 0 0) 0 262144) 0 33816576) 0 4328783872) 0 554084597760) 0 70922828775424) 0 9078122083516416) 0 1161999626690363392) 0 1161999626690363392) 1 8) 1 1032) 1 132104) 1 16909320) 1 16909320) 1 16909320) 1 16909320) 1 16909320) 1 16909320) 1 16909320) 1 16909320) 1 16909320) 1 ((16909320 : Int64) ||| ((0 : Int64) <<< (((49 : Int32) : Int32).toInt64 &&& 63))))] H1 := hPD.1
  rw [show (((16909320 : Int64) ||| ((0 : Int64) <<< (((49 : Int32) : Int32).toInt64 &&& 63)) : Int64)) = 16909320 from by decide] at hP
  replace hD : dd A [h14, h0, h20] := dd_of hPD.2 rfl
  clear hPD
  revert H1 locs1
  intro H locs hS hP
  clear hw1 u
  refine tp_pc (pc' := 232) (by rfl) ?_
  refine lv_iconst (v := 0) hx hb d_Ref_encode_232 (by decide) ?_
  refine lv_istore (lv' := [(6, .int 0), (5, .int 0), (4, .int 2), (3, .int 2), (2, .int 0), (1, .int 2), (0, .ref h0)]) hx hb d_Ref_encode_233 hl (by decide) rfl ?_
  clear hl ls
  intro ls hl
  refine lv_iload hx hb d_Ref_encode_235 (lv_at hl 0 rfl) ?_
  refine lv_aload_n hx hb d_Ref_encode_237 rfl (lv_at hl 6 rfl) ?_
  refine va_get (D := (dC, dI)) (ci := 8) (v := .ref h14) (C := R_Ref) (T := F_Ref) (N := 48) hx hb hw i_Ref hown hK hP 1 rfl rfl 16 (by decide) (hw _ m_915) (fun _ h9 => h9) rfl d_Ref_encode_238 ?_
  refine lv_bipush (v := 15) hx hb d_Ref_encode_241 (by decide) ?_
  refine va_iald (D := (dC, dI)) hx hb hK hP 0 0 rfl rfl (i := 15) (vp_c (by decide)) d_Ref_encode_243 ?_
  refine tp_i (y := 0) (by first | rfl | decide) ?_
  refine lv_icmp_ge (tgt := 301) hx hb d_Ref_encode_244 (by decide) (fun c_90 => ?_) (fun c_90 => absurd c_90 (by decide))
  refine tp_pc (pc' := 301) (by rfl) ?_
  refine lv_iinc (v := 3) (lv' := [(4, .int 3), (6, .int 0), (5, .int 0), (3, .int 2), (2, .int 0), (1, .int 2), (0, .ref h0)]) hx hb d_Ref_encode_301 hl (k := 2) rfl (by first | rfl | decide) (by decide) rfl ?_
  clear hl ls
  intro ls hl
  refine lv_goto (tgt := 172) hx hb d_Ref_encode_304 (by decide) ?_
  refine tp_pc (pc' := 172) (by rfl) ?_
  refine lv_iload hx hb d_Ref_encode_172 (lv_at hl 0 rfl) ?_
  refine lv_iload_n hx hb d_Ref_encode_174 rfl (lv_at hl 3 rfl) ?_
  refine lv_icmp_gt (tgt := 307) hx hb d_Ref_encode_175 (by decide) (fun c_91 => ?_) (fun c_91 => absurd c_91 (by decide))
  refine tp_pc (pc' := 307) (by rfl) ?_
  refine lv_iinc (v := 3) (lv' := [(1, .int 3), (4, .int 3), (6, .int 0), (5, .int 0), (3, .int 2), (2, .int 0), (0, .ref h0)]) hx hb d_Ref_encode_307 hl (k := 5) rfl (by first | rfl | decide) (by decide) rfl ?_
  clear hl ls
  intro ls hl
  refine lv_goto (tgt := 129) hx hb d_Ref_encode_310 (by decide) ?_
  refine tp_pc (pc' := 129) (by rfl) ?_
  refine lv_iload_n hx hb d_Ref_encode_129 rfl (lv_at hl 0 rfl) ?_
  refine lv_iconst (v := 4) hx hb d_Ref_encode_130 (by decide) ?_
  refine lv_icmp_ge (tgt := 313) hx hb d_Ref_encode_131 (by decide) (fun c_92 => absurd c_92 (by decide)) (fun c_92 => ?_)
  refine tp_pc (pc' := 134) (by rfl) ?_
  refine lv_aload_n hx hb d_Ref_encode_134 rfl (lv_at hl 6 rfl) ?_
  refine va_get (D := (dC, dI)) (ci := 8) (v := .int 2) (C := R_Ref) (T := F_Ref) (N := 48) hx hb hw i_Ref hown hK hP 1 rfl rfl 19 (by decide) (hw _ m_918) (fun _ h9 => h9) rfl d_Ref_encode_135 ?_
  refine lv_if_le (tgt := 313) hx hb d_Ref_encode_138 (by decide) (fun c_93 => absurd c_93 (by decide)) (fun c_93 => ?_)
  refine tp_pc (pc' := 141) (by rfl) ?_
  refine lv_aload_n hx hb d_Ref_encode_141 rfl (lv_at hl 6 rfl) ?_
  refine va_get (D := (dC, dI)) (ci := 8) (v := .int 2) (C := R_Ref) (T := F_Ref) (N := 48) hx hb hw i_Ref hown hK hP 1 rfl rfl 19 (by decide) (hw _ m_918) (fun _ h9 => h9) rfl d_Ref_encode_142 ?_
  refine lv_iconst (v := 1) hx hb d_Ref_encode_145 (by decide) ?_
  refine lv_icmp_ne (tgt := 153) hx hb d_Ref_encode_146 (by decide) (fun c_94 => ?_) (fun c_94 => absurd c_94 (by decide))
  refine tp_pc (pc' := 153) (by rfl) ?_
  refine lv_iconst (v := 0) hx hb d_Ref_encode_153 (by decide) ?_
  refine lv_istore_n (lv' := [(2, .int 0), (1, .int 3), (4, .int 3), (6, .int 0), (5, .int 0), (3, .int 2), (0, .ref h0)]) hx hb d_Ref_encode_154 rfl hl (by decide) rfl ?_
  clear hl ls
  intro ls hl
  refine lv_aload_n hx hb d_Ref_encode_155 rfl (lv_at hl 6 rfl) ?_
  refine va_get (D := (dC, dI)) (ci := 8) (v := .int 2) (C := R_Ref) (T := F_Ref) (N := 48) hx hb hw i_Ref hown hK hP 1 rfl rfl 19 (by decide) (hw _ m_918) (fun _ h9 => h9) rfl d_Ref_encode_156 ?_
  refine lv_iconst (v := 1) hx hb d_Ref_encode_159 (by decide) ?_
  refine lv_icmp_ne (tgt := 167) hx hb d_Ref_encode_160 (by decide) (fun c_95 => ?_) (fun c_95 => absurd c_95 (by decide))
  refine tp_pc (pc' := 167) (by rfl) ?_
  refine lv_iconst (v := 2) hx hb d_Ref_encode_167 (by decide) ?_
  refine lv_istore_n (lv' := [(3, .int 2), (2, .int 0), (1, .int 3), (4, .int 3), (6, .int 0), (5, .int 0), (0, .ref h0)]) hx hb d_Ref_encode_168 rfl hl (by decide) rfl ?_
  clear hl ls
  intro ls hl
  refine lv_iload_n hx hb d_Ref_encode_169 rfl (lv_at hl 1 rfl) ?_
  refine lv_istore (lv' := [(4, .int 0), (3, .int 2), (2, .int 0), (1, .int 3), (6, .int 0), (5, .int 0), (0, .ref h0)]) hx hb d_Ref_encode_170 hl (by decide) rfl ?_
  clear hl ls
  intro ls hl
  refine lv_iload hx hb d_Ref_encode_172 (lv_at hl 0 rfl) ?_
  refine lv_iload_n hx hb d_Ref_encode_174 rfl (lv_at hl 1 rfl) ?_
  refine lv_icmp_gt (tgt := 307) hx hb d_Ref_encode_175 (by decide) (fun c_96 => absurd c_96 (by decide)) (fun c_96 => ?_)
  refine tp_pc (pc' := 178) (by rfl) ?_
  refine lv_iconst (v := 0) hx hb d_Ref_encode_178 (by decide) ?_
  refine lv_istore (lv' := [(5, .int 0), (4, .int 0), (3, .int 2), (2, .int 0), (1, .int 3), (6, .int 0), (0, .ref h0)]) hx hb d_Ref_encode_179 hl (by decide) rfl ?_
  clear hl ls
  intro ls hl
  refine lv_iconst (v := 0) hx hb d_Ref_encode_181 (by decide) ?_
  refine lv_istore (lv' := [(6, .int 0), (5, .int 0), (4, .int 0), (3, .int 2), (2, .int 0), (1, .int 3), (0, .ref h0)]) hx hb d_Ref_encode_182 hl (by decide) rfl ?_
  clear hl ls
  intro ls hl
  refine lv_iload hx hb d_Ref_encode_184 (lv_at hl 0 rfl) ?_
  refine lv_aload_n hx hb d_Ref_encode_186 rfl (lv_at hl 6 rfl) ?_
  refine va_get (D := (dC, dI)) (ci := 8) (v := .ref h14) (C := R_Ref) (T := F_Ref) (N := 48) hx hb hw i_Ref hown hK hP 1 rfl rfl 16 (by decide) (hw _ m_915) (fun _ h9 => h9) rfl d_Ref_encode_187 ?_
  refine lv_bipush (v := 15) hx hb d_Ref_encode_190 (by decide) ?_
  refine va_iald (D := (dC, dI)) hx hb hK hP 0 0 rfl rfl (i := 15) (vp_c (by decide)) d_Ref_encode_192 ?_
  refine tp_i (y := 0) (by first | rfl | decide) ?_
  refine lv_icmp_ge (tgt := 224) hx hb d_Ref_encode_193 (by decide) (fun c_97 => ?_) (fun c_97 => absurd c_97 (by decide))
  refine tp_pc (pc' := 224) (by rfl) ?_
  refine lv_aload_n hx hb d_Ref_encode_224 rfl (lv_at hl 6 rfl) ?_
  refine lv_iload hx hb d_Ref_encode_225 (lv_at hl 1 rfl) ?_
  refine lv_i2l (v := 0) hx hb d_Ref_encode_227 (by decide) ?_
  refine lv_iconst (v := 3) hx hb d_Ref_encode_228 (by decide) ?_
  obtain ⟨hPc, hDc, hFc⟩ := cut3 (wc := [oc h0 8 [.int p0, .int p1, .ref h1, .ref h2, .ref h3, .ref h4, .ref h5, .ref h6, .ref h7, .ref h8, .ref h9, .ref h10, .ref h11, .ref h12, .int p2, .ref h13, .ref h14, .ref h15, .ref h16, .int 2, .int p4, .ref h17, .ref h18, .ref h19, .int p5, .ref h20, .int 116, .int p7, .ref h21, .ref h22, .ref h23, .ref h24, .ref h25, .ref h26, .ref h27, .ref h28, .int p8, .int p9, .ref h29, .ref h30, .ref h31, .ref h32, .ref h33, .ref h34, .ref h35, .ref h36, .int p10, .ref h37], la h20 k19 5 (vp_updL (vp_updL (vp_updL (vp_updL (vp_updL (vp_updL (vp_updL (vp_updL (vp_updL (vp_updL (vp_updL (vp_updL (vp_updL (vp_updL (vp_updL (vp_updL (vp_updL (vp_updL (vp_updL (vp_updL (vp_updL (vp_updL (vp_updL (vp_updL (vp_updL (vp_updL (vp_updL (vp_updL (vp_updL (vp_updL f19 0 0) 1 0) 2 0) 3 0) 4 0) 0 0) 0 0) 0 0) 0 0) 0 262144) 0 33816576) 0 4328783872) 0 554084597760) 0 70922828775424) 0 9078122083516416) 0 1161999626690363392) 0 1161999626690363392) 1 8) 1 1032) 1 132104) 1 16909320) 1 16909320) 1 16909320) 1 16909320) 1 16909320) 1 16909320) 1 16909320) 1 16909320) 1 16909320) 1 16909320)]) hP hD rfl hS hA [1, 2] (by decide +kernel) rfl
  have hKc := hK.sub (tys' := [(k19, .long)]) [1] rfl
  refine va_callv (va_runV (As := [.long 0, .int 3]) (rest := []) ⟨hx, hb, hml, hown, hw⟩ (c_Ref_bits_v25 l dC dI h0 0 p0 p1 h1 h2 h3 h4 h5 h6 h7 h8 h9 h10 h11 h12 p2 h13 h14 h15 h16 2 p4 h17 h18 h19 p5 h20 p7 h21 h22 h23 h24 h25 h26 h27 h28 p8 p9 h29 h30 h31 h32 h33 h34 h35 h36 p10 h37 k19 (vp_updL (vp_updL (vp_updL (vp_updL (vp_updL (vp_updL (vp_updL (vp_updL (vp_updL (vp_updL (vp_updL (vp_updL (vp_updL (vp_updL (vp_updL (vp_updL (vp_updL (vp_updL (vp_updL (vp_updL (vp_updL (vp_updL (vp_updL (vp_updL (vp_updL (vp_updL (vp_updL (vp_updL (vp_updL (vp_updL f19 0 0) 1 0) 2 0) 3 0) 4 0) 0 0) 0 0) 0 0) 0 0) 0 262144) 0 33816576) 0 4328783872) 0 554084597760) 0 70922828775424) 0 9078122083516416) 0 1161999626690363392) 0 1161999626690363392) 1 8) 1 1032) 1 132104) 1 16909320) 1 16909320) 1 16909320) 1 16909320) 1 16909320) 1 16909320) 1 16909320) 1 16909320) 1 16909320) 1 16909320) H.size) (cw_V 2 hw g_Ref_bits rfl rfl rfl (hw _ m_109) (hw _ m_1093) (hw _ m_1095) (hw _ m_58) (by decide +kernel) ⟨Nat.le_of_ble_eq_true rfl, Nat.le_of_ble_eq_true rfl⟩) ⟨fun a U g mk q => by obtain ⟨q0, q1, qP, qK, qD, qN⟩ := q; exact ⟨q0, q1, qP, va_K.moved (u := U) (U := U.calling g mk a) (Vm.Alike.refl U.vm) qK, qD, nw_call qN⟩, va_recv hKc hPc (ci := 8) (q0 := 0) rfl rfl, fun U hU hW => ⟨rfl, by rw [hU], by rw [hU]; exact hPc, va_K.moved hW.alike hKc, hDc.weaken (fun _ _ _ _ => trivial), nw_warm hW hn⟩⟩ rfl rfl hl.1 rfl (lv_room (Nat.le_of_ble_eq_true rfl)) d_Ref_encode_229 ⟨Nat.le_of_ble_eq_true rfl, Nat.le_of_ble_eq_true rfl⟩) hS (fun q _ h => hFc q h) hFc ?_
  intro u t H1 locs1 ht hvm hw1 hB hz1 hk1 hS1
  obtain ⟨hP1, hK1, hD1⟩ := hB
  rw [ht] at hP1
  replace hK1 := va_K.moved hvm.symm hK1
  have hPD := join3 hP hD rfl [1, 2] [0] rfl (by rfl) (by decide +kernel) (by decide +kernel) hk1 hFc hP1 hD1
  replace hK : va_K (dC, dI) classes [(k13, .int), (k19, .long)] s := hK.app hK1
  clear hP1 hK1 hD1 hk1 hz1 hFc hKc hDc hPc hvm ht hP hS t locs H
  have hP : va_P (dC, dI) classes [ia h14 k13 155 (fun _ => 0), oc h0 8 [.int p0, .int p1, .ref h1, .ref h2, .ref h3, .ref h4, .ref h5, .ref h6, .ref h7, .ref h8, .ref h9, .ref h10, .ref h11, .ref h12, .int p2, .ref h13, .ref h14, .ref h15, .ref h16, .int 2, .int p4, .ref h17, .ref h18, .ref h19, .int p5, .ref h20, .int 119, .int p7, .ref h21, .ref h22, .ref h23, .ref h24, .ref h25, .ref h26, .ref h27, .ref h28, .int p8, .int p9, .ref h29, .ref h30, .ref h31, .ref h32, .ref h33, .ref h34, .ref h35, .ref h36, .int p10, .ref h37], la h20 k19 5 (vp_updL (vp_updL (vp_updL (vp_updL (vp_updL (vp_updL (vp_updL (vp_updL (vp_updL (vp_updL (vp_updL (vp_updL (vp_updL (vp_updL (vp_updL (vp_updL (vp_updL (vp_updL (vp_updL (vp_updL (vp_updL (vp_updL (vp_updL (vp_updL (vp_updL (vp_updL (vp_updL (vp_updL (vp_updL (vp_updL (vp_updL f19 0 0) 1 0) 2 0) 3 0) 4 0) 0 0) 0 0) 0 0) 0 0) 0 262144) 0 33816576) 0 4328783872) 0 554084597760) 0 70922828775424) 0 9078122083516416) 0 1161999626690363392) 0 1161999626690363392) 1 8) 1 1032) 1 132104) 1 16909320) 1 16909320) 1 16909320) 1 16909320) 1 16909320) 1 16909320) 1 16909320) 1 16909320) 1 16909320) 1 16909320) 1 ((16909320 : Int64) ||| ((0 : Int64) <<< (((52 : Int32) : Int32).toInt64 &&& 63))))] H1 := hPD.1
  rw [show (((16909320 : Int64) ||| ((0 : Int64) <<< (((52 : Int32) : Int32).toInt64 &&& 63)) : Int64)) = 16909320 from by decide] at hP
  replace hD : dd A [h14, h0, h20] := dd_of hPD.2 rfl
  clear hPD
  revert H1 locs1
  intro H locs hS hP
  clear hw1 u
  refine tp_pc (pc' := 232) (by rfl) ?_
  refine lv_iconst (v := 0) hx hb d_Ref_encode_232 (by decide) ?_
  refine lv_istore (lv' := [(6, .int 0), (5, .int 0), (4, .int 0), (3, .int 2), (2, .int 0), (1, .int 3), (0, .ref h0)]) hx hb d_Ref_encode_233 hl (by decide) rfl ?_
  clear hl ls
  intro ls hl
  refine lv_iload hx hb d_Ref_encode_235 (lv_at hl 0 rfl) ?_
  refine lv_aload_n hx hb d_Ref_encode_237 rfl (lv_at hl 6 rfl) ?_
  refine va_get (D := (dC, dI)) (ci := 8) (v := .ref h14) (C := R_Ref) (T := F_Ref) (N := 48) hx hb hw i_Ref hown hK hP 1 rfl rfl 16 (by decide) (hw _ m_915) (fun _ h9 => h9) rfl d_Ref_encode_238 ?_
  refine lv_bipush (v := 15) hx hb d_Ref_encode_241 (by decide) ?_
  refine va_iald (D := (dC, dI)) hx hb hK hP 0 0 rfl rfl (i := 15) (vp_c (by decide)) d_Ref_encode_243 ?_
  refine tp_i (y := 0) (by first | rfl | decide) ?_
  refine lv_icmp_ge (tgt := 301) hx hb d_Ref_encode_244 (by decide) (fun c_99 => ?_) (fun c_99 => absurd c_99 (by decide))
  refine tp_pc (pc' := 301) (by rfl) ?_
  refine lv_iinc (v := 1) (lv' := [(4, .int 1), (6, .int 0), (5, .int 0), (3, .int 2), (2, .int 0), (1, .int 3), (0, .ref h0)]) hx hb d_Ref_encode_301 hl (k := 2) rfl (by first | rfl | decide) (by decide) rfl ?_
  clear hl ls
  intro ls hl
  refine lv_goto (tgt := 172) hx hb d_Ref_encode_304 (by decide) ?_
  refine tp_pc (pc' := 172) (by rfl) ?_
  refine lv_iload hx hb d_Ref_encode_172 (lv_at hl 0 rfl) ?_
  refine lv_iload_n hx hb d_Ref_encode_174 rfl (lv_at hl 3 rfl) ?_
  refine lv_icmp_gt (tgt := 307) hx hb d_Ref_encode_175 (by decide) (fun c_100 => absurd c_100 (by decide)) (fun c_100 => ?_)
  refine tp_pc (pc' := 178) (by rfl) ?_
  refine lv_iconst (v := 0) hx hb d_Ref_encode_178 (by decide) ?_
  refine lv_istore (lv' := [(5, .int 0), (4, .int 1), (6, .int 0), (3, .int 2), (2, .int 0), (1, .int 3), (0, .ref h0)]) hx hb d_Ref_encode_179 hl (by decide) rfl ?_
  clear hl ls
  intro ls hl
  refine lv_iconst (v := 0) hx hb d_Ref_encode_181 (by decide) ?_
  refine lv_istore (lv' := [(6, .int 0), (5, .int 0), (4, .int 1), (3, .int 2), (2, .int 0), (1, .int 3), (0, .ref h0)]) hx hb d_Ref_encode_182 hl (by decide) rfl ?_
  clear hl ls
  intro ls hl
  refine lv_iload hx hb d_Ref_encode_184 (lv_at hl 0 rfl) ?_
  refine lv_aload_n hx hb d_Ref_encode_186 rfl (lv_at hl 6 rfl) ?_
  refine va_get (D := (dC, dI)) (ci := 8) (v := .ref h14) (C := R_Ref) (T := F_Ref) (N := 48) hx hb hw i_Ref hown hK hP 1 rfl rfl 16 (by decide) (hw _ m_915) (fun _ h9 => h9) rfl d_Ref_encode_187 ?_
  refine lv_bipush (v := 15) hx hb d_Ref_encode_190 (by decide) ?_
  refine va_iald (D := (dC, dI)) hx hb hK hP 0 0 rfl rfl (i := 15) (vp_c (by decide)) d_Ref_encode_192 ?_
  refine tp_i (y := 0) (by first | rfl | decide) ?_
  refine lv_icmp_ge (tgt := 224) hx hb d_Ref_encode_193 (by decide) (fun c_101 => ?_) (fun c_101 => absurd c_101 (by decide))
  refine tp_pc (pc' := 224) (by rfl) ?_
  refine lv_aload_n hx hb d_Ref_encode_224 rfl (lv_at hl 6 rfl) ?_
  refine lv_iload hx hb d_Ref_encode_225 (lv_at hl 1 rfl) ?_
  refine lv_i2l (v := 0) hx hb d_Ref_encode_227 (by decide) ?_
  refine lv_iconst (v := 3) hx hb d_Ref_encode_228 (by decide) ?_
  obtain ⟨hPc, hDc, hFc⟩ := cut3 (wc := [oc h0 8 [.int p0, .int p1, .ref h1, .ref h2, .ref h3, .ref h4, .ref h5, .ref h6, .ref h7, .ref h8, .ref h9, .ref h10, .ref h11, .ref h12, .int p2, .ref h13, .ref h14, .ref h15, .ref h16, .int 2, .int p4, .ref h17, .ref h18, .ref h19, .int p5, .ref h20, .int 119, .int p7, .ref h21, .ref h22, .ref h23, .ref h24, .ref h25, .ref h26, .ref h27, .ref h28, .int p8, .int p9, .ref h29, .ref h30, .ref h31, .ref h32, .ref h33, .ref h34, .ref h35, .ref h36, .int p10, .ref h37], la h20 k19 5 (vp_updL (vp_updL (vp_updL (vp_updL (vp_updL (vp_updL (vp_updL (vp_updL (vp_updL (vp_updL (vp_updL (vp_updL (vp_updL (vp_updL (vp_updL (vp_updL (vp_updL (vp_updL (vp_updL (vp_updL (vp_updL (vp_updL (vp_updL (vp_updL (vp_updL (vp_updL (vp_updL (vp_updL (vp_updL (vp_updL (vp_updL f19 0 0) 1 0) 2 0) 3 0) 4 0) 0 0) 0 0) 0 0) 0 0) 0 262144) 0 33816576) 0 4328783872) 0 554084597760) 0 70922828775424) 0 9078122083516416) 0 1161999626690363392) 0 1161999626690363392) 1 8) 1 1032) 1 132104) 1 16909320) 1 16909320) 1 16909320) 1 16909320) 1 16909320) 1 16909320) 1 16909320) 1 16909320) 1 16909320) 1 16909320) 1 16909320)]) hP hD rfl hS hA [1, 2] (by decide +kernel) rfl
  have hKc := hK.sub (tys' := [(k19, .long)]) [1] rfl
  refine va_callv (va_runV (As := [.long 0, .int 3]) (rest := []) ⟨hx, hb, hml, hown, hw⟩ (c_Ref_bits_v26 l dC dI h0 0 p0 p1 h1 h2 h3 h4 h5 h6 h7 h8 h9 h10 h11 h12 p2 h13 h14 h15 h16 2 p4 h17 h18 h19 p5 h20 p7 h21 h22 h23 h24 h25 h26 h27 h28 p8 p9 h29 h30 h31 h32 h33 h34 h35 h36 p10 h37 k19 (vp_updL (vp_updL (vp_updL (vp_updL (vp_updL (vp_updL (vp_updL (vp_updL (vp_updL (vp_updL (vp_updL (vp_updL (vp_updL (vp_updL (vp_updL (vp_updL (vp_updL (vp_updL (vp_updL (vp_updL (vp_updL (vp_updL (vp_updL (vp_updL (vp_updL (vp_updL (vp_updL (vp_updL (vp_updL (vp_updL (vp_updL f19 0 0) 1 0) 2 0) 3 0) 4 0) 0 0) 0 0) 0 0) 0 0) 0 262144) 0 33816576) 0 4328783872) 0 554084597760) 0 70922828775424) 0 9078122083516416) 0 1161999626690363392) 0 1161999626690363392) 1 8) 1 1032) 1 132104) 1 16909320) 1 16909320) 1 16909320) 1 16909320) 1 16909320) 1 16909320) 1 16909320) 1 16909320) 1 16909320) 1 16909320) 1 16909320) H.size) (cw_V 2 hw g_Ref_bits rfl rfl rfl (hw _ m_109) (hw _ m_1093) (hw _ m_1095) (hw _ m_58) (by decide +kernel) ⟨Nat.le_of_ble_eq_true rfl, Nat.le_of_ble_eq_true rfl⟩) ⟨fun a U g mk q => by obtain ⟨q0, q1, qP, qK, qD, qN⟩ := q; exact ⟨q0, q1, qP, va_K.moved (u := U) (U := U.calling g mk a) (Vm.Alike.refl U.vm) qK, qD, nw_call qN⟩, va_recv hKc hPc (ci := 8) (q0 := 0) rfl rfl, fun U hU hW => ⟨rfl, by rw [hU], by rw [hU]; exact hPc, va_K.moved hW.alike hKc, hDc.weaken (fun _ _ _ _ => trivial), nw_warm hW hn⟩⟩ rfl rfl hl.1 rfl (lv_room (Nat.le_of_ble_eq_true rfl)) d_Ref_encode_229 ⟨Nat.le_of_ble_eq_true rfl, Nat.le_of_ble_eq_true rfl⟩) hS (fun q _ h => hFc q h) hFc ?_
  intro u t H1 locs1 ht hvm hw1 hB hz1 hk1 hS1
  obtain ⟨hP1, hK1, hD1⟩ := hB
  rw [ht] at hP1
  replace hK1 := va_K.moved hvm.symm hK1
  have hPD := join3 hP hD rfl [1, 2] [0] rfl (by rfl) (by decide +kernel) (by decide +kernel) hk1 hFc hP1 hD1
  replace hK : va_K (dC, dI) classes [(k13, .int), (k19, .long)] s := hK.app hK1
  clear hP1 hK1 hD1 hk1 hz1 hFc hKc hDc hPc hvm ht hP hS t locs H
  have hP : va_P (dC, dI) classes [ia h14 k13 155 (fun _ => 0), oc h0 8 [.int p0, .int p1, .ref h1, .ref h2, .ref h3, .ref h4, .ref h5, .ref h6, .ref h7, .ref h8, .ref h9, .ref h10, .ref h11, .ref h12, .int p2, .ref h13, .ref h14, .ref h15, .ref h16, .int 2, .int p4, .ref h17, .ref h18, .ref h19, .int p5, .ref h20, .int 122, .int p7, .ref h21, .ref h22, .ref h23, .ref h24, .ref h25, .ref h26, .ref h27, .ref h28, .int p8, .int p9, .ref h29, .ref h30, .ref h31, .ref h32, .ref h33, .ref h34, .ref h35, .ref h36, .int p10, .ref h37], la h20 k19 5 (vp_updL (vp_updL (vp_updL (vp_updL (vp_updL (vp_updL (vp_updL (vp_updL (vp_updL (vp_updL (vp_updL (vp_updL (vp_updL (vp_updL (vp_updL (vp_updL (vp_updL (vp_updL (vp_updL (vp_updL (vp_updL (vp_updL (vp_updL (vp_updL (vp_updL (vp_updL (vp_updL (vp_updL (vp_updL (vp_updL (vp_updL (vp_updL f19 0 0) 1 0) 2 0) 3 0) 4 0) 0 0) 0 0) 0 0) 0 0) 0 262144) 0 33816576) 0 4328783872) 0 554084597760) 0 70922828775424) 0 9078122083516416) 0 1161999626690363392) 0 1161999626690363392) 1 8) 1 1032) 1 132104) 1 16909320) 1 16909320) 1 16909320) 1 16909320) 1 16909320) 1 16909320) 1 16909320) 1 16909320) 1 16909320) 1 16909320) 1 16909320) 1 ((16909320 : Int64) ||| ((0 : Int64) <<< (((55 : Int32) : Int32).toInt64 &&& 63))))] H1 := hPD.1
  rw [show (((16909320 : Int64) ||| ((0 : Int64) <<< (((55 : Int32) : Int32).toInt64 &&& 63)) : Int64)) = 16909320 from by decide] at hP
  replace hD : dd A [h14, h0, h20] := dd_of hPD.2 rfl
  clear hPD
  revert H1 locs1
  intro H locs hS hP
  clear hw1 u
  refine tp_pc (pc' := 232) (by rfl) ?_
  refine lv_iconst (v := 0) hx hb d_Ref_encode_232 (by decide) ?_
  refine lv_istore (lv' := [(6, .int 0), (5, .int 0), (4, .int 1), (3, .int 2), (2, .int 0), (1, .int 3), (0, .ref h0)]) hx hb d_Ref_encode_233 hl (by decide) rfl ?_
  clear hl ls
  intro ls hl
  refine lv_iload hx hb d_Ref_encode_235 (lv_at hl 0 rfl) ?_
  refine lv_aload_n hx hb d_Ref_encode_237 rfl (lv_at hl 6 rfl) ?_
  refine va_get (D := (dC, dI)) (ci := 8) (v := .ref h14) (C := R_Ref) (T := F_Ref) (N := 48) hx hb hw i_Ref hown hK hP 1 rfl rfl 16 (by decide) (hw _ m_915) (fun _ h9 => h9) rfl d_Ref_encode_238 ?_
  refine lv_bipush (v := 15) hx hb d_Ref_encode_241 (by decide) ?_
  refine va_iald (D := (dC, dI)) hx hb hK hP 0 0 rfl rfl (i := 15) (vp_c (by decide)) d_Ref_encode_243 ?_
  refine tp_i (y := 0) (by first | rfl | decide) ?_
  refine lv_icmp_ge (tgt := 301) hx hb d_Ref_encode_244 (by decide) (fun c_103 => ?_) (fun c_103 => absurd c_103 (by decide))
  refine tp_pc (pc' := 301) (by rfl) ?_
  refine lv_iinc (v := 2) (lv' := [(4, .int 2), (6, .int 0), (5, .int 0), (3, .int 2), (2, .int 0), (1, .int 3), (0, .ref h0)]) hx hb d_Ref_encode_301 hl (k := 2) rfl (by first | rfl | decide) (by decide) rfl ?_
  clear hl ls
  intro ls hl
  refine lv_goto (tgt := 172) hx hb d_Ref_encode_304 (by decide) ?_
  refine tp_pc (pc' := 172) (by rfl) ?_
  refine lv_iload hx hb d_Ref_encode_172 (lv_at hl 0 rfl) ?_
  refine lv_iload_n hx hb d_Ref_encode_174 rfl (lv_at hl 3 rfl) ?_
  refine lv_icmp_gt (tgt := 307) hx hb d_Ref_encode_175 (by decide) (fun c_104 => absurd c_104 (by decide)) (fun c_104 => ?_)
  refine tp_pc (pc' := 178) (by rfl) ?_
  refine lv_iconst (v := 0) hx hb d_Ref_encode_178 (by decide) ?_
  refine lv_istore (lv' := [(5, .int 0), (4, .int 2), (6, .int 0), (3, .int 2), (2, .int 0), (1, .int 3), (0, .ref h0)]) hx hb d_Ref_encode_179 hl (by decide) rfl ?_
  clear hl ls
  intro ls hl
  refine lv_iconst (v := 0) hx hb d_Ref_encode_181 (by decide) ?_
  refine lv_istore (lv' := [(6, .int 0), (5, .int 0), (4, .int 2), (3, .int 2), (2, .int 0), (1, .int 3), (0, .ref h0)]) hx hb d_Ref_encode_182 hl (by decide) rfl ?_
  clear hl ls
  intro ls hl
  refine lv_iload hx hb d_Ref_encode_184 (lv_at hl 0 rfl) ?_
  refine lv_aload_n hx hb d_Ref_encode_186 rfl (lv_at hl 6 rfl) ?_
  refine va_get (D := (dC, dI)) (ci := 8) (v := .ref h14) (C := R_Ref) (T := F_Ref) (N := 48) hx hb hw i_Ref hown hK hP 1 rfl rfl 16 (by decide) (hw _ m_915) (fun _ h9 => h9) rfl d_Ref_encode_187 ?_
  refine lv_bipush (v := 15) hx hb d_Ref_encode_190 (by decide) ?_
  refine va_iald (D := (dC, dI)) hx hb hK hP 0 0 rfl rfl (i := 15) (vp_c (by decide)) d_Ref_encode_192 ?_
  refine tp_i (y := 0) (by first | rfl | decide) ?_
  refine lv_icmp_ge (tgt := 224) hx hb d_Ref_encode_193 (by decide) (fun c_105 => ?_) (fun c_105 => absurd c_105 (by decide))
  refine tp_pc (pc' := 224) (by rfl) ?_
  refine lv_aload_n hx hb d_Ref_encode_224 rfl (lv_at hl 6 rfl) ?_
  refine lv_iload hx hb d_Ref_encode_225 (lv_at hl 1 rfl) ?_
  refine lv_i2l (v := 0) hx hb d_Ref_encode_227 (by decide) ?_
  refine lv_iconst (v := 3) hx hb d_Ref_encode_228 (by decide) ?_
  obtain ⟨hPc, hDc, hFc⟩ := cut3 (wc := [oc h0 8 [.int p0, .int p1, .ref h1, .ref h2, .ref h3, .ref h4, .ref h5, .ref h6, .ref h7, .ref h8, .ref h9, .ref h10, .ref h11, .ref h12, .int p2, .ref h13, .ref h14, .ref h15, .ref h16, .int 2, .int p4, .ref h17, .ref h18, .ref h19, .int p5, .ref h20, .int 122, .int p7, .ref h21, .ref h22, .ref h23, .ref h24, .ref h25, .ref h26, .ref h27, .ref h28, .int p8, .int p9, .ref h29, .ref h30, .ref h31, .ref h32, .ref h33, .ref h34, .ref h35, .ref h36, .int p10, .ref h37], la h20 k19 5 (vp_updL (vp_updL (vp_updL (vp_updL (vp_updL (vp_updL (vp_updL (vp_updL (vp_updL (vp_updL (vp_updL (vp_updL (vp_updL (vp_updL (vp_updL (vp_updL (vp_updL (vp_updL (vp_updL (vp_updL (vp_updL (vp_updL (vp_updL (vp_updL (vp_updL (vp_updL (vp_updL (vp_updL (vp_updL (vp_updL (vp_updL (vp_updL f19 0 0) 1 0) 2 0) 3 0) 4 0) 0 0) 0 0) 0 0) 0 0) 0 262144) 0 33816576) 0 4328783872) 0 554084597760) 0 70922828775424) 0 9078122083516416) 0 1161999626690363392) 0 1161999626690363392) 1 8) 1 1032) 1 132104) 1 16909320) 1 16909320) 1 16909320) 1 16909320) 1 16909320) 1 16909320) 1 16909320) 1 16909320) 1 16909320) 1 16909320) 1 16909320) 1 16909320)]) hP hD rfl hS hA [1, 2] (by decide +kernel) rfl
  have hKc := hK.sub (tys' := [(k19, .long)]) [1] rfl
  refine va_callv (va_runV (As := [.long 0, .int 3]) (rest := []) ⟨hx, hb, hml, hown, hw⟩ (c_Ref_bits_v27 l dC dI h0 0 p0 p1 h1 h2 h3 h4 h5 h6 h7 h8 h9 h10 h11 h12 p2 h13 h14 h15 h16 2 p4 h17 h18 h19 p5 h20 p7 h21 h22 h23 h24 h25 h26 h27 h28 p8 p9 h29 h30 h31 h32 h33 h34 h35 h36 p10 h37 k19 (vp_updL (vp_updL (vp_updL (vp_updL (vp_updL (vp_updL (vp_updL (vp_updL (vp_updL (vp_updL (vp_updL (vp_updL (vp_updL (vp_updL (vp_updL (vp_updL (vp_updL (vp_updL (vp_updL (vp_updL (vp_updL (vp_updL (vp_updL (vp_updL (vp_updL (vp_updL (vp_updL (vp_updL (vp_updL (vp_updL (vp_updL (vp_updL f19 0 0) 1 0) 2 0) 3 0) 4 0) 0 0) 0 0) 0 0) 0 0) 0 262144) 0 33816576) 0 4328783872) 0 554084597760) 0 70922828775424) 0 9078122083516416) 0 1161999626690363392) 0 1161999626690363392) 1 8) 1 1032) 1 132104) 1 16909320) 1 16909320) 1 16909320) 1 16909320) 1 16909320) 1 16909320) 1 16909320) 1 16909320) 1 16909320) 1 16909320) 1 16909320) 1 16909320) H.size) (cw_V 2 hw g_Ref_bits rfl rfl rfl (hw _ m_109) (hw _ m_1093) (hw _ m_1095) (hw _ m_58) (by decide +kernel) ⟨Nat.le_of_ble_eq_true rfl, Nat.le_of_ble_eq_true rfl⟩) ⟨fun a U g mk q => by obtain ⟨q0, q1, qP, qK, qD, qN⟩ := q; exact ⟨q0, q1, qP, va_K.moved (u := U) (U := U.calling g mk a) (Vm.Alike.refl U.vm) qK, qD, nw_call qN⟩, va_recv hKc hPc (ci := 8) (q0 := 0) rfl rfl, fun U hU hW => ⟨rfl, by rw [hU], by rw [hU]; exact hPc, va_K.moved hW.alike hKc, hDc.weaken (fun _ _ _ _ => trivial), nw_warm hW hn⟩⟩ rfl rfl hl.1 rfl (lv_room (Nat.le_of_ble_eq_true rfl)) d_Ref_encode_229 ⟨Nat.le_of_ble_eq_true rfl, Nat.le_of_ble_eq_true rfl⟩) hS (fun q _ h => hFc q h) hFc ?_
  intro u t H1 locs1 ht hvm hw1 hB hz1 hk1 hS1
  obtain ⟨hP1, hK1, hD1⟩ := hB
  rw [ht] at hP1
  replace hK1 := va_K.moved hvm.symm hK1
  have hPD := join3 hP hD rfl [1, 2] [0] rfl (by rfl) (by decide +kernel) (by decide +kernel) hk1 hFc hP1 hD1
  replace hK : va_K (dC, dI) classes [(k13, .int), (k19, .long)] s := hK.app hK1
  clear hP1 hK1 hD1 hk1 hz1 hFc hKc hDc hPc hvm ht hP hS t locs H
  have hP : va_P (dC, dI) classes [ia h14 k13 155 (fun _ => 0), oc h0 8 [.int p0, .int p1, .ref h1, .ref h2, .ref h3, .ref h4, .ref h5, .ref h6, .ref h7, .ref h8, .ref h9, .ref h10, .ref h11, .ref h12, .int p2, .ref h13, .ref h14, .ref h15, .ref h16, .int 2, .int p4, .ref h17, .ref h18, .ref h19, .int p5, .ref h20, .int 125, .int p7, .ref h21, .ref h22, .ref h23, .ref h24, .ref h25, .ref h26, .ref h27, .ref h28, .int p8, .int p9, .ref h29, .ref h30, .ref h31, .ref h32, .ref h33, .ref h34, .ref h35, .ref h36, .int p10, .ref h37], la h20 k19 5 (vp_updL (vp_updL (vp_updL (vp_updL (vp_updL (vp_updL (vp_updL (vp_updL (vp_updL (vp_updL (vp_updL (vp_updL (vp_updL (vp_updL (vp_updL (vp_updL (vp_updL (vp_updL (vp_updL (vp_updL (vp_updL (vp_updL (vp_updL (vp_updL (vp_updL (vp_updL (vp_updL (vp_updL (vp_updL (vp_updL (vp_updL (vp_updL (vp_updL f19 0 0) 1 0) 2 0) 3 0) 4 0) 0 0) 0 0) 0 0) 0 0) 0 262144) 0 33816576) 0 4328783872) 0 554084597760) 0 70922828775424) 0 9078122083516416) 0 1161999626690363392) 0 1161999626690363392) 1 8) 1 1032) 1 132104) 1 16909320) 1 16909320) 1 16909320) 1 16909320) 1 16909320) 1 16909320) 1 16909320) 1 16909320) 1 16909320) 1 16909320) 1 16909320) 1 16909320) 1 ((16909320 : Int64) ||| ((0 : Int64) <<< (((58 : Int32) : Int32).toInt64 &&& 63))))] H1 := hPD.1
  rw [show (((16909320 : Int64) ||| ((0 : Int64) <<< (((58 : Int32) : Int32).toInt64 &&& 63)) : Int64)) = 16909320 from by decide] at hP
  replace hD : dd A [h14, h0, h20] := dd_of hPD.2 rfl
  clear hPD
  revert H1 locs1
  intro H locs hS hP
  clear hw1 u
  refine tp_pc (pc' := 232) (by rfl) ?_
  refine lv_iconst (v := 0) hx hb d_Ref_encode_232 (by decide) ?_
  refine lv_istore (lv' := [(6, .int 0), (5, .int 0), (4, .int 2), (3, .int 2), (2, .int 0), (1, .int 3), (0, .ref h0)]) hx hb d_Ref_encode_233 hl (by decide) rfl ?_
  clear hl ls
  intro ls hl
  refine lv_iload hx hb d_Ref_encode_235 (lv_at hl 0 rfl) ?_
  refine lv_aload_n hx hb d_Ref_encode_237 rfl (lv_at hl 6 rfl) ?_
  refine va_get (D := (dC, dI)) (ci := 8) (v := .ref h14) (C := R_Ref) (T := F_Ref) (N := 48) hx hb hw i_Ref hown hK hP 1 rfl rfl 16 (by decide) (hw _ m_915) (fun _ h9 => h9) rfl d_Ref_encode_238 ?_
  refine lv_bipush (v := 15) hx hb d_Ref_encode_241 (by decide) ?_
  refine va_iald (D := (dC, dI)) hx hb hK hP 0 0 rfl rfl (i := 15) (vp_c (by decide)) d_Ref_encode_243 ?_
  refine tp_i (y := 0) (by first | rfl | decide) ?_
  refine lv_icmp_ge (tgt := 301) hx hb d_Ref_encode_244 (by decide) (fun c_107 => ?_) (fun c_107 => absurd c_107 (by decide))
  refine tp_pc (pc' := 301) (by rfl) ?_
  refine lv_iinc (v := 3) (lv' := [(4, .int 3), (6, .int 0), (5, .int 0), (3, .int 2), (2, .int 0), (1, .int 3), (0, .ref h0)]) hx hb d_Ref_encode_301 hl (k := 2) rfl (by first | rfl | decide) (by decide) rfl ?_
  clear hl ls
  intro ls hl
  refine lv_goto (tgt := 172) hx hb d_Ref_encode_304 (by decide) ?_
  refine tp_pc (pc' := 172) (by rfl) ?_
  refine lv_iload hx hb d_Ref_encode_172 (lv_at hl 0 rfl) ?_
  refine lv_iload_n hx hb d_Ref_encode_174 rfl (lv_at hl 3 rfl) ?_
  refine lv_icmp_gt (tgt := 307) hx hb d_Ref_encode_175 (by decide) (fun c_108 => ?_) (fun c_108 => absurd c_108 (by decide))
  refine tp_pc (pc' := 307) (by rfl) ?_
  refine lv_iinc (v := 4) (lv' := [(1, .int 4), (4, .int 3), (6, .int 0), (5, .int 0), (3, .int 2), (2, .int 0), (0, .ref h0)]) hx hb d_Ref_encode_307 hl (k := 5) rfl (by first | rfl | decide) (by decide) rfl ?_
  clear hl ls
  intro ls hl
  refine lv_goto (tgt := 129) hx hb d_Ref_encode_310 (by decide) ?_
  refine tp_pc (pc' := 129) (by rfl) ?_
  refine lv_iload_n hx hb d_Ref_encode_129 rfl (lv_at hl 0 rfl) ?_
  refine lv_iconst (v := 4) hx hb d_Ref_encode_130 (by decide) ?_
  refine lv_icmp_ge (tgt := 313) hx hb d_Ref_encode_131 (by decide) (fun c_109 => ?_) (fun c_109 => absurd c_109 (by decide))
  refine tp_pc (pc' := 313) (by rfl) ?_
  obtain ⟨hP9, hD9, -⟩ := cut3 (wc := [oc h0 8 [.int p0, .int p1, .ref h1, .ref h2, .ref h3, .ref h4, .ref h5, .ref h6, .ref h7, .ref h8, .ref h9, .ref h10, .ref h11, .ref h12, .int p2, .ref h13, .ref h14, .ref h15, .ref h16, .int 2, .int p4, .ref h17, .ref h18, .ref h19, .int p5, .ref h20, .int 125, .int p7, .ref h21, .ref h22, .ref h23, .ref h24, .ref h25, .ref h26, .ref h27, .ref h28, .int p8, .int p9, .ref h29, .ref h30, .ref h31, .ref h32, .ref h33, .ref h34, .ref h35, .ref h36, .int p10, .ref h37], ia h14 k13 155 (fun _ => 0), la h20 k19 5 (vp_updL (vp_updL (vp_updL (vp_updL (vp_updL (vp_updL (vp_updL (vp_updL (vp_updL (vp_updL (vp_updL (vp_updL (vp_updL (vp_updL (vp_updL (vp_updL (vp_updL (vp_updL (vp_updL (vp_updL (vp_updL (vp_updL (vp_updL (vp_updL (vp_updL (vp_updL (vp_updL (vp_updL (vp_updL (vp_updL (vp_updL (vp_updL (vp_updL f19 0 0) 1 0) 2 0) 3 0) 4 0) 0 0) 0 0) 0 0) 0 0) 0 262144) 0 33816576) 0 4328783872) 0 554084597760) 0 70922828775424) 0 9078122083516416) 0 1161999626690363392) 0 1161999626690363392) 1 8) 1 1032) 1 132104) 1 16909320) 1 16909320) 1 16909320) 1 16909320) 1 16909320) 1 16909320) 1 16909320) 1 16909320) 1 16909320) 1 16909320) 1 16909320) 1 16909320) 1 16909320)]) hP hD rfl hS hA [1, 0, 2] (by decide +kernel) rfl
  have hK9 := hK.sub (tys' := []) [] rfl
  refine W.widen (k := 0) (n := 0) (by exact Nat.le_of_ble_eq_true rfl) (by exact Nat.le_of_ble_eq_true rfl) ?_
  exact W.vret hx hb hr (fun t ht hW => ⟨⟨(), rfl, trivial, by rw [ht]; exact hP9, va_K.moved hW.alike hK9, hD9⟩, hS.F ht⟩) hS.2.2 d_Ref_encode_313
