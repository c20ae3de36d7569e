set_option maxHeartbeats 4000000 in
set_option maxRecDepth 100000 in
theorem c_Ref_bits_v29 (l : Launch) (dC : Nat → ClassId) (dI : Nat → Nat → Nat) (h0 : Nat) (p0 : Int64) (p2 : Int32) (p3 : Int32) (h1 : Nat) (h2 : Nat) (h3 : Nat) (h4 : Nat) (h5 : Nat) (h6 : Nat) (h7 : Nat) (h8 : Nat) (h9 : Nat) (h10 : Nat) (h11 : Nat) (h12 : Nat) (p4 : Int32) (h13 : Nat) (h14 : Nat) (h15 : Nat) (h16 : Nat) (p5 : Int32) (p6 : Int32) (h17 : Nat) (h18 : Nat) (h19 : Nat) (p7 : Int32) (h20 : Nat) (p9 : Int32) (h21 : Nat) (h22 : Nat) (h23 : Nat) (h24 : Nat) (h25 : Nat) (h26 : Nat) (h27 : Nat) (h28 : Nat) (p10 : Int32) (p11 : Int32) (h29 : Nat) (h30 : Nat) (h31 : Nat) (h32 : Nat) (h33 : Nat) (h34 : Nat) (h35 : Nat) (h36 : Nat) (p12 : Int32) (h37 : Nat) (k19 : ClassId) (f19 : Nat → Int64) (sz : Nat) : Met l y_Ref_bits w_Ref_bits ({ frames := 0, cells := 0, slots := 0, locals := 0 }) (va_Pc [.ref h0, .long p0, .int 4] (fun U => U.heap.size = sz ∧ va_P (dC, dI) classes [oc h0 8 [.int p2, .int p3, .ref h1, .ref h2, .ref h3, .ref h4, .ref h5, .ref h6, .ref h7, .ref h8, .ref h9, .ref h10, .ref h11, .ref h12, .int p4, .ref h13, .ref h14, .ref h15, .ref h16, .int p5, .int p6, .ref h17, .ref h18, .ref h19, .int p7, .ref h20, .int 72, .int p9, .ref h21, .ref h22, .ref h23, .ref h24, .ref h25, .ref h26, .ref h27, .ref h28, .int p10, .int p11, .ref h29, .ref h30, .ref h31, .ref h32, .ref h33, .ref h34, .ref h35, .ref h36, .int p12, .ref h37], la h20 k19 5 f19] U.heap ∧ va_K (dC, dI) classes [(k19, .long)] U ∧ va_D (fun _ => True) [oc h0 8 [.int p2, .int p3, .ref h1, .ref h2, .ref h3, .ref h4, .ref h5, .ref h6, .ref h7, .ref h8, .ref h9, .ref h10, .ref h11, .ref h12, .int p4, .ref h13, .ref h14, .ref h15, .ref h16, .int p5, .int p6, .ref h17, .ref h18, .ref h19, .int p7, .ref h20, .int 72, .int p9, .ref h21, .ref h22, .ref h23, .ref h24, .ref h25, .ref h26, .ref h27, .ref h28, .int p10, .int p11, .ref h29, .ref h30, .ref h31, .ref h32, .ref h33, .ref h34, .ref h35, .ref h36, .int p12, .ref h37], la h20 k19 5 f19] ∧ nw U)) (va_Qv (fun _ : Unit => True) (fun _ t => va_P (dC, dI) classes [oc h0 8 [.int p2, .int p3, .ref h1, .ref h2, .ref h3, .ref h4, .ref h5, .ref h6, .ref h7, .ref h8, .ref h9, .ref h10, .ref h11, .ref h12, .int p4, .ref h13, .ref h14, .ref h15, .ref h16, .int p5, .int p6, .ref h17, .ref h18, .ref h19, .int p7, .ref h20, .int 76, .int p9, .ref h21, .ref h22, .ref h23, .ref h24, .ref h25, .ref h26, .ref h27, .ref h28, .int p10, .int p11, .ref h29, .ref h30, .ref h31, .ref h32, .ref h33, .ref h34, .ref h35, .ref h36, .int p12, .ref h37], la h20 k19 5 (vp_updL f19 1 ((f19 1) ||| (p0 <<< ((8 : Int32).toInt64 &&& 63))))] t.heap ∧ va_K (dC, dI) classes [] t ∧ va_D (va_A [oc h0 8 [.int p2, .int p3, .ref h1, .ref h2, .ref h3, .ref h4, .ref h5, .ref h6, .ref h7, .ref h8, .ref h9, .ref h10, .ref h11, .ref h12, .int p4, .ref h13, .ref h14, .ref h15, .ref h16, .int p5, .int p6, .ref h17, .ref h18, .ref h19, .int p7, .ref h20, .int 72, .int p9, .ref h21, .ref h22, .ref h23, .ref h24, .ref h25, .ref h26, .ref h27, .ref h28, .int p10, .int p11, .ref h29, .ref h30, .ref h31, .ref h32, .ref h33, .ref h34, .ref h35, .ref h36, .int p12, .ref h37], la h20 k19 5 f19] sz) [oc h0 8 [.int p2, .int p3, .ref h1, .ref h2, .ref h3, .ref h4, .ref h5, .ref h6, .ref h7, .ref h8, .ref h9, .ref h10, .ref h11, .ref h12, .int p4, .ref h13, .ref h14, .ref h15, .ref h16, .int p5, .int p6, .ref h17, .ref h18, .ref h19, .int p7, .ref h20, .int 76, .int p9, .ref h21, .ref h22, .ref h23, .ref h24, .ref h25, .ref h26, .ref h27, .ref h28, .int p10, .int p11, .ref h29, .ref h30, .ref h31, .ref h32, .ref h33, .ref h34, .ref h35, .ref h36, .int p12, .ref h37], la h20 k19 5 (vp_updL f19 1 ((f19 1) ||| (p0 <<< ((8 : Int32).toInt64 &&& 63))))]) (va_A [oc h0 8 [.int p2, .int p3, .ref h1, .ref h2, .ref h3, .ref h4, .ref h5, .ref h6, .ref h7, .ref h8, .ref h9, .ref h10, .ref h11, .ref h12, .int p4, .ref h13, .ref h14, .ref h15, .ref h16, .int p5, .int p6, .ref h17, .ref h18, .ref h19, .int p7, .ref h20, .int 72, .int p9, .ref h21, .ref h22, .ref h23, .ref h24, .ref h25, .ref h26, .ref h27, .ref h28, .int p10, .int p11, .ref h29, .ref h30, .ref h31, .ref h32, .ref h33, .ref h34, .ref h35, .ref h36, .int p12, .ref h37], la h20 k19 5 f19] sz)) 0 0 (va_A [oc h0 8 [.int p2, .int p3, .ref h1, .ref h2, .ref h3, .ref h4, .ref h5, .ref h6, .ref h7, .ref h8, .ref h9, .ref h10, .ref h11, .ref h12, .int p4, .ref h13, .ref h14, .ref h15, .ref h16, .int p5, .int p6, .ref h17, .ref h18, .ref h19, .int p7, .ref h20, .int 72, .int p9, .ref h21, .ref h22, .ref h23, .ref h24, .ref h25, .ref h26, .ref h27, .ref h28, .int p10, .int p11, .ref h29, .ref h30, .ref h31, .ref h32, .ref h33, .ref h34, .ref h35, .ref h36, .int p12, .ref h37], la h20 k19 5 f19] sz) := by
  refine Met.ofW (cc := b_Ref_bits) (maxL := 6) (ret := none) (by decide) rfl ?_
  intro p e s m args below meth c s₁ B hml hv
  obtain ⟨rfl, hsz, hP, hK, hD0, hn⟩ := hv
  have hx := B.exec
  have hb := B.bytes
  have hr := B.returns
  have hw := fun w (h : w ∈ wt) => atoms_spec (ws := w_Ref_bits) B.pre w (List.mem_cons_of_mem _ h)
  have hown : s.vm.findClass R_Ref = some m.cls := findClass_of_methodNamed B.named
  have hlocks := B.notSynchronized
  subst hsz
  have hD1 := hD0.self (sz := s.heap.size)
  generalize hAe : va_A [oc h0 8 [.int p2, .int p3, .ref h1, .ref h2, .ref h3, .ref h4, .ref h5, .ref h6, .ref h7, .ref h8, .ref h9, .ref h10, .ref h11, .ref h12, .int p4, .ref h13, .ref h14, .ref h15, .ref h16, .int p5, .int p6, .ref h17, .ref h18, .ref h19, .int p7, .ref h20, .int 72, .int p9, .ref h21, .ref h22, .ref h23, .ref h24, .ref h25, .ref h26, .ref h27, .ref h28, .int p10, .int p11, .ref h29, .ref h30, .ref h31, .ref h32, .ref h33, .ref h34, .ref h35, .ref h36, .int p12, .ref h37], la h20 k19 5 f19] s.heap.size = A at hD1 ⊢
  have hA : ∀ q : Nat, s.heap.size ≤ q → A q := fun q h => by rw [← hAe]; exact Or.inr h
  have hD : dd A [h0, h20] := dd_of hD1 rfl
  clear hAe hD0 hD1
  have hS : va_S A s.heap s.heap [] := va_S.rf
  replace hP : va_P (dC, dI) classes [oc h0 8 [.int p2, .int p3, .ref h1, .ref h2, .ref h3, .ref h4, .ref h5, .ref h6, .ref h7, .ref h8, .ref h9, .ref h10, .ref h11, .ref h12, .int p4, .ref h13, .ref h14, .ref h15, .ref h16, .int p5, .int p6, .ref h17, .ref h18, .ref h19, .int p7, .ref h20, .int 72, .int p9, .ref h21, .ref h22, .ref h23, .ref h24, .ref h25, .ref h26, .ref h27, .ref h28, .int p10, .int p11, .ref h29, .ref h30, .ref h31, .ref h32, .ref h33, .ref h34, .ref h35, .ref h36, .int p12, .ref h37], la h20 k19 5 f19] s.heap := hP
  have hl := lv_entry ([.ref h0, .long p0, .int 4]) (n := 6) (Nat.le_of_ble_eq_true rfl)
  rw [lg_entry_eq]
  generalize (lg_sl ([.ref h0, .long p0, .int 4]) ++ List.replicate (6 - (lg_sl ([.ref h0, .long p0, .int 4])).length) Slot.unset).toArray = ls at hl ⊢
  replace hl : lv_has ls 6 [(0, .ref h0), (1, .long p0), (3, .int 4)] := hl
  refine lv_aload_n hx hb d_Ref_bits_0 rfl (lv_at hl 0 rfl) ?_
  refine va_get (D := (dC, dI)) (ci := 8) (v := .int 72) (C := R_Ref) (T := F_Ref) (N := 48) hx hb hw i_Ref hown hK hP 0 rfl rfl 26 (by decide) (hw _ m_925) (fun _ h9 => h9) rfl d_Ref_bits_1 ?_
  refine lv_bipush (v := 64) hx hb d_Ref_bits_4 (by decide) ?_
  refine lv_idiv hx hb d_Ref_bits_6 (by decide) ?_
  refine tp_i (y := 1) (by first | rfl | decide) ?_
  refine lv_istore (lv' := [(4, .int 1), (0, .ref h0), (1, .long p0), (3, .int 4)]) hx hb d_Ref_bits_7 hl (by decide) rfl ?_
  clear hl ls
  intro ls hl
  refine lv_aload_n hx hb d_Ref_bits_9 rfl (lv_at hl 1 rfl) ?_
  refine va_get (D := (dC, dI)) (ci := 8) (v := .int 72) (C := R_Ref) (T := F_Ref) (N := 48) hx hb hw i_Ref hown hK hP 0 rfl rfl 26 (by decide) (hw _ m_925) (fun _ h9 => h9) rfl d_Ref_bits_10 ?_
  refine lv_bipush (v := 64) hx hb d_Ref_bits_13 (by decide) ?_
  refine lv_irem hx hb d_Ref_bits_15 (by decide) ?_
  refine tp_i (y := 8) (by first | rfl | decide) ?_
  refine lv_istore (lv' := [(5, .int 8), (4, .int 1), (0, .ref h0), (1, .long p0), (3, .int 4)]) hx hb d_Ref_bits_16 hl (by decide) rfl ?_
  clear hl ls
  intro ls hl
  refine lv_aload_n hx hb d_Ref_bits_18 rfl (lv_at hl 2 rfl) ?_
  refine va_get (D := (dC, dI)) (ci := 8) (v := .ref h20) (C := R_Ref) (T := F_Ref) (N := 48) hx hb hw i_Ref hown hK hP 0 rfl rfl 25 (by decide) (hw _ m_924) (fun _ h9 => h9) rfl d_Ref_bits_19 ?_
  refine lv_iload hx hb d_Ref_bits_22 (lv_at hl 1 rfl) ?_
  refine lv_dup2_11 hx hb d_Ref_bits_24 rfl rfl ?_
  refine va_lald (D := (dC, dI)) hx hb hK hP 1 0 rfl rfl (i := 1) (vp_c (by decide)) d_Ref_bits_25 ?_
  refine tp_l (y := f19 1) (by first | rfl | decide) ?_
  refine lv_lload_n hx hb d_Ref_bits_26 rfl (lv_at hl 3 rfl) ?_
  refine lv_iload hx hb d_Ref_bits_27 (lv_at hl 0 rfl) ?_
  refine lv_lshl (v := p0 <<< ((8 : Int32).toInt64 &&& 63)) hx hb d_Ref_bits_29 (by first | rfl | decide) ?_
  refine lv_lor hx hb d_Ref_bits_30 ?_
  refine tp_l (y := (f19 1) ||| (p0 <<< ((8 : Int32).toInt64 &&& 63))) (by first | rfl | decide) ?_
  refine va_last (D := (dC, dI)) hx hb hK hP (dd_D hD rfl) hS 1 0 rfl rfl (i := 1) (x := (f19 1) ||| (p0 <<< ((8 : Int32).toInt64 &&& 63))) (vp_c (by decide)) d_Ref_bits_31 ?_
  clear hP hS
  intro H locs (hP : va_P (dC, dI) classes [oc h0 8 [.int p2, .int p3, .ref h1, .ref h2, .ref h3, .ref h4, .ref h5, .ref h6, .ref h7, .ref h8, .ref h9, .ref h10, .ref h11, .ref h12, .int p4, .ref h13, .ref h14, .ref h15, .ref h16, .int p5, .int p6, .ref h17, .ref h18, .ref h19, .int p7, .ref h20, .int 72, .int p9, .ref h21, .ref h22, .ref h23, .ref h24, .ref h25, .ref h26, .ref h27, .ref h28, .int p10, .int p11, .ref h29, .ref h30, .ref h31, .ref h32, .ref h33, .ref h34, .ref h35, .ref h36, .int p12, .ref h37], la h20 k19 5 (vp_updL f19 1 ((f19 1) ||| (p0 <<< ((8 : Int32).toInt64 &&& 63))))] H) _ hS
  refine tp_pc (pc' := 32) (by rfl) ?_
  refine lv_iload hx hb d_Ref_bits_32 (lv_at hl 0 rfl) ?_
  refine lv_iload_n hx hb d_Ref_bits_34 rfl (lv_at hl 4 rfl) ?_
  refine lv_iadd hx hb d_Ref_bits_35 ?_
  refine tp_i (y := 12) (by first | rfl | decide) ?_
  refine lv_bipush (v := 64) hx hb d_Ref_bits_36 (by decide) ?_
  refine lv_icmp_le (tgt := 60) hx hb d_Ref_bits_38 (by decide) (fun c_1 => ?_) (fun c_1 => absurd c_1 (by decide))
  refine tp_pc (pc' := 60) (by rfl) ?_
  refine lv_aload_n hx hb d_Ref_bits_60 rfl (lv_at hl 2 rfl) ?_
  refine lv_dup hx hb d_Ref_bits_61 rfl ?_
  refine va_get (D := (dC, dI)) (ci := 8) (v := .int 72) (C := R_Ref) (T := F_Ref) (N := 48) hx hb hw i_Ref hown hK hP 0 rfl rfl 26 (by decide) (hw _ m_925) (fun _ h9 => h9) rfl d_Ref_bits_62 ?_
  refine lv_iload_n hx hb d_Ref_bits_65 rfl (lv_at hl 4 rfl) ?_
  refine lv_iadd hx hb d_Ref_bits_66 ?_
  refine tp_i (y := 76) (by first | rfl | decide) ?_
  refine va_put (D := (dC, dI)) (ci := 8) (v := .int 76) (ty := .int) (C := R_Ref) (T := F_Ref) (N := 48) hx hb hw i_Ref t_Ref t_Ref_ok n_Ref hown hK hP (dd_D hD rfl) hS 0 rfl rfl 26 (by decide) (hw _ m_925) (fun _ h9 => h9) rfl (by decide +kernel) rfl rfl (Nat.le_of_ble_eq_true rfl) d_Ref_bits_67 ?_
  clear hP hS locs H
  intro H locs (hP : va_P (dC, dI) classes [oc h0 8 [.int p2, .int p3, .ref h1, .ref h2, .ref h3, .ref h4, .ref h5, .ref h6, .ref h7, .ref h8, .ref h9, .ref h10, .ref h11, .ref h12, .int p4, .ref h13, .ref h14, .ref h15, .ref h16, .int p5, .int p6, .ref h17, .ref h18, .ref h19, .int p7, .ref h20, .int 76, .int p9, .ref h21, .ref h22, .ref h23, .ref h24, .ref h25, .ref h26, .ref h27, .ref h28, .int p10, .int p11, .ref h29, .ref h30, .ref h31, .ref h32, .ref h33, .ref h34, .ref h35, .ref h36, .int p12, .ref h37], la h20 k19 5 (vp_updL f19 1 ((f19 1) ||| (p0 <<< ((8 : Int32).toInt64 &&& 63))))] H) _ hS
  refine tp_pc (pc' := 70) (by rfl) ?_
  obtain ⟨hP9, hD9, -⟩ := cut3 (wc := [oc h0 8 [.int p2, .int p3, .ref h1, .ref h2, .ref h3, .ref h4, .ref h5, .ref h6, .ref h7, .ref h8, .ref h9, .ref h10, .ref h11, .ref h12, .int p4, .ref h13, .ref h14, .ref h15, .ref h16, .int p5, .int p6, .ref h17, .ref h18, .ref h19, .int p7, .ref h20, .int 76, .int p9, .ref h21, .ref h22, .ref h23, .ref h24, .ref h25, .ref h26, .ref h27, .ref h28, .int p10, .int p11, .ref h29, .ref h30, .ref h31, .ref h32, .ref h33, .ref h34, .ref h35, .ref h36, .int p12, .ref h37], la h20 k19 5 (vp_updL f19 1 ((f19 1) ||| (p0 <<< ((8 : Int32).toInt64 &&& 63))))]) hP hD rfl hS hA [0, 1] (by decide +kernel) rfl
  have hK9 := hK.sub (tys' := []) [] rfl
  refine W.widen (k := 0) (n := 0) (by exact Nat.le_of_ble_eq_true rfl) (by exact Nat.le_of_ble_eq_true rfl) ?_
  exact W.vret hx hb hr (fun t ht hW => ⟨⟨(), rfl, trivial, by rw [ht]; exact hP9, va_K.moved hW.alike hK9, hD9⟩, hS.F ht⟩) hS.2.2 d_Ref_bits_70
set_option maxHeartbeats 4000000 in
set_option maxRecDepth 100000 in
theorem c_Ref_bits_v30 (l : Launch) (dC : Nat → ClassId) (dI : Nat → Nat → Nat) (h0 : Nat) (p0 : Int64) (p2 : Int32) (p3 : Int32) (h1 : Nat) (h2 : Nat) (h3 : Nat) (h4 : Nat) (h5 : Nat) (h6 : Nat) (h7 : Nat) (h8 : Nat) (h9 : Nat) (h10 : Nat) (h11 : Nat) (h12 : Nat) (p4 : Int32) (h13 : Nat) (h14 : Nat) (h15 : Nat) (h16 : Nat) (p5 : Int32) (p6 : Int32) (h17 : Nat) (h18 : Nat) (h19 : Nat) (p7 : Int32) (h20 : Nat) (p9 : Int32) (h21 : Nat) (h22 : Nat) (h23 : Nat) (h24 : Nat) (h25 : Nat) (h26 : Nat) (h27 : Nat) (h28 : Nat) (p10 : Int32) (p11 : Int32) (h29 : Nat) (h30 : Nat) (h31 : Nat) (h32 : Nat) (h33 : Nat) (h34 : Nat) (h35 : Nat) (h36 : Nat) (p12 : Int32) (h37 : Nat) (k19 : ClassId) (f19 : Nat → Int64) (sz : Nat) : Met l y_Ref_bits w_Ref_bits ({ frames := 0, cells := 0, slots := 0, locals := 0 }) (va_Pc [.ref h0, .long p0, .int 4] (fun U => U.heap.size = sz ∧ va_P (dC, dI) classes [oc h0 8 [.int p2, .int p3, .ref h1, .ref h2, .ref h3, .ref h4, .ref h5, .ref h6, .ref h7, .ref h8, .ref h9, .ref h10, .ref h11, .ref h12, .int p4, .ref h13, .ref h14, .ref h15, .ref h16, .int p5, .int p6, .ref h17, .ref h18, .ref h19, .int p7, .ref h20, .int 76, .int p9, .ref h21, .ref h22, .ref h23, .ref h24, .ref h25, .ref h26, .ref h27, .ref h28, .int p10, .int p11, .ref h29, .ref h30, .ref h31, .ref h32, .ref h33, .ref h34, .ref h35, .ref h36, .int p12, .ref h37], la h20 k19 5 f19] U.heap ∧ va_K (dC, dI) classes [(k19, .long)] U ∧ va_D (fun _ => True) [oc h0 8 [.int p2, .int p3, .ref h1, .ref h2, .ref h3, .ref h4, .ref h5, .ref h6, .ref h7, .ref h8, .ref h9, .ref h10, .ref h11, .ref h12, .int p4, .ref h13, .ref h14, .ref h15, .ref h16, .int p5, .int p6, .ref h17, .ref h18, .ref h19, .int p7, .ref h20, .int 76, .int p9, .ref h21, .ref h22, .ref h23, .ref h24, .ref h25, .ref h26, .ref h27, .ref h28, .int p10, .int p11, .ref h29, .ref h30, .ref h31, .ref h32, .ref h33, .ref h34, .ref h35, .ref h36, .int p12, .ref h37], la h20 k19 5 f19] ∧ nw U)) (va_Qv (fun _ : Unit => True) (fun _ t => va_P (dC, dI) classes [oc h0 8 [.int p2, .int p3, .ref h1, .ref h2, .ref h3, .ref h4, .ref h5, .ref h6, .ref h7, .ref h8, .ref h9, .ref h10, .ref h11, .ref h12, .int p4, .ref h13, .ref h14, .ref h15, .ref h16, .int p5, .int p6, .ref h17, .ref h18, .ref h19, .int p7, .ref h20, .int 80, .int p9, .ref h21, .ref h22, .ref h23, .ref h24, .ref h25, .ref h26, .ref h27, .ref h28, .int p10, .int p11, .ref h29, .ref h30, .ref h31, .ref h32, .ref h33, .ref h34, .ref h35, .ref h36, .int p12, .ref h37], la h20 k19 5 (vp_updL f19 1 ((f19 1) ||| (p0 <<< ((12 : Int32).toInt64 &&& 63))))] t.heap ∧ va_K (dC, dI) classes [] t ∧ va_D (va_A [oc h0 8 [.int p2, .int p3, .ref h1, .ref h2, .ref h3, .ref h4, .ref h5, .ref h6, .ref h7, .ref h8, .ref h9, .ref h10, .ref h11, .ref h12, .int p4, .ref h13, .ref h14, .ref h15, .ref h16, .int p5, .int p6, .ref h17, .ref h18, .ref h19, .int p7, .ref h20, .int 76, .int p9, .ref h21, .ref h22, .ref h23, .ref h24, .ref h25, .ref h26, .ref h27, .ref h28, .int p10, .int p11, .ref h29, .ref h30, .ref h31, .ref h32, .ref h33, .ref h34, .ref h35, .ref h36, .int p12, .ref h37], la h20 k19 5 f19] sz) [oc h0 8 [.int p2, .int p3, .ref h1, .ref h2, .ref h3, .ref h4, .ref h5, .ref h6, .ref h7, .ref h8, .ref h9, .ref h10, .ref h11, .ref h12, .int p4, .ref h13, .ref h14, .ref h15, .ref h16, .int p5, .int p6, .ref h17, .ref h18, .ref h19, .int p7, .ref h20, .int 80, .int p9, .ref h21, .ref h22, .ref h23, .ref h24, .ref h25, .ref h26, .ref h27, .ref h28, .int p10, .int p11, .ref h29, .ref h30, .ref h31, .ref h32, .ref h33, .ref h34, .ref h35, .ref h36, .int p12, .ref h37], la h20 k19 5 (vp_updL f19 1 ((f19 1) ||| (p0 <<< ((12 : Int32).toInt64 &&& 63))))]) (va_A [oc h0 8 [.int p2, .int p3, .ref h1, .ref h2, .ref h3, .ref h4, .ref h5, .ref h6, .ref h7, .ref h8, .ref h9, .ref h10, .ref h11, .ref h12, .int p4, .ref h13, .ref h14, .ref h15, .ref h16, .int p5, .int p6, .ref h17, .ref h18, .ref h19, .int p7, .ref h20, .int 76, .int p9, .ref h21, .ref h22, .ref h23, .ref h24, .ref h25, .ref h26, .ref h27, .ref h28, .int p10, .int p11, .ref h29, .ref h30, .ref h31, .ref h32, .ref h33, .ref h34, .ref h35, .ref h36, .int p12, .ref h37], la h20 k19 5 f19] sz)) 0 0 (va_A [oc h0 8 [.int p2, .int p3, .ref h1, .ref h2, .ref h3, .ref h4, .ref h5, .ref h6, .ref h7, .ref h8, .ref h9, .ref h10, .ref h11, .ref h12, .int p4, .ref h13, .ref h14, .ref h15, .ref h16, .int p5, .int p6, .ref h17, .ref h18, .ref h19, .int p7, .ref h20, .int 76, .int p9, .ref h21, .ref h22, .ref h23, .ref h24, .ref h25, .ref h26, .ref h27, .ref h28, .int p10, .int p11, .ref h29, .ref h30, .ref h31, .ref h32, .ref h33, .ref h34, .ref h35, .ref h36, .int p12, .ref h37], la h20 k19 5 f19] sz) := by
  refine Met.ofW (cc := b_Ref_bits) (maxL := 6) (ret := none) (by decide) rfl ?_
  intro p e s m args below meth c s₁ B hml hv
  obtain ⟨rfl, hsz, hP, hK, hD0, hn⟩ := hv
  have hx := B.exec
  have hb := B.bytes
  have hr := B.returns
  have hw := fun w (h : w ∈ wt) => atoms_spec (ws := w_Ref_bits) B.pre w (List.mem_cons_of_mem _ h)
  have hown : s.vm.findClass R_Ref = some m.cls := findClass_of_methodNamed B.named
  have hlocks := B.notSynchronized
  subst hsz
  have hD1 := hD0.self (sz := s.heap.size)
  generalize hAe : va_A [oc h0 8 [.int p2, .int p3, .ref h1, .ref h2, .ref h3, .ref h4, .ref h5, .ref h6, .ref h7, .ref h8, .ref h9, .ref h10, .ref h11, .ref h12, .int p4, .ref h13, .ref h14, .ref h15, .ref h16, .int p5, .int p6, .ref h17, .ref h18, .ref h19, .int p7, .ref h20, .int 76, .int p9, .ref h21, .ref h22, .ref h23, .ref h24, .ref h25, .ref h26, .ref h27, .ref h28, .int p10, .int p11, .ref h29, .ref h30, .ref h31, .ref h32, .ref h33, .ref h34, .ref h35, .ref h36, .int p12, .ref h37], la h20 k19 5 f19] s.heap.size = A at hD1 ⊢
  have hA : ∀ q : Nat, s.heap.size ≤ q → A q := fun q h => by rw [← hAe]; exact Or.inr h
  have hD : dd A [h0, h20] := dd_of hD1 rfl
  clear hAe hD0 hD1
  have hS : va_S A s.heap s.heap [] := va_S.rf
  replace hP : va_P (dC, dI) classes [oc h0 8 [.int p2, .int p3, .ref h1, .ref h2, .ref h3, .ref h4, .ref h5, .ref h6, .ref h7, .ref h8, .ref h9, .ref h10, .ref h11, .ref h12, .int p4, .ref h13, .ref h14, .ref h15, .ref h16, .int p5, .int p6, .ref h17, .ref h18, .ref h19, .int p7, .ref h20, .int 76, .int p9, .ref h21, .ref h22, .ref h23, .ref h24, .ref h25, .ref h26, .ref h27, .ref h28, .int p10, .int p11, .ref h29, .ref h30, .ref h31, .ref h32, .ref h33, .ref h34, .ref h35, .ref h36, .int p12, .ref h37], la h20 k19 5 f19] s.heap := hP
  have hl := lv_entry ([.ref h0, .long p0, .int 4]) (n := 6) (Nat.le_of_ble_eq_true rfl)
  rw [lg_entry_eq]
  generalize (lg_sl ([.ref h0, .long p0, .int 4]) ++ List.replicate (6 - (lg_sl ([.ref h0, .long p0, .int 4])).length) Slot.unset).toArray = ls at hl ⊢
  replace hl : lv_has ls 6 [(0, .ref h0), (1, .long p0), (3, .int 4)] := hl
  refine lv_aload_n hx hb d_Ref_bits_0 rfl (lv_at hl 0 rfl) ?_
  refine va_get (D := (dC, dI)) (ci := 8) (v := .int 76) (C := R_Ref) (T := F_Ref) (N := 48) hx hb hw i_Ref hown hK hP 0 rfl rfl 26 (by decide) (hw _ m_925) (fun _ h9 => h9) rfl d_Ref_bits_1 ?_
  refine lv_bipush (v := 64) hx hb d_Ref_bits_4 (by decide) ?_
  refine lv_idiv hx hb d_Ref_bits_6 (by decide) ?_
  refine tp_i (y := 1) (by first | rfl | decide) ?_
  refine lv_istore (lv' := [(4, .int 1), (0, .ref h0), (1, .long p0), (3, .int 4)]) hx hb d_Ref_bits_7 hl (by decide) rfl ?_
  clear hl ls
  intro ls hl
  refine lv_aload_n hx hb d_Ref_bits_9 rfl (lv_at hl 1 rfl) ?_
  refine va_get (D := (dC, dI)) (ci := 8) (v := .int 76) (C := R_Ref) (T := F_Ref) (N := 48) hx hb hw i_Ref hown hK hP 0 rfl rfl 26 (by decide) (hw _ m_925) (fun _ h9 => h9) rfl d_Ref_bits_10 ?_
  refine lv_bipush (v := 64) hx hb d_Ref_bits_13 (by decide) ?_
  refine lv_irem hx hb d_Ref_bits_15 (by decide) ?_
  refine tp_i (y := 12) (by first | rfl | decide) ?_
  refine lv_istore (lv' := [(5, .int 12), (4, .int 1), (0, .ref h0), (1, .long p0), (3, .int 4)]) hx hb d_Ref_bits_16 hl (by decide) rfl ?_
  clear hl ls
  intro ls hl
  refine lv_aload_n hx hb d_Ref_bits_18 rfl (lv_at hl 2 rfl) ?_
  refine va_get (D := (dC, dI)) (ci := 8) (v := .ref h20) (C := R_Ref) (T := F_Ref) (N := 48) hx hb hw i_Ref hown hK hP 0 rfl rfl 25 (by decide) (hw _ m_924) (fun _ h9 => h9) rfl d_Ref_bits_19 ?_
  refine lv_iload hx hb d_Ref_bits_22 (lv_at hl 1 rfl) ?_
  refine lv_dup2_11 hx hb d_Ref_bits_24 rfl rfl ?_
  refine va_lald (D := (dC, dI)) hx hb hK hP 1 0 rfl rfl (i := 1) (vp_c (by decide)) d_Ref_bits_25 ?_
  refine tp_l (y := f19 1) (by first | rfl | decide) ?_
  refine lv_lload_n hx hb d_Ref_bits_26 rfl (lv_at hl 3 rfl) ?_
  refine lv_iload hx hb d_Ref_bits_27 (lv_at hl 0 rfl) ?_
  refine lv_lshl (v := p0 <<< ((12 : Int32).toInt64 &&& 63)) hx hb d_Ref_bits_29 (by first | rfl | decide) ?_
  refine lv_lor hx hb d_Ref_bits_30 ?_
  refine tp_l (y := (f19 1) ||| (p0 <<< ((12 : Int32).toInt64 &&& 63))) (by first | rfl | decide) ?_
  refine va_last (D := (dC, dI)) hx hb hK hP (dd_D hD rfl) hS 1 0 rfl rfl (i := 1) (x := (f19 1) ||| (p0 <<< ((12 : Int32).toInt64 &&& 63))) (vp_c (by decide)) d_Ref_bits_31 ?_
  clear hP hS
  intro H locs (hP : va_P (dC, dI) classes [oc h0 8 [.int p2, .int p3, .ref h1, .ref h2, .ref h3, .ref h4, .ref h5, .ref h6, .ref h7, .ref h8, .ref h9, .ref h10, .ref h11, .ref h12, .int p4, .ref h13, .ref h14, .ref h15, .ref h16, .int p5, .int p6, .ref h17, .ref h18, .ref h19, .int p7, .ref h20, .int 76, .int p9, .ref h21, .ref h22, .ref h23, .ref h24, .ref h25, .ref h26, .ref h27, .ref h28, .int p10, .int p11, .ref h29, .ref h30, .ref h31, .ref h32, .ref h33, .ref h34, .ref h35, .ref h36, .int p12, .ref h37], la h20 k19 5 (vp_updL f19 1 ((f19 1) ||| (p0 <<< ((12 : Int32).toInt64 &&& 63))))] H) _ hS
  refine tp_pc (pc' := 32) (by rfl) ?_
  refine lv_iload hx hb d_Ref_bits_32 (lv_at hl 0 rfl) ?_
  refine lv_iload_n hx hb d_Ref_bits_34 rfl (lv_at hl 4 rfl) ?_
  refine lv_iadd hx hb d_Ref_bits_35 ?_
  refine tp_i (y := 16) (by first | rfl | decide) ?_
  refine lv_bipush (v := 64) hx hb d_Ref_bits_36 (by decide) ?_
  refine lv_icmp_le (tgt := 60) hx hb d_Ref_bits_38 (by decide) (fun c_1 => ?_) (fun c_1 => absurd c_1 (by decide))
  refine tp_pc (pc' := 60) (by rfl) ?_
  refine lv_aload_n hx hb d_Ref_bits_60 rfl (lv_at hl 2 rfl) ?_
  refine lv_dup hx hb d_Ref_bits_61 rfl ?_
  refine va_get (D := (dC, dI)) (ci := 8) (v := .int 76) (C := R_Ref) (T := F_Ref) (N := 48) hx hb hw i_Ref hown hK hP 0 rfl rfl 26 (by decide) (hw _ m_925) (fun _ h9 => h9) rfl d_Ref_bits_62 ?_
  refine lv_iload_n hx hb d_Ref_bits_65 rfl (lv_at hl 4 rfl) ?_
  refine lv_iadd hx hb d_Ref_bits_66 ?_
  refine tp_i (y := 80) (by first | rfl | decide) ?_
  refine va_put (D := (dC, dI)) (ci := 8) (v := .int 80) (ty := .int) (C := R_Ref) (T := F_Ref) (N := 48) hx hb hw i_Ref t_Ref t_Ref_ok n_Ref hown hK hP (dd_D hD rfl) hS 0 rfl rfl 26 (by decide) (hw _ m_925) (fun _ h9 => h9) rfl (by decide +kernel) rfl rfl (Nat.le_of_ble_eq_true rfl) d_Ref_bits_67 ?_
  clear hP hS locs H
  intro H locs (hP : va_P (dC, dI) classes [oc h0 8 [.int p2, .int p3, .ref h1, .ref h2, .ref h3, .ref h4, .ref h5, .ref h6, .ref h7, .ref h8, .ref h9, .ref h10, .ref h11, .ref h12, .int p4, .ref h13, .ref h14, .ref h15, .ref h16, .int p5, .int p6, .ref h17, .ref h18, .ref h19, .int p7, .ref h20, .int 80, .int p9, .ref h21, .ref h22, .ref h23, .ref h24, .ref h25, .ref h26, .ref h27, .ref h28, .int p10, .int p11, .ref h29, .ref h30, .ref h31, .ref h32, .ref h33, .ref h34, .ref h35, .ref h36, .int p12, .ref h37], la h20 k19 5 (vp_updL f19 1 ((f19 1) ||| (p0 <<< ((12 : Int32).toInt64 &&& 63))))] H) _ hS
  refine tp_pc (pc' := 70) (by rfl) ?_
  obtain ⟨hP9, hD9, -⟩ := cut3 (wc := [oc h0 8 [.int p2, .int p3, .ref h1, .ref h2, .ref h3, .ref h4, .ref h5, .ref h6, .ref h7, .ref h8, .ref h9, .ref h10, .ref h11, .ref h12, .int p4, .ref h13, .ref h14, .ref h15, .ref h16, .int p5, .int p6, .ref h17, .ref h18, .ref h19, .int p7, .ref h20, .int 80, .int p9, .ref h21, .ref h22, .ref h23, .ref h24, .ref h25, .ref h26, .ref h27, .ref h28, .int p10, .int p11, .ref h29, .ref h30, .ref h31, .ref h32, .ref h33, .ref h34, .ref h35, .ref h36, .int p12, .ref h37], la h20 k19 5 (vp_updL f19 1 ((f19 1) ||| (p0 <<< ((12 : Int32).toInt64 &&& 63))))]) hP hD rfl hS hA [0, 1] (by decide +kernel) rfl
  have hK9 := hK.sub (tys' := []) [] rfl
  refine W.widen (k := 0) (n := 0) (by exact Nat.le_of_ble_eq_true rfl) (by exact Nat.le_of_ble_eq_true rfl) ?_
  exact W.vret hx hb hr (fun t ht hW => ⟨⟨(), rfl, trivial, by rw [ht]; exact hP9, va_K.moved hW.alike hK9, hD9⟩, hS.F ht⟩) hS.2.2 d_Ref_bits_70
set_option maxHeartbeats 4000000 in
set_option maxRecDepth 100000 in
theorem c_Ref_bits_v31 (l : Launch) (dC : Nat → ClassId) (dI : Nat → Nat → Nat) (h0 : Nat) (p0 : Int64) (p2 : Int32) (p3 : Int32) (h1 : Nat) (h2 : Nat) (h3 : Nat) (h4 : Nat) (h5 : Nat) (h6 : Nat) (h7 : Nat) (h8 : Nat) (h9 : Nat) (h10 : Nat) (h11 : Nat) (h12 : Nat) (p4 : Int32) (h13 : Nat) (h14 : Nat) (h15 : Nat) (h16 : Nat) (p5 : Int32) (p6 : Int32) (h17 : Nat) (h18 : Nat) (h19 : Nat) (p7 : Int32) (h20 : Nat) (p9 : Int32) (h21 : Nat) (h22 : Nat) (h23 : Nat) (h24 : Nat) (h25 : Nat) (h26 : Nat) (h27 : Nat) (h28 : Nat) (p10 : Int32) (p11 : Int32) (h29 : Nat) (h30 : Nat) (h31 : Nat) (h32 : Nat) (h33 : Nat) (h34 : Nat) (h35 : Nat) (h36 : Nat) (p12 : Int32) (h37 : Nat) (k19 : ClassId) (f19 : Nat → Int64) (sz : Nat) : Met l y_Ref_bits w_Ref_bits ({ frames := 0, cells := 0, slots := 0, locals := 0 }) (va_Pc [.ref h0, .long p0, .int 4] (fun U => U.heap.size = sz ∧ va_P (dC, dI) classes [oc h0 8 [.int p2, .int p3, .ref h1, .ref h2, .ref h3, .ref h4, .ref h5, .ref h6, .ref h7, .ref h8, .ref h9, .ref h10, .ref h11, .ref h12, .int p4, .ref h13, .ref h14, .ref h15, .ref h16, .int p5, .int p6, .ref h17, .ref h18, .ref h19, .int p7, .ref h20, .int 80, .int p9, .ref h21, .ref h22, .ref h23, .ref h24, .ref h25, .ref h26, .ref h27, .ref h28, .int p10, .int p11, .ref h29, .ref h30, .ref h31, .ref h32, .ref h33, .ref h34, .ref h35, .ref h36, .int p12, .ref h37], la h20 k19 5 f19] U.heap ∧ va_K (dC, dI) classes [(k19, .long)] U ∧ va_D (fun _ => True) [oc h0 8 [.int p2, .int p3, .ref h1, .ref h2, .ref h3, .ref h4, .ref h5, .ref h6, .ref h7, .ref h8, .ref h9, .ref h10, .ref h11, .ref h12, .int p4, .ref h13, .ref h14, .ref h15, .ref h16, .int p5, .int p6, .ref h17, .ref h18, .ref h19, .int p7, .ref h20, .int 80, .int p9, .ref h21, .ref h22, .ref h23, .ref h24, .ref h25, .ref h26, .ref h27, .ref h28, .int p10, .int p11, .ref h29, .ref h30, .ref h31, .ref h32, .ref h33, .ref h34, .ref h35, .ref h36, .int p12, .ref h37], la h20 k19 5 f19] ∧ nw U)) (va_Qv (fun _ : Unit => True) (fun _ t => va_P (dC, dI) classes [oc h0 8 [.int p2, .int p3, .ref h1, .ref h2, .ref h3, .ref h4, .ref h5, .ref h6, .ref h7, .ref h8, .ref h9, .ref h10, .ref h11, .ref h12, .int p4, .ref h13, .ref h14, .ref h15, .ref h16, .int p5, .int p6, .ref h17, .ref h18, .ref h19, .int p7, .ref h20, .int 84, .int p9, .ref h21, .ref h22, .ref h23, .ref h24, .ref h25, .ref h26, .ref h27, .ref h28, .int p10, .int p11, .ref h29, .ref h30, .ref h31, .ref h32, .ref h33, .ref h34, .ref h35, .ref h36, .int p12, .ref h37], la h20 k19 5 (vp_updL f19 1 ((f19 1) ||| (p0 <<< ((16 : Int32).toInt64 &&& 63))))] t.heap ∧ va_K (dC, dI) classes [] t ∧ va_D (va_A [oc h0 8 [.int p2, .int p3, .ref h1, .ref h2, .ref h3, .ref h4, .ref h5, .ref h6, .ref h7, .ref h8, .ref h9, .ref h10, .ref h11, .ref h12, .int p4, .ref h13, .ref h14, .ref h15, .ref h16, .int p5, .int p6, .ref h17, .ref h18, .ref h19, .int p7, .ref h20, .int 80, .int p9, .ref h21, .ref h22, .ref h23, .ref h24, .ref h25, .ref h26, .ref h27, .ref h28, .int p10, .int p11, .ref h29, .ref h30, .ref h31, .ref h32, .ref h33, .ref h34, .ref h35, .ref h36, .int p12, .ref h37], la h20 k19 5 f19] sz) [oc h0 8 [.int p2, .int p3, .ref h1, .ref h2, .ref h3, .ref h4, .ref h5, .ref h6, .ref h7, .ref h8, .ref h9, .ref h10, .ref h11, .ref h12, .int p4, .ref h13, .ref h14, .ref h15, .ref h16, .int p5, .int p6, .ref h17, .ref h18, .ref h19, .int p7, .ref h20, .int 84, .int p9, .ref h21, .ref h22, .ref h23, .ref h24, .ref h25, .ref h26, .ref h27, .ref h28, .int p10, .int p11, .ref h29, .ref h30, .ref h31, .ref h32, .ref h33, .ref h34, .ref h35, .ref h36, .int p12, .ref h37], la h20 k19 5 (vp_updL f19 1 ((f19 1) ||| (p0 <<< ((16 : Int32).toInt64 &&& 63))))]) (va_A [oc h0 8 [.int p2, .int p3, .ref h1, .ref h2, .ref h3, .ref h4, .ref h5, .ref h6, .ref h7, .ref h8, .ref h9, .ref h10, .ref h11, .ref h12, .int p4, .ref h13, .ref h14, .ref h15, .ref h16, .int p5, .int p6, .ref h17, .ref h18, .ref h19, .int p7, .ref h20, .int 80, .int p9, .ref h21, .ref h22, .ref h23, .ref h24, .ref h25, .ref h26, .ref h27, .ref h28, .int p10, .int p11, .ref h29, .ref h30, .ref h31, .ref h32, .ref h33, .ref h34, .ref h35, .ref h36, .int p12, .ref h37], la h20 k19 5 f19] sz)) 0 0 (va_A [oc h0 8 [.int p2, .int p3, .ref h1, .ref h2, .ref h3, .ref h4, .ref h5, .ref h6, .ref h7, .ref h8, .ref h9, .ref h10, .ref h11, .ref h12, .int p4, .ref h13, .ref h14, .ref h15, .ref h16, .int p5, .int p6, .ref h17, .ref h18, .ref h19, .int p7, .ref h20, .int 80, .int p9, .ref h21, .ref h22, .ref h23, .ref h24, .ref h25, .ref h26, .ref h27, .ref h28, .int p10, .int p11, .ref h29, .ref h30, .ref h31, .ref h32, .ref h33, .ref h34, .ref h35, .ref h36, .int p12, .ref h37], la h20 k19 5 f19] sz) := by
  refine Met.ofW (cc := b_Ref_bits) (maxL := 6) (ret := none) (by decide) rfl ?_
  intro p e s m args below meth c s₁ B hml hv
  obtain ⟨rfl, hsz, hP, hK, hD0, hn⟩ := hv
  have hx := B.exec
  have hb := B.bytes
  have hr := B.returns
  have hw := fun w (h : w ∈ wt) => atoms_spec (ws := w_Ref_bits) B.pre w (List.mem_cons_of_mem _ h)
  have hown : s.vm.findClass R_Ref = some m.cls := findClass_of_methodNamed B.named
  have hlocks := B.notSynchronized
  subst hsz
  have hD1 := hD0.self (sz := s.heap.size)
  generalize hAe : va_A [oc h0 8 [.int p2, .int p3, .ref h1, .ref h2, .ref h3, .ref h4, .ref h5, .ref h6, .ref h7, .ref h8, .ref h9, .ref h10, .ref h11, .ref h12, .int p4, .ref h13, .ref h14, .ref h15, .ref h16, .int p5, .int p6, .ref h17, .ref h18, .ref h19, .int p7, .ref h20, .int 80, .int p9, .ref h21, .ref h22, .ref h23, .ref h24, .ref h25, .ref h26, .ref h27, .ref h28, .int p10, .int p11, .ref h29, .ref h30, .ref h31, .ref h32, .ref h33, .ref h34, .ref h35, .ref h36, .int p12, .ref h37], la h20 k19 5 f19] s.heap.size = A at hD1 ⊢
  have hA : ∀ q : Nat, s.heap.size ≤ q → A q := fun q h => by rw [← hAe]; exact Or.inr h
  have hD : dd A [h0, h20] := dd_of hD1 rfl
  clear hAe hD0 hD1
  have hS : va_S A s.heap s.heap [] := va_S.rf
  replace hP : va_P (dC, dI) classes [oc h0 8 [.int p2, .int p3, .ref h1, .ref h2, .ref h3, .ref h4, .ref h5, .ref h6, .ref h7, .ref h8, .ref h9, .ref h10, .ref h11, .ref h12, .int p4, .ref h13, .ref h14, .ref h15, .ref h16, .int p5, .int p6, .ref h17, .ref h18, .ref h19, .int p7, .ref h20, .int 80, .int p9, .ref h21, .ref h22, .ref h23, .ref h24, .ref h25, .ref h26, .ref h27, .ref h28, .int p10, .int p11, .ref h29, .ref h30, .ref h31, .ref h32, .ref h33, .ref h34, .ref h35, .ref h36, .int p12, .ref h37], la h20 k19 5 f19] s.heap := hP
  have hl := lv_entry ([.ref h0, .long p0, .int 4]) (n := 6) (Nat.le_of_ble_eq_true rfl)
  rw [lg_entry_eq]
  generalize (lg_sl ([.ref h0, .long p0, .int 4]) ++ List.replicate (6 - (lg_sl ([.ref h0, .long p0, .int 4])).length) Slot.unset).toArray = ls at hl ⊢
  replace hl : lv_has ls 6 [(0, .ref h0), (1, .long p0), (3, .int 4)] := hl
  refine lv_aload_n hx hb d_Ref_bits_0 rfl (lv_at hl 0 rfl) ?_
  refine va_get (D := (dC, dI)) (ci := 8) (v := .int 80) (C := R_Ref) (T := F_Ref) (N := 48) hx hb hw i_Ref hown hK hP 0 rfl rfl 26 (by decide) (hw _ m_925) (fun _ h9 => h9) rfl d_Ref_bits_1 ?_
  refine lv_bipush (v := 64) hx hb d_Ref_bits_4 (by decide) ?_
  refine lv_idiv hx hb d_Ref_bits_6 (by decide) ?_
  refine tp_i (y := 1) (by first | rfl | decide) ?_
  refine lv_istore (lv' := [(4, .int 1), (0, .ref h0), (1, .long p0), (3, .int 4)]) hx hb d_Ref_bits_7 hl (by decide) rfl ?_
  clear hl ls
  intro ls hl
  refine lv_aload_n hx hb d_Ref_bits_9 rfl (lv_at hl 1 rfl) ?_
  refine va_get (D := (dC, dI)) (ci := 8) (v := .int 80) (C := R_Ref) (T := F_Ref) (N := 48) hx hb hw i_Ref hown hK hP 0 rfl rfl 26 (by decide) (hw _ m_925) (fun _ h9 => h9) rfl d_Ref_bits_10 ?_
  refine lv_bipush (v := 64) hx hb d_Ref_bits_13 (by decide) ?_
  refine lv_irem hx hb d_Ref_bits_15 (by decide) ?_
  refine tp_i (y := 16) (by first | rfl | decide) ?_
  refine lv_istore (lv' := [(5, .int 16), (4, .int 1), (0, .ref h0), (1, .long p0), (3, .int 4)]) hx hb d_Ref_bits_16 hl (by decide) rfl ?_
  clear hl ls
  intro ls hl
  refine lv_aload_n hx hb d_Ref_bits_18 rfl (lv_at hl 2 rfl) ?_
  refine va_get (D := (dC, dI)) (ci := 8) (v := .ref h20) (C := R_Ref) (T := F_Ref) (N := 48) hx hb hw i_Ref hown hK hP 0 rfl rfl 25 (by decide) (hw _ m_924) (fun _ h9 => h9) rfl d_Ref_bits_19 ?_
  refine lv_iload hx hb d_Ref_bits_22 (lv_at hl 1 rfl) ?_
  refine lv_dup2_11 hx hb d_Ref_bits_24 rfl rfl ?_
  refine va_lald (D := (dC, dI)) hx hb hK hP 1 0 rfl rfl (i := 1) (vp_c (by decide)) d_Ref_bits_25 ?_
  refine tp_l (y := f19 1) (by first | rfl | decide) ?_
  refine lv_lload_n hx hb d_Ref_bits_26 rfl (lv_at hl 3 rfl) ?_
  refine lv_iload hx hb d_Ref_bits_27 (lv_at hl 0 rfl) ?_
  refine lv_lshl (v := p0 <<< ((16 : Int32).toInt64 &&& 63)) hx hb d_Ref_bits_29 (by first | rfl | decide) ?_
  refine lv_lor hx hb d_Ref_bits_30 ?_
  refine tp_l (y := (f19 1) ||| (p0 <<< ((16 : Int32).toInt64 &&& 63))) (by first | rfl | decide) ?_
  refine va_last (D := (dC, dI)) hx hb hK hP (dd_D hD rfl) hS 1 0 rfl rfl (i := 1) (x := (f19 1) ||| (p0 <<< ((16 : Int32).toInt64 &&& 63))) (vp_c (by decide)) d_Ref_bits_31 ?_
  clear hP hS
  intro H locs (hP : va_P (dC, dI) classes [oc h0 8 [.int p2, .int p3, .ref h1, .ref h2, .ref h3, .ref h4, .ref h5, .ref h6, .ref h7, .ref h8, .ref h9, .ref h10, .ref h11, .ref h12, .int p4, .ref h13, .ref h14, .ref h15, .ref h16, .int p5, .int p6, .ref h17, .ref h18, .ref h19, .int p7, .ref h20, .int 80, .int p9, .ref h21, .ref h22, .ref h23, .ref h24, .ref h25, .ref h26, .ref h27, .ref h28, .int p10, .int p11, .ref h29, .ref h30, .ref h31, .ref h32, .ref h33, .ref h34, .ref h35, .ref h36, .int p12, .ref h37], la h20 k19 5 (vp_updL f19 1 ((f19 1) ||| (p0 <<< ((16 : Int32).toInt64 &&& 63))))] H) _ hS
  refine tp_pc (pc' := 32) (by rfl) ?_
  refine lv_iload hx hb d_Ref_bits_32 (lv_at hl 0 rfl) ?_
  refine lv_iload_n hx hb d_Ref_bits_34 rfl (lv_at hl 4 rfl) ?_
  refine lv_iadd hx hb d_Ref_bits_35 ?_
  refine tp_i (y := 20) (by first | rfl | decide) ?_
  refine lv_bipush (v := 64) hx hb d_Ref_bits_36 (by decide) ?_
  refine lv_icmp_le (tgt := 60) hx hb d_Ref_bits_38 (by decide) (fun c_1 => ?_) (fun c_1 => absurd c_1 (by decide))
  refine tp_pc (pc' := 60) (by rfl) ?_
  refine lv_aload_n hx hb d_Ref_bits_60 rfl (lv_at hl 2 rfl) ?_
  refine lv_dup hx hb d_Ref_bits_61 rfl ?_
  refine va_get (D := (dC, dI)) (ci := 8) (v := .int 80) (C := R_Ref) (T := F_Ref) (N := 48) hx hb hw i_Ref hown hK hP 0 rfl rfl 26 (by decide) (hw _ m_925) (fun _ h9 => h9) rfl d_Ref_bits_62 ?_
  refine lv_iload_n hx hb d_Ref_bits_65 rfl (lv_at hl 4 rfl) ?_
  refine lv_iadd hx hb d_Ref_bits_66 ?_
  refine tp_i (y := 84) (by first | rfl | decide) ?_
  refine va_put (D := (dC, dI)) (ci := 8) (v := .int 84) (ty := .int) (C := R_Ref) (T := F_Ref) (N := 48) hx hb hw i_Ref t_Ref t_Ref_ok n_Ref hown hK hP (dd_D hD rfl) hS 0 rfl rfl 26 (by decide) (hw _ m_925) (fun _ h9 => h9) rfl (by decide +kernel) rfl rfl (Nat.le_of_ble_eq_true rfl) d_Ref_bits_67 ?_
  clear hP hS locs H
  intro H locs (hP : va_P (dC, dI) classes [oc h0 8 [.int p2, .int p3, .ref h1, .ref h2, .ref h3, .ref h4, .ref h5, .ref h6, .ref h7, .ref h8, .ref h9, .ref h10, .ref h11, .ref h12, .int p4, .ref h13, .ref h14, .ref h15, .ref h16, .int p5, .int p6, .ref h17, .ref h18, .ref h19, .int p7, .ref h20, .int 84, .int p9, .ref h21, .ref h22, .ref h23, .ref h24, .ref h25, .ref h26, .ref h27, .ref h28, .int p10, .int p11, .ref h29, .ref h30, .ref h31, .ref h32, .ref h33, .ref h34, .ref h35, .ref h36, .int p12, .ref h37], la h20 k19 5 (vp_updL f19 1 ((f19 1) ||| (p0 <<< ((16 : Int32).toInt64 &&& 63))))] H) _ hS
  refine tp_pc (pc' := 70) (by rfl) ?_
  obtain ⟨hP9, hD9, -⟩ := cut3 (wc := [oc h0 8 [.int p2, .int p3, .ref h1, .ref h2, .ref h3, .ref h4, .ref h5, .ref h6, .ref h7, .ref h8, .ref h9, .ref h10, .ref h11, .ref h12, .int p4, .ref h13, .ref h14, .ref h15, .ref h16, .int p5, .int p6, .ref h17, .ref h18, .ref h19, .int p7, .ref h20, .int 84, .int p9, .ref h21, .ref h22, .ref h23, .ref h24, .ref h25, .ref h26, .ref h27, .ref h28, .int p10, .int p11, .ref h29, .ref h30, .ref h31, .ref h32, .ref h33, .ref h34, .ref h35, .ref h36, .int p12, .ref h37], la h20 k19 5 (vp_updL f19 1 ((f19 1) ||| (p0 <<< ((16 : Int32).toInt64 &&& 63))))]) hP hD rfl hS hA [0, 1] (by decide +kernel) rfl
  have hK9 := hK.sub (tys' := []) [] rfl
  refine W.widen (k := 0) (n := 0) (by exact Nat.le_of_ble_eq_true rfl) (by exact Nat.le_of_ble_eq_true rfl) ?_
  exact W.vret hx hb hr (fun t ht hW => ⟨⟨(), rfl, trivial, by rw [ht]; exact hP9, va_K.moved hW.alike hK9, hD9⟩, hS.F ht⟩) hS.2.2 d_Ref_bits_70
set_option maxHeartbeats 4000000 in
set_option maxRecDepth 100000 in
theorem c_Ref_encodeRows (l : Launch) (dC : Nat → ClassId) (dI : Nat → Nat → Nat) (h0 : Nat) (p1 : Int32) (h1 : Nat) (h2 : Nat) (h3 : Nat) (h4 : Nat) (h5 : Nat) (h6 : Nat) (h7 : Nat) (h8 : Nat) (h9 : Nat) (h10 : Nat) (h11 : Nat) (h12 : Nat) (p2 : Int32) (h13 : Nat) (h14 : Nat) (h15 : Nat) (h16 : Nat) (p3 : Int32) (p4 : Int32) (h17 : Nat) (h18 : Nat) (h19 : Nat) (p5 : Int32) (h20 : Nat) (p7 : Int32) (h21 : Nat) (h22 : Nat) (h23 : Nat) (h24 : Nat) (h25 : Nat) (h26 : Nat) (h27 : Nat) (h28 : Nat) (p8 : Int32) (p9 : Int32) (h29 : Nat) (h30 : Nat) (h31 : Nat) (h32 : Nat) (h33 : Nat) (h34 : Nat) (h35 : Nat) (h36 : Nat) (p10 : Int32) (h37 : Nat) (k13 : ClassId) (k19 : ClassId) (f19 : Nat → Int64) (sz : Nat) : Met l y_Ref_encodeRows w_Ref_encodeRows ({ frames := 1, cells := 0, slots := 0, locals := 25 }) (va_Pc [.ref h0] (fun U => U.heap.size = sz ∧ va_P (dC, dI) classes [oc h0 8 [.int 0, .int p1, .ref h1, .ref h2, .ref h3, .ref h4, .ref h5, .ref h6, .ref h7, .ref h8, .ref h9, .ref h10, .ref h11, .ref h12, .int p2, .ref h13, .ref h14, .ref h15, .ref h16, .int p3, .int p4, .ref h17, .ref h18, .ref h19, .int p5, .ref h20, .int 68, .int p7, .ref h21, .ref h22, .ref h23, .ref h24, .ref h25, .ref h26, .ref h27, .ref h28, .int p8, .int p9, .ref h29, .ref h30, .ref h31, .ref h32, .ref h33, .ref h34, .ref h35, .ref h36, .int p10, .ref h37], ia h14 k13 155 (upd (upd (upd (upd (upd (upd (upd (upd (upd (upd (upd (upd (upd (upd (upd (upd (upd (upd (upd (upd (upd (upd (upd (upd (upd (upd (upd (upd (upd (upd (upd (upd (fun _ => 0) 37 1) 96 1) 97 2) 98 3) 38 1) 49 1) 140 1) 100 1) 144 1) 101 2) 148 1) 102 3) 152 1) 39 1) 57 2) 141 2) 104 1) 145 2) 105 2) 149 2) 106 3) 153 2) 40 1) 65 3) 142 3) 108 1) 146 3) 109 2) 150 3) 110 3) 154 3) 15 4), la h20 k19 5 f19] U.heap ∧ va_K (dC, dI) classes [(k13, .int), (k19, .long)] U ∧ va_D (fun _ => True) [oc h0 8 [.int 0, .int p1, .ref h1, .ref h2, .ref h3, .ref h4, .ref h5, .ref h6, .ref h7, .ref h8, .ref h9, .ref h10, .ref h11, .ref h12, .int p2, .ref h13, .ref h14, .ref h15, .ref h16, .int p3, .int p4, .ref h17, .ref h18, .ref h19, .int p5, .ref h20, .int 68, .int p7, .ref h21, .ref h22, .ref h23, .ref h24, .ref h25, .ref h26, .ref h27, .ref h28, .int p8, .int p9, .ref h29, .ref h30, .ref h31, .ref h32, .ref h33, .ref h34, .ref h35, .ref h36, .int p10, .ref h37], ia h14 k13 155 (upd (upd (upd (upd (upd (upd (upd (upd (upd (upd (upd (upd (upd (upd (upd (upd (upd (upd (upd (upd (upd (upd (upd (upd (upd (upd (upd (upd (upd (upd (upd (upd (fun _ => 0) 37 1) 96 1) 97 2) 98 3) 38 1) 49 1) 140 1) 100 1) 144 1) 101 2) 148 1) 102 3) 152 1) 39 1) 57 2) 141 2) 104 1) 145 2) 105 2) 149 2) 106 3) 153 2) 40 1) 65 3) 142 3) 108 1) 146 3) 109 2) 150 3) 110 3) 154 3) 15 4), la h20 k19 5 f19] ∧ nw U)) (va_Qv (fun _ : Unit => True) (fun _ t => va_P (dC, dI) classes [oc h0 8 [.int 0, .int p1, .ref h1, .ref h2, .ref h3, .ref h4, .ref h5, .ref h6, .ref h7, .ref h8, .ref h9, .ref h10, .ref h11, .ref h12, .int p2, .ref h13, .ref h14, .ref h15, .ref h16, .int p3, .int p4, .ref h17, .ref h18, .ref h19, .int p5, .ref h20, .int 84, .int p7, .ref h21, .ref h22, .ref h23, .ref h24, .ref h25, .ref h26, .ref h27, .ref h28, .int p8, .int p9, .ref h29, .ref h30, .ref h31, .ref h32, .ref h33, .ref h34, .ref h35, .ref h36, .int p10, .ref h37], ia h14 k13 155 (upd (upd (upd (upd (upd (upd (upd (upd (upd (upd (upd (upd (upd (upd (upd (upd (upd (upd (upd (upd (upd (upd (upd (upd (upd (upd (upd (upd (upd (upd (upd (upd (fun _ => 0) 37 1) 96 1) 97 2) 98 3) 38 1) 49 1) 140 1) 100 1) 144 1) 101 2) 148 1) 102 3) 152 1) 39 1) 57 2) 141 2) 104 1) 145 2) 105 2) 149 2) 106 3) 153 2) 40 1) 65 3) 142 3) 108 1) 146 3) 109 2) 150 3) 110 3) 154 3) 15 4), la h20 k19 5 (vp_updL (vp_updL (vp_updL (vp_updL f19 1 ((f19 1) ||| (1 <<< ((4 : Int32).toInt64 &&& 63)))) 1 (((vp_updL f19 1 ((f19 1) ||| (1 <<< ((4 : Int32).toInt64 &&& 63)))) 1) ||| (1 <<< ((8 : Int32).toInt64 &&& 63)))) 1 (((vp_updL (vp_updL f19 1 ((f19 1) ||| (1 <<< ((4 : Int32).toInt64 &&& 63)))) 1 (((vp_updL f19 1 ((f19 1) ||| (1 <<< ((4 : Int32).toInt64 &&& 63)))) 1) ||| (1 <<< ((8 : Int32).toInt64 &&& 63)))) 1) ||| (1 <<< ((12 : Int32).toInt64 &&& 63)))) 1 (((vp_updL (vp_updL (vp_updL f19 1 ((f19 1) ||| (1 <<< ((4 : Int32).toInt64 &&& 63)))) 1 (((vp_updL f19 1 ((f19 1) ||| (1 <<< ((4 : Int32).toInt64 &&& 63)))) 1) ||| (1 <<< ((8 : Int32).toInt64 &&& 63)))) 1 (((vp_updL (vp_updL f19 1 ((f19 1) ||| (1 <<< ((4 : Int32).toInt64 &&& 63)))) 1 (((vp_updL f19 1 ((f19 1) ||| (1 <<< ((4 : Int32).toInt64 &&& 63)))) 1) ||| (1 <<< ((8 : Int32).toInt64 &&& 63)))) 1) ||| (1 <<< ((12 : Int32).toInt64 &&& 63)))) 1) ||| (1 <<< ((16 : Int32).toInt64 &&& 63))))] t.heap ∧ va_K (dC, dI) classes [] t ∧ va_D (va_A [oc h0 8 [.int 0, .int p1, .ref h1, .ref h2, .ref h3, .ref h4, .ref h5, .ref h6, .ref h7, .ref h8, .ref h9, .ref h10, .ref h11, .ref h12, .int p2, .ref h13, .ref h14, .ref h15, .ref h16, .int p3, .int p4, .ref h17, .ref h18, .ref h19, .int p5, .ref h20, .int 68, .int p7, .ref h21, .ref h22, .ref h23, .ref h24, .ref h25, .ref h26, .ref h27, .ref h28, .int p8, .int p9, .ref h29, .ref h30, .ref h31, .ref h32, .ref h33, .ref h34, .ref h35, .ref h36, .int p10, .ref h37], ia h14 k13 155 (upd (upd (upd (upd (upd (upd (upd (upd (upd (upd (upd (upd (upd (upd (upd (upd (upd (upd (upd (upd (upd (upd (upd (upd (upd (upd (upd (upd (upd (upd (upd (upd (fun _ => 0) 37 1) 96 1) 97 2) 98 3) 38 1) 49 1) 140 1) 100 1) 144 1) 101 2) 148 1) 102 3) 152 1) 39 1) 57 2) 141 2) 104 1) 145 2) 105 2) 149 2) 106 3) 153 2) 40 1) 65 3) 142 3) 108 1) 146 3) 109 2) 150 3) 110 3) 154 3) 15 4), la h20 k19 5 f19] sz) [oc h0 8 [.int 0, .int p1, .ref h1, .ref h2, .ref h3, .ref h4, .ref h5, .ref h6, .ref h7, .ref h8, .ref h9, .ref h10, .ref h11, .ref h12, .int p2, .ref h13, .ref h14, .ref h15, .ref h16, .int p3, .int p4, .ref h17, .ref h18, .ref h19, .int p5, .ref h20, .int 84, .int p7, .ref h21, .ref h22, .ref h23, .ref h24, .ref h25, .ref h26, .ref h27, .ref h28, .int p8, .int p9, .ref h29, .ref h30, .ref h31, .ref h32, .ref h33, .ref h34, .ref h35, .ref h36, .int p10, .ref h37], ia h14 k13 155 (upd (upd (upd (upd (upd (upd (upd (upd (upd (upd (upd (upd (upd (upd (upd (upd (upd (upd (upd (upd (upd (upd (upd (upd (upd (upd (upd (upd (upd (upd (upd (upd (fun _ => 0) 37 1) 96 1) 97 2) 98 3) 38 1) 49 1) 140 1) 100 1) 144 1) 101 2) 148 1) 102 3) 152 1) 39 1) 57 2) 141 2) 104 1) 145 2) 105 2) 149 2) 106 3) 153 2) 40 1) 65 3) 142 3) 108 1) 146 3) 109 2) 150 3) 110 3) 154 3) 15 4), la h20 k19 5 (vp_updL (vp_updL (vp_updL (vp_updL f19 1 ((f19 1) ||| (1 <<< ((4 : Int32).toInt64 &&& 63)))) 1 (((vp_updL f19 1 ((f19 1) ||| (1 <<< ((4 : Int32).toInt64 &&& 63)))) 1) ||| (1 <<< ((8 : Int32).toInt64 &&& 63)))) 1 (((vp_updL (vp_updL f19 1 ((f19 1) ||| (1 <<< ((4 : Int32).toInt64 &&& 63)))) 1 (((vp_updL f19 1 ((f19 1) ||| (1 <<< ((4 : Int32).toInt64 &&& 63)))) 1) ||| (1 <<< ((8 : Int32).toInt64 &&& 63)))) 1) ||| (1 <<< ((12 : Int32).toInt64 &&& 63)))) 1 (((vp_updL (vp_updL (vp_updL f19 1 ((f19 1) ||| (1 <<< ((4 : Int32).toInt64 &&& 63)))) 1 (((vp_updL f19 1 ((f19 1) ||| (1 <<< ((4 : Int32).toInt64 &&& 63)))) 1) ||| (1 <<< ((8 : Int32).toInt64 &&& 63)))) 1 (((vp_updL (vp_updL f19 1 ((f19 1) ||| (1 <<< ((4 : Int32).toInt64 &&& 63)))) 1 (((vp_updL f19 1 ((f19 1) ||| (1 <<< ((4 : Int32).toInt64 &&& 63)))) 1) ||| (1 <<< ((8 : Int32).toInt64 &&& 63)))) 1) ||| (1 <<< ((12 : Int32).toInt64 &&& 63)))) 1) ||| (1 <<< ((16 : Int32).toInt64 &&& 63))))]) (va_A [oc h0 8 [.int 0, .int p1, .ref h1, .ref h2, .ref h3, .ref h4, .ref h5, .ref h6, .ref h7, .ref h8, .ref h9, .ref h10, .ref h11, .ref h12, .int p2, .ref h13, .ref h14, .ref h15, .ref h16, .int p3, .int p4, .ref h17, .ref h18, .ref h19, .int p5, .ref h20, .int 68, .int p7, .ref h21, .ref h22, .ref h23, .ref h24, .ref h25, .ref h26, .ref h27, .ref h28, .int p8, .int p9, .ref h29, .ref h30, .ref h31, .ref h32, .ref h33, .ref h34, .ref h35, .ref h36, .int p10, .ref h37], ia h14 k13 155 (upd (upd (upd (upd (upd (upd (upd (upd (upd (upd (upd (upd (upd (upd (upd (upd (upd (upd (upd (upd (upd (upd (upd (upd (upd (upd (upd (upd (upd (upd (upd (upd (fun _ => 0) 37 1) 96 1) 97 2) 98 3) 38 1) 49 1) 140 1) 100 1) 144 1) 101 2) 148 1) 102 3) 152 1) 39 1) 57 2) 141 2) 104 1) 145 2) 105 2) 149 2) 106 3) 153 2) 40 1) 65 3) 142 3) 108 1) 146 3) 109 2) 150 3) 110 3) 154 3) 15 4), la h20 k19 5 f19] sz)) 0 0 (va_A [oc h0 8 [.int 0, .int p1, .ref h1, .ref h2, .ref h3, .ref h4, .ref h5, .ref h6, .ref h7, .ref h8, .ref h9, .ref h10, .ref h11, .ref h12, .int p2, .ref h13, .ref h14, .ref h15, .ref h16, .int p3, .int p4, .ref h17, .ref h18, .ref h19, .int p5, .ref h20, .int 68, .int p7, .ref h21, .ref h22, .ref h23, .ref h24, .ref h25, .ref h26, .ref h27, .ref h28, .int p8, .int p9, .ref h29, .ref h30, .ref h31, .ref h32, .ref h33, .ref h34, .ref h35, .ref h36, .int p10, .ref h37], ia h14 k13 155 (upd (upd (upd (upd (upd (upd (upd (upd (upd (upd (upd (upd (upd (upd (upd (upd (upd (upd (upd (upd (upd (upd (upd (upd (upd (upd (upd (upd (upd (upd (upd (upd (fun _ => 0) 37 1) 96 1) 97 2) 98 3) 38 1) 49 1) 140 1) 100 1) 144 1) 101 2) 148 1) 102 3) 152 1) 39 1) 57 2) 141 2) 104 1) 145 2) 105 2) 149 2) 106 3) 153 2) 40 1) 65 3) 142 3) 108 1) 146 3) 109 2) 150 3) 110 3) 154 3) 15 4), la h20 k19 5 f19] sz) := by
  refine Met.ofW (cc := b_Ref_encodeRows) (maxL := 5) (ret := none) (by decide) rfl ?_
  intro p e s m args below meth c s₁ B hml hv
  obtain ⟨rfl, hsz, hP, hK, hD0, hn⟩ := hv
  have hx := B.exec
  have hb := B.bytes
  have hr := B.returns
  have hw := fun w (h : w ∈ wt) => atoms_spec (ws := w_Ref_encodeRows) B.pre w (List.mem_cons_of_mem _ h)
  have hown : s.vm.findClass R_Ref = some m.cls := findClass_of_methodNamed B.named
  have hlocks := B.notSynchronized
  subst hsz
  have hD1 := hD0.self (sz := s.heap.size)
  generalize hAe : va_A [oc h0 8 [.int 0, .int p1, .ref h1, .ref h2, .ref h3, .ref h4, .ref h5, .ref h6, .ref h7, .ref h8, .ref h9, .ref h10, .ref h11, .ref h12, .int p2, .ref h13, .ref h14, .ref h15, .ref h16, .int p3, .int p4, .ref h17, .ref h18, .ref h19, .int p5, .ref h20, .int 68, .int p7, .ref h21, .ref h22, .ref h23, .ref h24, .ref h25, .ref h26, .ref h27, .ref h28, .int p8, .int p9, .ref h29, .ref h30, .ref h31, .ref h32, .ref h33, .ref h34, .ref h35, .ref h36, .int p10, .ref h37], ia h14 k13 155 (upd (upd (upd (upd (upd (upd (upd (upd (upd (upd (upd (upd (upd (upd (upd (upd (upd (upd (upd (upd (upd (upd (upd (upd (upd (upd (upd (upd (upd (upd (upd (upd (fun _ => 0) 37 1) 96 1) 97 2) 98 3) 38 1) 49 1) 140 1) 100 1) 144 1) 101 2) 148 1) 102 3) 152 1) 39 1) 57 2) 141 2) 104 1) 145 2) 105 2) 149 2) 106 3) 153 2) 40 1) 65 3) 142 3) 108 1) 146 3) 109 2) 150 3) 110 3) 154 3) 15 4), la h20 k19 5 f19] s.heap.size = A at hD1 ⊢
  have hA : ∀ q : Nat, s.heap.size ≤ q → A q := fun q h => by rw [← hAe]; exact Or.inr h
  have hD : dd A [h0, h14, h20] := dd_of hD1 rfl
  clear hAe hD0 hD1
  have hS : va_S A s.heap s.heap [] := va_S.rf
  replace hP : va_P (dC, dI) classes [oc h0 8 [.int 0, .int p1, .ref h1, .ref h2, .ref h3, .ref h4, .ref h5, .ref h6, .ref h7, .ref h8, .ref h9, .ref h10, .ref h11, .ref h12, .int p2, .ref h13, .ref h14, .ref h15, .ref h16, .int p3, .int p4, .ref h17, .ref h18, .ref h19, .int p5, .ref h20, .int 68, .int p7, .ref h21, .ref h22, .ref h23, .ref h24, .ref h25, .ref h26, .ref h27, .ref h28, .int p8, .int p9, .ref h29, .ref h30, .ref h31, .ref h32, .ref h33, .ref h34, .ref h35, .ref h36, .int p10, .ref h37], ia h14 k13 155 (upd (upd (upd (upd (upd (upd (upd (upd (upd (upd (upd (upd (upd (upd (upd (upd (upd (upd (upd (upd (upd (upd (upd (upd (upd (upd (upd (upd (upd (upd (upd (upd (fun _ => 0) 37 1) 96 1) 97 2) 98 3) 38 1) 49 1) 140 1) 100 1) 144 1) 101 2) 148 1) 102 3) 152 1) 39 1) 57 2) 141 2) 104 1) 145 2) 105 2) 149 2) 106 3) 153 2) 40 1) 65 3) 142 3) 108 1) 146 3) 109 2) 150 3) 110 3) 154 3) 15 4), la h20 k19 5 f19] s.heap := hP
  have hl := lv_entry ([.ref h0]) (n := 5) (Nat.le_of_ble_eq_true rfl)
  rw [lg_entry_eq]
  generalize (lg_sl ([.ref h0]) ++ List.replicate (5 - (lg_sl ([.ref h0])).length) Slot.unset).toArray = ls at hl ⊢
  replace hl : lv_has ls 5 [(0, .ref h0)] := hl
  refine lv_iconst (v := 0) hx hb d_Ref_encodeRows_0 (by decide) ?_
  refine lv_istore_n (lv' := [(1, .int 0), (0, .ref h0)]) hx hb d_Ref_encodeRows_1 rfl hl (by decide) rfl ?_
  clear hl ls
  intro ls hl
  refine lv_iload_n hx hb d_Ref_encodeRows_2 rfl (lv_at hl 0 rfl) ?_
  refine lv_iconst (v := 4) hx hb d_Ref_encodeRows_3 (by decide) ?_
  refine lv_icmp_ge (tgt := 180) hx hb d_Ref_encodeRows_4 (by decide) (fun c_1 => absurd c_1 (by decide)) (fun c_1 => ?_)
  refine tp_pc (pc' := 7) (by rfl) ?_
  refine lv_aload_n hx hb d_Ref_encodeRows_7 rfl (lv_at hl 1 rfl) ?_
  refine lv_aload_n hx hb d_Ref_encodeRows_8 rfl (lv_at hl 1 rfl) ?_
  refine va_get (D := (dC, dI)) (ci := 8) (v := .ref h14) (C := R_Ref) (T := F_Ref) (N := 48) hx hb hw i_Ref hown hK hP 0 rfl rfl 16 (by decide) (hw _ m_915) (fun _ h9 => h9) rfl d_Ref_encodeRows_9 ?_
  refine lv_bipush (v := 37) hx hb d_Ref_encodeRows_12 (by decide) ?_
  refine lv_iload_n hx hb d_Ref_encodeRows_14 rfl (lv_at hl 0 rfl) ?_
  refine lv_iadd hx hb d_Ref_encodeRows_15 ?_
  refine tp_i (y := 37) (by first | rfl | decide) ?_
  refine va_iald (D := (dC, dI)) hx hb hK hP 1 0 rfl rfl (i := 37) (vp_c (by decide)) d_Ref_encodeRows_16 ?_
  refine tp_i (y := 1) (by first | rfl | decide) ?_
  refine lv_i2l (v := 1) hx hb d_Ref_encodeRows_17 (by decide) ?_
  refine lv_iconst (v := 4) hx hb d_Ref_encodeRows_18 (by decide) ?_
  obtain ⟨hPc, hDc, hFc⟩ := cut3 (wc := [oc h0 8 [.int 0, .int p1, .ref h1, .ref h2, .ref h3, .ref h4, .ref h5, .ref h6, .ref h7, .ref h8, .ref h9, .ref h10, .ref h11, .ref h12, .int p2, .ref h13, .ref h14, .ref h15, .ref h16, .int p3, .int p4, .ref h17, .ref h18, .ref h19, .int p5, .ref h20, .int 68, .int p7, .ref h21, .ref h22, .ref h23, .ref h24, .ref h25, .ref h26, .ref h27, .ref h28, .int p8, .int p9, .ref h29, .ref h30, .ref h31, .ref h32, .ref h33, .ref h34, .ref h35, .ref h36, .int p10, .ref h37], la h20 k19 5 f19]) hP hD rfl hS hA [0, 2] (by decide +kernel) rfl
  have hKc := hK.sub (tys' := [(k19, .long)]) [1] rfl
  refine va_callv (va_runV (As := [.long 1, .int 4]) (rest := []) ⟨hx, hb, hml, hown, hw⟩ (c_Ref_bits_v28 l dC dI h0 1 0 p1 h1 h2 h3 h4 h5 h6 h7 h8 h9 h10 h11 h12 p2 h13 h14 h15 h16 p3 p4 h17 h18 h19 p5 h20 p7 h21 h22 h23 h24 h25 h26 h27 h28 p8 p9 h29 h30 h31 h32 h33 h34 h35 h36 p10 h37 k19 f19 s.heap.size) (cw_V 2 hw g_Ref_bits rfl rfl rfl (hw _ m_109) (hw _ m_1093) (hw _ m_1095) (hw _ m_58) (by decide +kernel) ⟨Nat.le_of_ble_eq_true rfl, Nat.le_of_ble_eq_true rfl⟩) ⟨fun a U g mk q => by obtain ⟨q0, q1, qP, qK, qD, qN⟩ := q; exact ⟨q0, q1, qP, va_K.moved (u := U) (U := U.calling g mk a) (Vm.Alike.refl U.vm) qK, qD, nw_call qN⟩, va_recv hKc hPc (ci := 8) (q0 := 0) rfl rfl, fun U hU hW => ⟨rfl, by rw [hU], by rw [hU]; exact hPc, va_K.moved hW.alike hKc, hDc.weaken (fun _ _ _ _ => trivial), nw_warm hW hn⟩⟩ rfl rfl hl.1 rfl (lv_room (Nat.le_of_ble_eq_true rfl)) d_Ref_encodeRows_19 ⟨Nat.le_of_ble_eq_true rfl, Nat.le_of_ble_eq_true rfl⟩) hS (fun q _ h => hFc q h) hFc ?_
  intro u t H1 locs1 ht hvm hw1 hB hz1 hk1 hS1
  obtain ⟨hP1, hK1, hD1⟩ := hB
  rw [ht] at hP1
  replace hK1 := va_K.moved hvm.symm hK1
  have hPD := join3 hP hD rfl [0, 2] [1] rfl (by rfl) (by decide +kernel) (by decide +kernel) hk1 hFc hP1 hD1
  replace hK : va_K (dC, dI) classes [(k13, .int), (k19, .long)] s := hK.app hK1
  clear hP1 hK1 hD1 hk1 hz1 hFc hKc hDc hPc hvm ht hP hS t
  have hP : va_P (dC, dI) classes [ia h14 k13 155 (upd (upd (upd (upd (upd (upd (upd (upd (upd (upd (upd (upd (upd (upd (upd (upd (upd (upd (upd (upd (upd (upd (upd (upd (upd (upd (upd (upd (upd (upd (upd (upd (fun _ => 0) 37 1) 96 1) 97 2) 98 3) 38 1) 49 1) 140 1) 100 1) 144 1) 101 2) 148 1) 102 3) 152 1) 39 1) 57 2) 141 2) 104 1) 145 2) 105 2) 149 2) 106 3) 153 2) 40 1) 65 3) 142 3) 108 1) 146 3) 109 2) 150 3) 110 3) 154 3) 15 4), oc h0 8 [.int 0, .int p1, .ref h1, .ref h2, .ref h3, .ref h4, .ref h5, .ref h6, .ref h7, .ref h8, .ref h9, .ref h10, .ref h11, .ref h12, .int p2, .ref h13, .ref h14, .ref h15, .ref h16, .int p3, .int p4, .ref h17, .ref h18, .ref h19, .int p5, .ref h20, .int 72, .int p7, .ref h21, .ref h22, .ref h23, .ref h24, .ref h25, .ref h26, .ref h27, .ref h28, .int p8, .int p9, .ref h29, .ref h30, .ref h31, .ref h32, .ref h33, .ref h34, .ref h35, .ref h36, .int p10, .ref h37], la h20 k19 5 (vp_updL f19 1 ((f19 1) ||| (1 <<< ((4 : Int32).toInt64 &&& 63))))] H1 := hPD.1
  replace hD : dd A [h14, h0, h20] := dd_of hPD.2 rfl
  clear hPD
  revert H1 locs1
  intro H locs hS hP
  clear hw1 u
  refine tp_pc (pc' := 22) (by rfl) ?_
  refine lv_iconst (v := 1) hx hb d_Ref_encodeRows_22 (by decide) ?_
  refine lv_istore_n (lv' := [(2, .int 1), (1, .int 0), (0, .ref h0)]) hx hb d_Ref_encodeRows_23 rfl hl (by decide) rfl ?_
  clear hl ls
  intro ls hl
  refine lv_iload_n hx hb d_Ref_encodeRows_24 rfl (lv_at hl 0 rfl) ?_
  refine lv_aload_n hx hb d_Ref_encodeRows_25 rfl (lv_at hl 2 rfl) ?_
  refine va_get (D := (dC, dI)) (ci := 8) (v := .ref h14) (C := R_Ref) (T := F_Ref) (N := 48) hx hb hw i_Ref hown hK hP 1 rfl rfl 16 (by decide) (hw _ m_915) (fun _ h9 => h9) rfl d_Ref_encodeRows_26 ?_
  refine lv_bipush (v := 37) hx hb d_Ref_encodeRows_29 (by decide) ?_
  refine lv_iload_n hx hb d_Ref_encodeRows_31 rfl (lv_at hl 1 rfl) ?_
  refine lv_iadd hx hb d_Ref_encodeRows_32 ?_
  refine tp_i (y := 37) (by first | rfl | decide) ?_
  refine va_iald (D := (dC, dI)) hx hb hK hP 0 0 rfl rfl (i := 37) (vp_c (by decide)) d_Ref_encodeRows_33 ?_
  refine tp_i (y := 1) (by first | rfl | decide) ?_
  refine lv_icmp_ge (tgt := 133) hx hb d_Ref_encodeRows_34 (by decide) (fun c_3 => ?_) (fun c_3 => absurd c_3 (by decide))
  refine tp_pc (pc' := 133) (by rfl) ?_
  refine lv_iconst (v := 0) hx hb d_Ref_encodeRows_133 (by decide) ?_
  refine lv_istore_n (lv' := [(2, .int 0), (1, .int 0), (0, .ref h0)]) hx hb d_Ref_encodeRows_134 rfl hl (by decide) rfl ?_
  clear hl ls
  intro ls hl
  refine lv_iload_n hx hb d_Ref_encodeRows_135 rfl (lv_at hl 0 rfl) ?_
  refine lv_aload_n hx hb d_Ref_encodeRows_136 rfl (lv_at hl 2 rfl) ?_
  refine va_get (D := (dC, dI)) (ci := 8) (v := .int 0) (C := R_Ref) (T := F_Ref) (N := 48) hx hb hw i_Ref hown hK hP 1 rfl rfl 0 (by decide) (hw _ m_899) (fun _ h9 => h9) rfl d_Ref_encodeRows_137 ?_
  refine lv_icmp_ge (tgt := 174) hx hb d_Ref_encodeRows_140 (by decide) (fun c_4 => ?_) (fun c_4 => absurd c_4 (by decide))
  refine tp_pc (pc' := 174) (by rfl) ?_
  refine lv_iinc (v := 1) (lv' := [(1, .int 1), (2, .int 0), (0, .ref h0)]) hx hb d_Ref_encodeRows_174 hl (k := 1) rfl (by first | rfl | decide) (by decide) rfl ?_
  clear hl ls
  intro ls hl
  refine lv_goto (tgt := 2) hx hb d_Ref_encodeRows_177 (by decide) ?_
  refine tp_pc (pc' := 2) (by rfl) ?_
  refine lv_iload_n hx hb d_Ref_encodeRows_2 rfl (lv_at hl 0 rfl) ?_
  refine lv_iconst (v := 4) hx hb d_Ref_encodeRows_3 (by decide) ?_
  refine lv_icmp_ge (tgt := 180) hx hb d_Ref_encodeRows_4 (by decide) (fun c_5 => absurd c_5 (by decide)) (fun c_5 => ?_)
  refine tp_pc (pc' := 7) (by rfl) ?_
  refine lv_aload_n hx hb d_Ref_encodeRows_7 rfl (lv_at hl 2 rfl) ?_
  refine lv_aload_n hx hb d_Ref_encodeRows_8 rfl (lv_at hl 2 rfl) ?_
  refine va_get (D := (dC, dI)) (ci := 8) (v := .ref h14) (C := R_Ref) (T := F_Ref) (N := 48) hx hb hw i_Ref hown hK hP 1 rfl rfl 16 (by decide) (hw _ m_915) (fun _ h9 => h9) rfl d_Ref_encodeRows_9 ?_
  refine lv_bipush (v := 37) hx hb d_Ref_encodeRows_12 (by decide) ?_
  refine lv_iload_n hx hb d_Ref_encodeRows_14 rfl (lv_at hl 0 rfl) ?_
  refine lv_iadd hx hb d_Ref_encodeRows_15 ?_
  refine tp_i (y := 38) (by first | rfl | decide) ?_
  refine va_iald (D := (dC, dI)) hx hb hK hP 0 0 rfl rfl (i := 38) (vp_c (by decide)) d_Ref_encodeRows_16 ?_
  refine tp_i (y := 1) (by first | rfl | decide) ?_
  refine lv_i2l (v := 1) hx hb d_Ref_encodeRows_17 (by decide) ?_
  refine lv_iconst (v := 4) hx hb d_Ref_encodeRows_18 (by decide) ?_
  obtain ⟨hPc, hDc, hFc⟩ := cut3 (wc := [oc h0 8 [.int 0, .int p1, .ref h1, .ref h2, .ref h3, .ref h4, .ref h5, .ref h6, .ref h7, .ref h8, .ref h9, .ref h10, .ref h11, .ref h12, .int p2, .ref h13, .ref h14, .ref h15, .ref h16, .int p3, .int p4, .ref h17, .ref h18, .ref h19, .int p5, .ref h20, .int 72, .int p7, .ref h21, .ref h22, .ref h23, .ref h24, .ref h25, .ref h26, .ref h27, .ref h28, .int p8, .int p9, .ref h29, .ref h30, .ref h31, .ref h32, .ref h33, .ref h34, .ref h35, .ref h36, .int p10, .ref h37], la h20 k19 5 (vp_updL f19 1 ((f19 1) ||| (1 <<< ((4 : Int32).toInt64 &&& 63))))]) hP hD rfl hS hA [1, 2] (by decide +kernel) rfl
  have hKc := hK.sub (tys' := [(k19, .long)]) [1] rfl
  refine va_callv (va_runV (As := [.long 1, .int 4]) (rest := []) ⟨hx, hb, hml, hown, hw⟩ (c_Ref_bits_v29 l dC dI h0 1 0 p1 h1 h2 h3 h4 h5 h6 h7 h8 h9 h10 h11 h12 p2 h13 h14 h15 h16 p3 p4 h17 h18 h19 p5 h20 p7 h21 h22 h23 h24 h25 h26 h27 h28 p8 p9 h29 h30 h31 h32 h33 h34 h35 h36 p10 h37 k19 (vp_updL f19 1 ((f19 1) ||| (1 <<< ((4 : Int32).toInt64 &&& 63)))) H.size) (cw_V 2 hw g_Ref_bits rfl rfl rfl (hw _ m_109) (hw _ m_1093) (hw _ m_1095) (hw _ m_58) (by decide +kernel) ⟨Nat.le_of_ble_eq_true rfl, Nat.le_of_ble_eq_true rfl⟩) ⟨fun a U g mk q => by obtain ⟨q0, q1, qP, qK, qD, qN⟩ := q; exact ⟨q0, q1, qP, va_K.moved (u := U) (U := U.calling g mk a) (Vm.Alike.refl U.vm) qK, qD, nw_call qN⟩, va_recv hKc hPc (ci := 8) (q0 := 0) rfl rfl, fun U hU hW => ⟨rfl, by rw [hU], by rw [hU]; exact hPc, va_K.moved hW.alike hKc, hDc.weaken (fun _ _ _ _ => trivial), nw_warm hW hn⟩⟩ rfl rfl hl.1 rfl (lv_room (Nat.le_of_ble_eq_true rfl)) d_Ref_encodeRows_19 ⟨Nat.le_of_ble_eq_true rfl, Nat.le_of_ble_eq_true rfl⟩) hS (fun q _ h => hFc q h) hFc ?_
  intro u t H1 locs1 ht hvm hw1 hB hz1 hk1 hS1
  obtain ⟨hP1, hK1, hD1⟩ := hB
  rw [ht] at hP1
  replace hK1 := va_K.moved hvm.symm hK1
  have hPD := join3 hP hD rfl [1, 2] [0] rfl (by rfl) (by decide +kernel) (by decide +kernel) hk1 hFc hP1 hD1
  replace hK : va_K (dC, dI) classes [(k13, .int), (k19, .long)] s := hK.app hK1
  clear hP1 hK1 hD1 hk1 hz1 hFc hKc hDc hPc hvm ht hP hS t locs H
  have hP : va_P (dC, dI) classes [ia h14 k13 155 (upd (upd (upd (upd (upd (upd (upd (upd (upd (upd (upd (upd (upd (upd (upd (upd (upd (upd (upd (upd (upd (upd (upd (upd (upd (upd (upd (upd (upd (upd (upd (upd (fun _ => 0) 37 1) 96 1) 97 2) 98 3) 38 1) 49 1) 140 1) 100 1) 144 1) 101 2) 148 1) 102 3) 152 1) 39 1) 57 2) 141 2) 104 1) 145 2) 105 2) 149 2) 106 3) 153 2) 40 1) 65 3) 142 3) 108 1) 146 3) 109 2) 150 3) 110 3) 154 3) 15 4), oc h0 8 [.int 0, .int p1, .ref h1, .ref h2, .ref h3, .ref h4, .ref h5, .ref h6, .ref h7, .ref h8, .ref h9, .ref h10, .ref h11, .ref h12, .int p2, .ref h13, .ref h14, .ref h15, .ref h16, .int p3, .int p4, .ref h17, .ref h18, .ref h19, .int p5, .ref h20, .int 76, .int p7, .ref h21, .ref h22, .ref h23, .ref h24, .ref h25, .ref h26, .ref h27, .ref h28, .int p8, .int p9, .ref h29, .ref h30, .ref h31, .ref h32, .ref h33, .ref h34, .ref h35, .ref h36, .int p10, .ref h37], la h20 k19 5 (vp_updL (vp_updL f19 1 ((f19 1) ||| (1 <<< ((4 : Int32).toInt64 &&& 63)))) 1 (((vp_updL f19 1 ((f19 1) ||| (1 <<< ((4 : Int32).toInt64 &&& 63)))) 1) ||| (1 <<< ((8 : Int32).toInt64 &&& 63))))] H1 := hPD.1
  replace hD : dd A [h14, h0, h20] := dd_of hPD.2 rfl
  clear hPD
  revert H1 locs1
  intro H locs hS hP
  clear hw1 u
  refine tp_pc (pc' := 22) (by rfl) ?_
  refine lv_iconst (v := 1) hx hb d_Ref_encodeRows_22 (by decide) ?_
  refine lv_istore_n (lv' := [(2, .int 1), (1, .int 1), (0, .ref h0)]) hx hb d_Ref_encodeRows_23 rfl hl (by decide) rfl ?_
  clear hl ls
  intro ls hl
  refine lv_iload_n hx hb d_Ref_encodeRows_24 rfl (lv_at hl 0 rfl) ?_
  refine lv_aload_n hx hb d_Ref_encodeRows_25 rfl (lv_at hl 2 rfl) ?_
  refine va_get (D := (dC, dI)) (ci := 8) (v := .ref h14) (C := R_Ref) (T := F_Ref) (N := 48) hx hb hw i_Ref hown hK hP 1 rfl rfl 16 (by decide) (hw _ m_915) (fun _ h9 => h9) rfl d_Ref_encodeRows_26 ?_
  refine lv_bipush (v := 37) hx hb d_Ref_encodeRows_29 (by decide) ?_
  refine lv_iload_n hx hb d_Ref_encodeRows_31 rfl (lv_at hl 1 rfl) ?_
  refine lv_iadd hx hb d_Ref_encodeRows_32 ?_
  refine tp_i (y := 38) (by first | rfl | decide) ?_
  refine va_iald (D := (dC, dI)) hx hb hK hP 0 0 rfl rfl (i := 38) (vp_c (by decide)) d_Ref_encodeRows_33 ?_
  refine tp_i (y := 1) (by first | rfl | decide) ?_
  refine lv_icmp_ge (tgt := 133) hx hb d_Ref_encodeRows_34 (by decide) (fun c_7 => ?_) (fun c_7 => absurd c_7 (by decide))
  refine tp_pc (pc' := 133) (by rfl) ?_
  refine lv_iconst (v := 0) hx hb d_Ref_encodeRows_133 (by decide) ?_
  refine lv_istore_n (lv' := [(2, .int 0), (1, .int 1), (0, .ref h0)]) hx hb d_Ref_encodeRows_134 rfl hl (by decide) rfl ?_
  clear hl ls
  intro ls hl
  refine lv_iload_n hx hb d_Ref_encodeRows_135 rfl (lv_at hl 0 rfl) ?_
  refine lv_aload_n hx hb d_Ref_encodeRows_136 rfl (lv_at hl 2 rfl) ?_
  refine va_get (D := (dC, dI)) (ci := 8) (v := .int 0) (C := R_Ref) (T := F_Ref) (N := 48) hx hb hw i_Ref hown hK hP 1 rfl rfl 0 (by decide) (hw _ m_899) (fun _ h9 => h9) rfl d_Ref_encodeRows_137 ?_
  refine lv_icmp_ge (tgt := 174) hx hb d_Ref_encodeRows_140 (by decide) (fun c_8 => ?_) (fun c_8 => absurd c_8 (by decide))
  refine tp_pc (pc' := 174) (by rfl) ?_
  refine lv_iinc (v := 2) (lv' := [(1, .int 2), (2, .int 0), (0, .ref h0)]) hx hb d_Ref_encodeRows_174 hl (k := 1) rfl (by first | rfl | decide) (by decide) rfl ?_
  clear hl ls
  intro ls hl
  refine lv_goto (tgt := 2) hx hb d_Ref_encodeRows_177 (by decide) ?_
  refine tp_pc (pc' := 2) (by rfl) ?_
  refine lv_iload_n hx hb d_Ref_encodeRows_2 rfl (lv_at hl 0 rfl) ?_
  refine lv_iconst (v := 4) hx hb d_Ref_encodeRows_3 (by decide) ?_
  refine lv_icmp_ge (tgt := 180) hx hb d_Ref_encodeRows_4 (by decide) (fun c_9 => absurd c_9 (by decide)) (fun c_9 => ?_)
  refine tp_pc (pc' := 7) (by rfl) ?_
  refine lv_aload_n hx hb d_Ref_encodeRows_7 rfl (lv_at hl 2 rfl) ?_
  refine lv_aload_n hx hb d_Ref_encodeRows_8 rfl (lv_at hl 2 rfl) ?_
  refine va_get (D := (dC, dI)) (ci := 8) (v := .ref h14) (C := R_Ref) (T := F_Ref) (N := 48) hx hb hw i_Ref hown hK hP 1 rfl rfl 16 (by decide) (hw _ m_915) (fun _ h9 => h9) rfl d_Ref_encodeRows_9 ?_
  refine lv_bipush (v := 37) hx hb d_Ref_encodeRows_12 (by decide) ?_
  refine lv_iload_n hx hb d_Ref_encodeRows_14 rfl (lv_at hl 0 rfl) ?_
  refine lv_iadd hx hb d_Ref_encodeRows_15 ?_
  refine tp_i (y := 39) (by first | rfl | decide) ?_
  refine va_iald (D := (dC, dI)) hx hb hK hP 0 0 rfl rfl (i := 39) (vp_c (by decide)) d_Ref_encodeRows_16 ?_
  refine tp_i (y := 1) (by first | rfl | decide) ?_
  refine lv_i2l (v := 1) hx hb d_Ref_encodeRows_17 (by decide) ?_
  refine lv_iconst (v := 4) hx hb d_Ref_encodeRows_18 (by decide) ?_
  obtain ⟨hPc, hDc, hFc⟩ := cut3 (wc := [oc h0 8 [.int 0, .int p1, .ref h1, .ref h2, .ref h3, .ref h4, .ref h5, .ref h6, .ref h7, .ref h8, .ref h9, .ref h10, .ref h11, .ref h12, .int p2, .ref h13, .ref h14, .ref h15, .ref h16, .int p3, .int p4, .ref h17, .ref h18, .ref h19, .int p5, .ref h20, .int 76, .int p7, .ref h21, .ref h22, .ref h23, .ref h24, .ref h25, .ref h26, .ref h27, .ref h28, .int p8, .int p9, .ref h29, .ref h30, .ref h31, .ref h32, .ref h33, .ref h34, .ref h35, .ref h36, .int p10, .ref h37], la h20 k19 5 (vp_updL (vp_updL f19 1 ((f19 1) ||| (1 <<< ((4 : Int32).toInt64 &&& 63)))) 1 (((vp_updL f19 1 ((f19 1) ||| (1 <<< ((4 : Int32).toInt64 &&& 63)))) 1) ||| (1 <<< ((8 : Int32).toInt64 &&& 63))))]) hP hD rfl hS hA [1, 2] (by decide +kernel) rfl
  have hKc := hK.sub (tys' := [(k19, .long)]) [1] rfl
  refine va_callv (va_runV (As := [.long 1, .int 4]) (rest := []) ⟨hx, hb, hml, hown, hw⟩ (c_Ref_bits_v30 l dC dI h0 1 0 p1 h1 h2 h3 h4 h5 h6 h7 h8 h9 h10 h11 h12 p2 h13 h14 h15 h16 p3 p4 h17 h18 h19 p5 h20 p7 h21 h22 h23 h24 h25 h26 h27 h28 p8 p9 h29 h30 h31 h32 h33 h34 h35 h36 p10 h37 k19 (vp_updL (vp_updL f19 1 ((f19 1) ||| (1 <<< ((4 : Int32).toInt64 &&& 63)))) 1 (((vp_updL f19 1 ((f19 1) ||| (1 <<< ((4 : Int32).toInt64 &&& 63)))) 1) ||| (1 <<< ((8 : Int32).toInt64 &&& 63)))) H.size) (cw_V 2 hw g_Ref_bits rfl rfl rfl (hw _ m_109) (hw _ m_1093) (hw _ m_1095) (hw _ m_58) (by decide +kernel) ⟨Nat.le_of_ble_eq_true rfl, Nat.le_of_ble_eq_true rfl⟩) ⟨fun a U g mk q => by obtain ⟨q0, q1, qP, qK, qD, qN⟩ := q; exact ⟨q0, q1, qP, va_K.moved (u := U) (U := U.calling g mk a) (Vm.Alike.refl U.vm) qK, qD, nw_call qN⟩, va_recv hKc hPc (ci := 8) (q0 := 0) rfl rfl, fun U hU hW => ⟨rfl, by rw [hU], by rw [hU]; exact hPc, va_K.moved hW.alike hKc, hDc.weaken (fun _ _ _ _ => trivial), nw_warm hW hn⟩⟩ rfl rfl hl.1 rfl (lv_room (Nat.le_of_ble_eq_true rfl)) d_Ref_encodeRows_19 ⟨Nat.le_of_ble_eq_true rfl, Nat.le_of_ble_eq_true rfl⟩) hS (fun q _ h => hFc q h) hFc ?_
  intro u t H1 locs1 ht hvm hw1 hB hz1 hk1 hS1
  obtain ⟨hP1, hK1, hD1⟩ := hB
  rw [ht] at hP1
  replace hK1 := va_K.moved hvm.symm hK1
  have hPD := join3 hP hD rfl [1, 2] [0] rfl (by rfl) (by decide +kernel) (by decide +kernel) hk1 hFc hP1 hD1
  replace hK : va_K (dC, dI) classes [(k13, .int), (k19, .long)] s := hK.app hK1
  clear hP1 hK1 hD1 hk1 hz1 hFc hKc hDc hPc hvm ht hP hS t locs H
  have hP : va_P (dC, dI) classes [ia h14 k13 155 (upd (upd (upd (upd (upd (upd (upd (upd (upd (upd (upd (upd (upd (upd (upd (upd (upd (upd (upd (upd (upd (upd (upd (upd (upd (upd (upd (upd (upd (upd (upd (upd (fun _ => 0) 37 1) 96 1) 97 2) 98 3) 38 1) 49 1) 140 1) 100 1) 144 1) 101 2) 148 1) 102 3) 152 1) 39 1) 57 2) 141 2) 104 1) 145 2) 105 2) 149 2) 106 3) 153 2) 40 1) 65 3) 142 3) 108 1) 146 3) 109 2) 150 3) 110 3) 154 3) 15 4), oc h0 8 [.int 0, .int p1, .ref h1, .ref h2, .ref h3, .ref h4, .ref h5, .ref h6, .ref h7, .ref h8, .ref h9, .ref h10, .ref h11, .ref h12, .int p2, .ref h13, .ref h14, .ref h15, .ref h16, .int p3, .int p4, .ref h17, .ref h18, .ref h19, .int p5, .ref h20, .int 80, .int p7, .ref h21, .ref h22, .ref h23, .ref h24, .ref h25, .ref h26, .ref h27, .ref h28, .int p8, .int p9, .ref h29, .ref h30, .ref h31, .ref h32, .ref h33, .ref h34, .ref h35, .ref h36, .int p10, .ref h37], la h20 k19 5 (vp_updL (vp_updL (vp_updL f19 1 ((f19 1) ||| (1 <<< ((4 : Int32).toInt64 &&& 63)))) 1 (((vp_updL f19 1 ((f19 1) ||| (1 <<< ((4 : Int32).toInt64 &&& 63)))) 1) ||| (1 <<< ((8 : Int32).toInt64 &&& 63)))) 1 (((vp_updL (vp_updL f19 1 ((f19 1) ||| (1 <<< ((4 : Int32).toInt64 &&& 63)))) 1 (((vp_updL f19 1 ((f19 1) ||| (1 <<< ((4 : Int32).toInt64 &&& 63)))) 1) ||| (1 <<< ((8 : Int32).toInt64 &&& 63)))) 1) ||| (1 <<< ((12 : Int32).toInt64 &&& 63))))] H1 := hPD.1
  replace hD : dd A [h14, h0, h20] := dd_of hPD.2 rfl
  clear hPD
  revert H1 locs1
  intro H locs hS hP
  clear hw1 u
  refine tp_pc (pc' := 22) (by rfl) ?_
  refine lv_iconst (v := 1) hx hb d_Ref_encodeRows_22 (by decide) ?_
  refine lv_istore_n (lv' := [(2, .int 1), (1, .int 2), (0, .ref h0)]) hx hb d_Ref_encodeRows_23 rfl hl (by decide) rfl ?_
  clear hl ls
  intro ls hl
  refine lv_iload_n hx hb d_Ref_encodeRows_24 rfl (lv_at hl 0 rfl) ?_
  refine lv_aload_n hx hb d_Ref_encodeRows_25 rfl (lv_at hl 2 rfl) ?_
  refine va_get (D := (dC, dI)) (ci := 8) (v := .ref h14) (C := R_Ref) (T := F_Ref) (N := 48) hx hb hw i_Ref hown hK hP 1 rfl rfl 16 (by decide) (hw _ m_915) (fun _ h9 => h9) rfl d_Ref_encodeRows_26 ?_
  refine lv_bipush (v := 37) hx hb d_Ref_encodeRows_29 (by decide) ?_
  refine lv_iload_n hx hb d_Ref_encodeRows_31 rfl (lv_at hl 1 rfl) ?_
  refine lv_iadd hx hb d_Ref_encodeRows_32 ?_
  refine tp_i (y := 39) (by first | rfl | decide) ?_
  refine va_iald (D := (dC, dI)) hx hb hK hP 0 0 rfl rfl (i := 39) (vp_c (by decide)) d_Ref_encodeRows_33 ?_
  refine tp_i (y := 1) (by first | rfl | decide) ?_
  refine lv_icmp_ge (tgt := 133) hx hb d_Ref_encodeRows_34 (by decide) (fun c_11 => ?_) (fun c_11 => absurd c_11 (by decide))
  refine tp_pc (pc' := 133) (by rfl) ?_
  refine lv_iconst (v := 0) hx hb d_Ref_encodeRows_133 (by decide) ?_
  refine lv_istore_n (lv' := [(2, .int 0), (1, .int 2), (0, .ref h0)]) hx hb d_Ref_encodeRows_134 rfl hl (by decide) rfl ?_
  clear hl ls
  intro ls hl
  refine lv_iload_n hx hb d_Ref_encodeRows_135 rfl (lv_at hl 0 rfl) ?_
  refine lv_aload_n hx hb d_Ref_encodeRows_136 rfl (lv_at hl 2 rfl) ?_
  refine va_get (D := (dC, dI)) (ci := 8) (v := .int 0) (C := R_Ref) (T := F_Ref) (N := 48) hx hb hw i_Ref hown hK hP 1 rfl rfl 0 (by decide) (hw _ m_899) (fun _ h9 => h9) rfl d_Ref_encodeRows_137 ?_
  refine lv_icmp_ge (tgt := 174) hx hb d_Ref_encodeRows_140 (by decide) (fun c_12 => ?_) (fun c_12 => absurd c_12 (by decide))
  refine tp_pc (pc' := 174) (by rfl) ?_
  refine lv_iinc (v := 3) (lv' := [(1, .int 3), (2, .int 0), (0, .ref h0)]) hx hb d_Ref_encodeRows_174 hl (k := 1) rfl (by first | rfl | decide) (by decide) rfl ?_
  clear hl ls
  intro ls hl
  refine lv_goto (tgt := 2) hx hb d_Ref_encodeRows_177 (by decide) ?_
  refine tp_pc (pc' := 2) (by rfl) ?_
  refine lv_iload_n hx hb d_Ref_encodeRows_2 rfl (lv_at hl 0 rfl) ?_
  refine lv_iconst (v := 4) hx hb d_Ref_encodeRows_3 (by decide) ?_
  refine lv_icmp_ge (tgt := 180) hx hb d_Ref_encodeRows_4 (by decide) (fun c_13 => absurd c_13 (by decide)) (fun c_13 => ?_)
  refine tp_pc (pc' := 7) (by rfl) ?_
  refine lv_aload_n hx hb d_Ref_encodeRows_7 rfl (lv_at hl 2 rfl) ?_
  refine lv_aload_n hx hb d_Ref_encodeRows_8 rfl (lv_at hl 2 rfl) ?_
  refine va_get (D := (dC, dI)) (ci := 8) (v := .ref h14) (C := R_Ref) (T := F_Ref) (N := 48) hx hb hw i_Ref hown hK hP 1 rfl rfl 16 (by decide) (hw _ m_915) (fun _ h9 => h9) rfl d_Ref_encodeRows_9 ?_
  refine lv_bipush (v := 37) hx hb d_Ref_encodeRows_12 (by decide) ?_
  refine lv_iload_n hx hb d_Ref_encodeRows_14 rfl (lv_at hl 0 rfl) ?_
  refine lv_iadd hx hb d_Ref_encodeRows_15 ?_
  refine tp_i (y := 40) (by first | rfl | decide) ?_
  refine va_iald (D := (dC, dI)) hx hb hK hP 0 0 rfl rfl (i := 40) (vp_c (by decide)) d_Ref_encodeRows_16 ?_
  refine tp_i (y := 1) (by first | rfl | decide) ?_
  refine lv_i2l (v := 1) hx hb d_Ref_encodeRows_17 (by decide) ?_
  refine lv_iconst (v := 4) hx hb d_Ref_encodeRows_18 (by decide) ?_
  obtain ⟨hPc, hDc, hFc⟩ := cut3 (wc := [oc h0 8 [.int 0, .int p1, .ref h1, .ref h2, .ref h3, .ref h4, .ref h5, .ref h6, .ref h7, .ref h8, .ref h9, .ref h10, .ref h11, .ref h12, .int p2, .ref h13, .ref h14, .ref h15, .ref h16, .int p3, .int p4, .ref h17, .ref h18, .ref h19, .int p5, .ref h20, .int 80, .int p7, .ref h21, .ref h22, .ref h23, .ref h24, .ref h25, .ref h26, .ref h27, .ref h28, .int p8, .int p9, .ref h29, .ref h30, .ref h31, .ref h32, .ref h33, .ref h34, .ref h35, .ref h36, .int p10, .ref h37], la h20 k19 5 (vp_updL (vp_updL (vp_updL f19 1 ((f19 1) ||| (1 <<< ((4 : Int32).toInt64 &&& 63)))) 1 (((vp_updL f19 1 ((f19 1) ||| (1 <<< ((4 : Int32).toInt64 &&& 63)))) 1) ||| (1 <<< ((8 : Int32).toInt64 &&& 63)))) 1 (((vp_updL (vp_updL f19 1 ((f19 1) ||| (1 <<< ((4 : Int32).toInt64 &&& 63)))) 1 (((vp_updL f19 1 ((f19 1) ||| (1 <<< ((4 : Int32).toInt64 &&& 63)))) 1) ||| (1 <<< ((8 : Int32).toInt64 &&& 63)))) 1) ||| (1 <<< ((12 : Int32).toInt64 &&& 63))))]) hP hD rfl hS hA [1, 2] (by decide +kernel) rfl
  have hKc := hK.sub (tys' := [(k19, .long)]) [1] rfl
  refine va_callv (va_runV (As := [.long 1, .int 4]) (rest := []) ⟨hx, hb, hml, hown, hw⟩ (c_Ref_bits_v31 l dC dI h0 1 0 p1 h1 h2 h3 h4 h5 h6 h7 h8 h9 h10 h11 h12 p2 h13 h14 h15 h16 p3 p4 h17 h18 h19 p5 h20 p7 h21 h22 h23 h24 h25 h26 h27 h28 p8 p9 h29 h30 h31 h32 h33 h34 h35 h36 p10 h37 k19 (vp_updL (vp_updL (vp_updL f19 1 ((f19 1) ||| (1 <<< ((4 : Int32).toInt64 &&& 63)))) 1 (((vp_updL f19 1 ((f19 1) ||| (1 <<< ((4 : Int32).toInt64 &&& 63)))) 1) ||| (1 <<< ((8 : Int32).toInt64 &&& 63)))) 1 (((vp_updL (vp_updL f19 1 ((f19 1) ||| (1 <<< ((4 : Int32).toInt64 &&& 63)))) 1 (((vp_updL f19 1 ((f19 1) ||| (1 <<< ((4 : Int32).toInt64 &&& 63)))) 1) ||| (1 <<< ((8 : Int32).toInt64 &&& 63)))) 1) ||| (1 <<< ((12 : Int32).toInt64 &&& 63)))) H.size) (cw_V 2 hw g_Ref_bits rfl rfl rfl (hw _ m_109) (hw _ m_1093) (hw _ m_1095) (hw _ m_58) (by decide +kernel) ⟨Nat.le_of_ble_eq_true rfl, Nat.le_of_ble_eq_true rfl⟩) ⟨fun a U g mk q => by obtain ⟨q0, q1, qP, qK, qD, qN⟩ := q; exact ⟨q0, q1, qP, va_K.moved (u := U) (U := U.calling g mk a) (Vm.Alike.refl U.vm) qK, qD, nw_call qN⟩, va_recv hKc hPc (ci := 8) (q0 := 0) rfl rfl, fun U hU hW => ⟨rfl, by rw [hU], by rw [hU]; exact hPc, va_K.moved hW.alike hKc, hDc.weaken (fun _ _ _ _ => trivial), nw_warm hW hn⟩⟩ rfl rfl hl.1 rfl (lv_room (Nat.le_of_ble_eq_true rfl)) d_Ref_encodeRows_19 ⟨Nat.le_of_ble_eq_true rfl, Nat.le_of_ble_eq_true rfl⟩) hS (fun q _ h => hFc q h) hFc ?_
  intro u t H1 locs1 ht hvm hw1 hB hz1 hk1 hS1
  obtain ⟨hP1, hK1, hD1⟩ := hB
  rw [ht] at hP1
  replace hK1 := va_K.moved hvm.symm hK1
  have hPD := join3 hP hD rfl [1, 2] [0] rfl (by rfl) (by decide +kernel) (by decide +kernel) hk1 hFc hP1 hD1
  replace hK : va_K (dC, dI) classes [(k13, .int), (k19, .long)] s := hK.app hK1
  clear hP1 hK1 hD1 hk1 hz1 hFc hKc hDc hPc hvm ht hP hS t locs H
  have hP : va_P (dC, dI) classes [ia h14 k13 155 (upd (upd (upd (upd (upd (upd (upd (upd (upd (upd (upd (upd (upd (upd (upd (upd (upd (upd (upd (upd (upd (upd (upd (upd (upd (upd (upd (upd (upd (upd (upd (upd (fun _ => 0) 37 1) 96 1) 97 2) 98 3) 38 1) 49 1) 140 1) 100 1) 144 1) 101 2) 148 1) 102 3) 152 1) 39 1) 57 2) 141 2) 104 1) 145 2) 105 2) 149 2) 106 3) 153 2) 40 1) 65 3) 142 3) 108 1) 146 3) 109 2) 150 3) 110 3) 154 3) 15 4), oc h0 8 [.int 0, .int p1, .ref h1, .ref h2, .ref h3, .ref h4, .ref h5, .ref h6, .ref h7, .ref h8, .ref h9, .ref h10, .ref h11, .ref h12, .int p2, .ref h13, .ref h14, .ref h15, .ref h16, .int p3, .int p4, .ref h17, .ref h18, .ref h19, .int p5, .ref h20, .int 84, .int p7, .ref h21, .ref h22, .ref h23, .ref h24, .ref h25, .ref h26, .ref h27, .ref h28, .int p8, .int p9, .ref h29, .ref h30, .ref h31, .ref h32, .ref h33, .ref h34, .ref h35, .ref h36, .int p10, .ref h37], la h20 k19 5 (vp_updL (vp_updL (vp_updL (vp_updL f19 1 ((f19 1) ||| (1 <<< ((4 : Int32).toInt64 &&& 63)))) 1 (((vp_updL f19 1 ((f19 1) ||| (1 <<< ((4 : Int32).toInt64 &&& 63)))) 1) ||| (1 <<< ((8 : Int32).toInt64 &&& 63)))) 1 (((vp_updL (vp_updL f19 1 ((f19 1) ||| (1 <<< ((4 : Int32).toInt64 &&& 63)))) 1 (((vp_updL f19 1 ((f19 1) ||| (1 <<< ((4 : Int32).toInt64 &&& 63)))) 1) ||| (1 <<< ((8 : Int32).toInt64 &&& 63)))) 1) ||| (1 <<< ((12 : Int32).toInt64 &&& 63)))) 1 (((vp_updL (vp_updL (vp_updL f19 1 ((f19 1) ||| (1 <<< ((4 : Int32).toInt64 &&& 63)))) 1 (((vp_updL f19 1 ((f19 1) ||| (1 <<< ((4 : Int32).toInt64 &&& 63)))) 1) ||| (1 <<< ((8 : Int32).toInt64 &&& 63)))) 1 (((vp_updL (vp_updL f19 1 ((f19 1) ||| (1 <<< ((4 : Int32).toInt64 &&& 63)))) 1 (((vp_updL f19 1 ((f19 1) ||| (1 <<< ((4 : Int32).toInt64 &&& 63)))) 1) ||| (1 <<< ((8 : Int32).toInt64 &&& 63)))) 1) ||| (1 <<< ((12 : Int32).toInt64 &&& 63)))) 1) ||| (1 <<< ((16 : Int32).toInt64 &&& 63))))] H1 := hPD.1
  replace hD : dd A [h14, h0, h20] := dd_of hPD.2 rfl
  clear hPD
  revert H1 locs1
  intro H locs hS hP
  clear hw1 u
  refine tp_pc (pc' := 22) (by rfl) ?_
  refine lv_iconst (v := 1) hx hb d_Ref_encodeRows_22 (by decide) ?_
  refine lv_istore_n (lv' := [(2, .int 1), (1, .int 3), (0, .ref h0)]) hx hb d_Ref_encodeRows_23 rfl hl (by decide) rfl ?_
  clear hl ls
  intro ls hl
  refine lv_iload_n hx hb d_Ref_encodeRows_24 rfl (lv_at hl 0 rfl) ?_
  refine lv_aload_n hx hb d_Ref_encodeRows_25 rfl (lv_at hl 2 rfl) ?_
  refine va_get (D := (dC, dI)) (ci := 8) (v := .ref h14) (C := R_Ref) (T := F_Ref) (N := 48) hx hb hw i_Ref hown hK hP 1 rfl rfl 16 (by decide) (hw _ m_915) (fun _ h9 => h9) rfl d_Ref_encodeRows_26 ?_
  refine lv_bipush (v := 37) hx hb d_Ref_encodeRows_29 (by decide) ?_
  refine lv_iload_n hx hb d_Ref_encodeRows_31 rfl (lv_at hl 1 rfl) ?_
  refine lv_iadd hx hb d_Ref_encodeRows_32 ?_
  refine tp_i (y := 40) (by first | rfl | decide) ?_
  refine va_iald (D := (dC, dI)) hx hb hK hP 0 0 rfl rfl (i := 40) (vp_c (by decide)) d_Ref_encodeRows_33 ?_
  refine tp_i (y := 1) (by first | rfl | decide) ?_
  refine lv_icmp_ge (tgt := 133) hx hb d_Ref_encodeRows_34 (by decide) (fun c_15 => ?_) (fun c_15 => absurd c_15 (by decide))
  refine tp_pc (pc' := 133) (by rfl) ?_
  refine lv_iconst (v := 0) hx hb d_Ref_encodeRows_133 (by decide) ?_
  refine lv_istore_n (lv' := [(2, .int 0), (1, .int 3), (0, .ref h0)]) hx hb d_Ref_encodeRows_134 rfl hl (by decide) rfl ?_
  clear hl ls
  intro ls hl
  refine lv_iload_n hx hb d_Ref_encodeRows_135 rfl (lv_at hl 0 rfl) ?_
  refine lv_aload_n hx hb d_Ref_encodeRows_136 rfl (lv_at hl 2 rfl) ?_
  refine va_get (D := (dC, dI)) (ci := 8) (v := .int 0) (C := R_Ref) (T := F_Ref) (N := 48) hx hb hw i_Ref hown hK hP 1 rfl rfl 0 (by decide) (hw _ m_899) (fun _ h9 => h9) rfl d_Ref_encodeRows_137 ?_
  refine lv_icmp_ge (tgt := 174) hx hb d_Ref_encodeRows_140 (by decide) (fun c_16 => ?_) (fun c_16 => absurd c_16 (by decide))
  refine tp_pc (pc' := 174) (by rfl) ?_
  refine lv_iinc (v := 4) (lv' := [(1, .int 4), (2, .int 0), (0, .ref h0)]) hx hb d_Ref_encodeRows_174 hl (k := 1) rfl (by first | rfl | decide) (by decide) rfl ?_
  clear hl ls
  intro ls hl
  refine lv_goto (tgt := 2) hx hb d_Ref_encodeRows_177 (by decide) ?_
  refine tp_pc (pc' := 2) (by rfl) ?_
  refine lv_iload_n hx hb d_Ref_encodeRows_2 rfl (lv_at hl 0 rfl) ?_
  refine lv_iconst (v := 4) hx hb d_Ref_encodeRows_3 (by decide) ?_
  refine lv_icmp_ge (tgt := 180) hx hb d_Ref_encodeRows_4 (by decide) (fun c_17 => ?_) (fun c_17 => absurd c_17 (by decide))
  refine tp_pc (pc' := 180) (by rfl) ?_
  obtain ⟨hP9, hD9, -⟩ := cut3 (wc := [oc h0 8 [.int 0, .int p1, .ref h1, .ref h2, .ref h3, .ref h4, .ref h5, .ref h6, .ref h7, .ref h8, .ref h9, .ref h10, .ref h11, .ref h12, .int p2, .ref h13, .ref h14, .ref h15, .ref h16, .int p3, .int p4, .ref h17, .ref h18, .ref h19, .int p5, .ref h20, .int 84, .int p7, .ref h21, .ref h22, .ref h23, .ref h24, .ref h25, .ref h26, .ref h27, .ref h28, .int p8, .int p9, .ref h29, .ref h30, .ref h31, .ref h32, .ref h33, .ref h34, .ref h35, .ref h36, .int p10, .ref h37], ia h14 k13 155 (upd (upd (upd (upd (upd (upd (upd (upd (upd (upd (upd (upd (upd (upd (upd (upd (upd (upd (upd (upd (upd (upd (upd (upd (upd (upd (upd (upd (upd (upd (upd (upd (fun _ => 0) 37 1) 96 1) 97 2) 98 3) 38 1) 49 1) 140 1) 100 1) 144 1) 101 2) 148 1) 102 3) 152 1) 39 1) 57 2) 141 2) 104 1) 145 2) 105 2) 149 2) 106 3) 153 2) 40 1) 65 3) 142 3) 108 1) 146 3) 109 2) 150 3) 110 3) 154 3) 15 4), la h20 k19 5 (vp_updL (vp_updL (vp_updL (vp_updL f19 1 ((f19 1) ||| (1 <<< ((4 : Int32).toInt64 &&& 63)))) 1 (((vp_updL f19 1 ((f19 1) ||| (1 <<< ((4 : Int32).toInt64 &&& 63)))) 1) ||| (1 <<< ((8 : Int32).toInt64 &&& 63)))) 1 (((vp_updL (vp_updL f19 1 ((f19 1) ||| (1 <<< ((4 : Int32).toInt64 &&& 63)))) 1 (((vp_updL f19 1 ((f19 1) ||| (1 <<< ((4 : Int32).toInt64 &&& 63)))) 1) ||| (1 <<< ((8 : Int32).toInt64 &&& 63)))) 1) ||| (1 <<< ((12 : Int32).toInt64 &&& 63)))) 1 (((vp_updL (vp_updL (vp_updL f19 1 ((f19 1) ||| (1 <<< ((4 : Int32).toInt64 &&& 63)))) 1 (((vp_updL f19 1 ((f19 1) ||| (1 <<< ((4 : Int32).toInt64 &&& 63)))) 1) ||| (1 <<< ((8 : Int32).toInt64 &&& 63)))) 1 (((vp_updL (vp_updL f19 1 ((f19 1) ||| (1 <<< ((4 : Int32).toInt64 &&& 63)))) 1 (((vp_updL f19 1 ((f19 1) ||| (1 <<< ((4 : Int32).toInt64 &&& 63)))) 1) ||| (1 <<< ((8 : Int32).toInt64 &&& 63)))) 1) ||| (1 <<< ((12 : Int32).toInt64 &&& 63)))) 1) ||| (1 <<< ((16 : Int32).toInt64 &&& 63))))]) hP hD rfl hS hA [1, 0, 2] (by decide +kernel) rfl
  have hK9 := hK.sub (tys' := []) [] rfl
  refine W.widen (k := 0) (n := 0) (by exact Nat.le_of_ble_eq_true rfl) (by exact Nat.le_of_ble_eq_true rfl) ?_
  exact W.vret hx hb hr (fun t ht hW => ⟨⟨(), rfl, trivial, by rw [ht]; exact hP9, va_K.moved hW.alike hK9, hD9⟩, hS.F ht⟩) hS.2.2 d_Ref_encodeRows_180
