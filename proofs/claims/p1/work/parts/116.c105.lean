set_option maxHeartbeats 4000000 in
set_option maxRecDepth 100000 in
theorem c_Ref_against_v12 (l : Launch) (dC : Nat → ClassId) (dI : Nat → Nat → Nat) (h0 : Nat) (p2 : Int32) (p3 : Int32) (h1 : Nat) (h2 : Nat) (h3 : Nat) (h4 : Nat) (h5 : Nat) (h6 : Nat) (h7 : Nat) (h8 : Nat) (h9 : Nat) (h10 : Nat) (h11 : Nat) (h12 : Nat) (p4 : Int32) (h13 : Nat) (h14 : Nat) (h15 : Nat) (h16 : Nat) (p5 : Int32) (p6 : Int32) (h17 : Nat) (h18 : Nat) (h19 : Nat) (p7 : Int32) (h20 : Nat) (p8 : Int32) (p9 : Int32) (h21 : Nat) (h22 : Nat) (h23 : Nat) (h24 : Nat) (h25 : Nat) (h26 : Nat) (h27 : Nat) (h28 : Nat) (p10 : Int32) (p11 : Int32) (h29 : Nat) (h30 : Nat) (h31 : Nat) (h32 : Nat) (h33 : Nat) (h34 : Nat) (h35 : Nat) (h36 : Nat) (p12 : Int32) (h37 : Nat) (k7 : ClassId) (k20 : ClassId) (sz : Nat) : Met l y_Ref_against w_Ref_against ({ frames := 0, cells := 0, slots := 0, locals := 0 }) (va_Pc [.ref h0, .int 3, .int 0] (fun U => U.heap.size = sz ∧ va_P (dC, dI) classes [oc h0 8 [.int p2, .int p3, .ref h1, .ref h2, .ref h3, .ref h4, .ref h5, .ref h6, .ref h7, .ref h8, .ref h9, .ref h10, .ref h11, .ref h12, .int p4, .ref h13, .ref h14, .ref h15, .ref h16, .int p5, .int p6, .ref h17, .ref h18, .ref h19, .int p7, .ref h20, .int p8, .int p9, .ref h21, .ref h22, .ref h23, .ref h24, .ref h25, .ref h26, .ref h27, .ref h28, .int p10, .int p11, .ref h29, .ref h30, .ref h31, .ref h32, .ref h33, .ref h34, .ref h35, .ref h36, .int p12, .ref h37], ia h8 k7 352000 (upd (upd (upd (upd (upd (upd (upd (upd (upd (upd (upd (upd (upd (upd (upd (upd (upd (upd (upd (upd (upd (upd (fun _ => 0) 88000 0) 88001 0) 88002 0) 88003 0) 88004 0) 88005 0) 88006 0) 88007 0) 88008 0) 88009 0) 88010 0) 132000 0) 132001 0) 132002 0) 132003 0) 132004 0) 132005 0) 132006 0) 132007 0) 132008 0) 132009 0) 132010 0), ia h21 k20 11 (fun _ => 0)] U.heap ∧ va_K (dC, dI) classes [(k7, .short), (k20, .int)] U ∧ va_D (fun _ => True) [oc h0 8 [.int p2, .int p3, .ref h1, .ref h2, .ref h3, .ref h4, .ref h5, .ref h6, .ref h7, .ref h8, .ref h9, .ref h10, .ref h11, .ref h12, .int p4, .ref h13, .ref h14, .ref h15, .ref h16, .int p5, .int p6, .ref h17, .ref h18, .ref h19, .int p7, .ref h20, .int p8, .int p9, .ref h21, .ref h22, .ref h23, .ref h24, .ref h25, .ref h26, .ref h27, .ref h28, .int p10, .int p11, .ref h29, .ref h30, .ref h31, .ref h32, .ref h33, .ref h34, .ref h35, .ref h36, .int p12, .ref h37], ia h8 k7 352000 (upd (upd (upd (upd (upd (upd (upd (upd (upd (upd (upd (upd (upd (upd (upd (upd (upd (upd (upd (upd (upd (upd (fun _ => 0) 88000 0) 88001 0) 88002 0) 88003 0) 88004 0) 88005 0) 88006 0) 88007 0) 88008 0) 88009 0) 88010 0) 132000 0) 132001 0) 132002 0) 132003 0) 132004 0) 132005 0) 132006 0) 132007 0) 132008 0) 132009 0) 132010 0), ia h21 k20 11 (fun _ => 0)] ∧ nw U)) (va_Qi (fun (r : Int32) (_ : Unit) => r = 0) (fun _ t => va_P (dC, dI) classes [oc h0 8 [.int p2, .int p3, .ref h1, .ref h2, .ref h3, .ref h4, .ref h5, .ref h6, .ref h7, .ref h8, .ref h9, .ref h10, .ref h11, .ref h12, .int p4, .ref h13, .ref h14, .ref h15, .ref h16, .int p5, .int p6, .ref h17, .ref h18, .ref h19, .int p7, .ref h20, .int p8, .int p9, .ref h21, .ref h22, .ref h23, .ref h24, .ref h25, .ref h26, .ref h27, .ref h28, .int p10, .int p11, .ref h29, .ref h30, .ref h31, .ref h32, .ref h33, .ref h34, .ref h35, .ref h36, .int p12, .ref h37], ia h8 k7 352000 (upd (upd (upd (upd (upd (upd (upd (upd (upd (upd (upd (upd (upd (upd (upd (upd (upd (upd (upd (upd (upd (upd (fun _ => 0) 88000 0) 88001 0) 88002 0) 88003 0) 88004 0) 88005 0) 88006 0) 88007 0) 88008 0) 88009 0) 88010 0) 132000 0) 132001 0) 132002 0) 132003 0) 132004 0) 132005 0) 132006 0) 132007 0) 132008 0) 132009 0) 132010 0), ia h21 k20 11 (fun _ => 0)] t.heap ∧ va_K (dC, dI) classes [] t ∧ va_D (va_A [oc h0 8 [.int p2, .int p3, .ref h1, .ref h2, .ref h3, .ref h4, .ref h5, .ref h6, .ref h7, .ref h8, .ref h9, .ref h10, .ref h11, .ref h12, .int p4, .ref h13, .ref h14, .ref h15, .ref h16, .int p5, .int p6, .ref h17, .ref h18, .ref h19, .int p7, .ref h20, .int p8, .int p9, .ref h21, .ref h22, .ref h23, .ref h24, .ref h25, .ref h26, .ref h27, .ref h28, .int p10, .int p11, .ref h29, .ref h30, .ref h31, .ref h32, .ref h33, .ref h34, .ref h35, .ref h36, .int p12, .ref h37], ia h8 k7 352000 (upd (upd (upd (upd (upd (upd (upd (upd (upd (upd (upd (upd (upd (upd (upd (upd (upd (upd (upd (upd (upd (upd (fun _ => 0) 88000 0) 88001 0) 88002 0) 88003 0) 88004 0) 88005 0) 88006 0) 88007 0) 88008 0) 88009 0) 88010 0) 132000 0) 132001 0) 132002 0) 132003 0) 132004 0) 132005 0) 132006 0) 132007 0) 132008 0) 132009 0) 132010 0), ia h21 k20 11 (fun _ => 0)] sz) [oc h0 8 [.int p2, .int p3, .ref h1, .ref h2, .ref h3, .ref h4, .ref h5, .ref h6, .ref h7, .ref h8, .ref h9, .ref h10, .ref h11, .ref h12, .int p4, .ref h13, .ref h14, .ref h15, .ref h16, .int p5, .int p6, .ref h17, .ref h18, .ref h19, .int p7, .ref h20, .int p8, .int p9, .ref h21, .ref h22, .ref h23, .ref h24, .ref h25, .ref h26, .ref h27, .ref h28, .int p10, .int p11, .ref h29, .ref h30, .ref h31, .ref h32, .ref h33, .ref h34, .ref h35, .ref h36, .int p12, .ref h37], ia h8 k7 352000 (upd (upd (upd (upd (upd (upd (upd (upd (upd (upd (upd (upd (upd (upd (upd (upd (upd (upd (upd (upd (upd (upd (fun _ => 0) 88000 0) 88001 0) 88002 0) 88003 0) 88004 0) 88005 0) 88006 0) 88007 0) 88008 0) 88009 0) 88010 0) 132000 0) 132001 0) 132002 0) 132003 0) 132004 0) 132005 0) 132006 0) 132007 0) 132008 0) 132009 0) 132010 0), ia h21 k20 11 (fun _ => 0)]) (va_A [oc h0 8 [.int p2, .int p3, .ref h1, .ref h2, .ref h3, .ref h4, .ref h5, .ref h6, .ref h7, .ref h8, .ref h9, .ref h10, .ref h11, .ref h12, .int p4, .ref h13, .ref h14, .ref h15, .ref h16, .int p5, .int p6, .ref h17, .ref h18, .ref h19, .int p7, .ref h20, .int p8, .int p9, .ref h21, .ref h22, .ref h23, .ref h24, .ref h25, .ref h26, .ref h27, .ref h28, .int p10, .int p11, .ref h29, .ref h30, .ref h31, .ref h32, .ref h33, .ref h34, .ref h35, .ref h36, .int p12, .ref h37], ia h8 k7 352000 (upd (upd (upd (upd (upd (upd (upd (upd (upd (upd (upd (upd (upd (upd (upd (upd (upd (upd (upd (upd (upd (upd (fun _ => 0) 88000 0) 88001 0) 88002 0) 88003 0) 88004 0) 88005 0) 88006 0) 88007 0) 88008 0) 88009 0) 88010 0) 132000 0) 132001 0) 132002 0) 132003 0) 132004 0) 132005 0) 132006 0) 132007 0) 132008 0) 132009 0) 132010 0), ia h21 k20 11 (fun _ => 0)] sz)) 0 0 (va_A [oc h0 8 [.int p2, .int p3, .ref h1, .ref h2, .ref h3, .ref h4, .ref h5, .ref h6, .ref h7, .ref h8, .ref h9, .ref h10, .ref h11, .ref h12, .int p4, .ref h13, .ref h14, .ref h15, .ref h16, .int p5, .int p6, .ref h17, .ref h18, .ref h19, .int p7, .ref h20, .int p8, .int p9, .ref h21, .ref h22, .ref h23, .ref h24, .ref h25, .ref h26, .ref h27, .ref h28, .int p10, .int p11, .ref h29, .ref h30, .ref h31, .ref h32, .ref h33, .ref h34, .ref h35, .ref h36, .int p12, .ref h37], ia h8 k7 352000 (upd (upd (upd (upd (upd (upd (upd (upd (upd (upd (upd (upd (upd (upd (upd (upd (upd (upd (upd (upd (upd (upd (fun _ => 0) 88000 0) 88001 0) 88002 0) 88003 0) 88004 0) 88005 0) 88006 0) 88007 0) 88008 0) 88009 0) 88010 0) 132000 0) 132001 0) 132002 0) 132003 0) 132004 0) 132005 0) 132006 0) 132007 0) 132008 0) 132009 0) 132010 0), ia h21 k20 11 (fun _ => 0)] sz) := by
  refine Met.ofW (cc := b_Ref_against) (maxL := 5) (ret := (some .int)) (by decide) rfl ?_
  intro p e s m args below meth c s₁ B hml hv
  obtain ⟨rfl, hsz, hP, hK, hD0, hn⟩ := hv
  have hx := B.exec
  have hb := B.bytes
  have hr := B.returns
  have hw := fun w (h : w ∈ wt) => atoms_spec (ws := w_Ref_against) B.pre w (List.mem_cons_of_mem _ h)
  have hown : s.vm.findClass R_Ref = some m.cls := findClass_of_methodNamed B.named
  have hlocks := B.notSynchronized
  subst hsz
  have hD1 := hD0.self (sz := s.heap.size)
  generalize hAe : va_A [oc h0 8 [.int p2, .int p3, .ref h1, .ref h2, .ref h3, .ref h4, .ref h5, .ref h6, .ref h7, .ref h8, .ref h9, .ref h10, .ref h11, .ref h12, .int p4, .ref h13, .ref h14, .ref h15, .ref h16, .int p5, .int p6, .ref h17, .ref h18, .ref h19, .int p7, .ref h20, .int p8, .int p9, .ref h21, .ref h22, .ref h23, .ref h24, .ref h25, .ref h26, .ref h27, .ref h28, .int p10, .int p11, .ref h29, .ref h30, .ref h31, .ref h32, .ref h33, .ref h34, .ref h35, .ref h36, .int p12, .ref h37], ia h8 k7 352000 (upd (upd (upd (upd (upd (upd (upd (upd (upd (upd (upd (upd (upd (upd (upd (upd (upd (upd (upd (upd (upd (upd (fun _ => 0) 88000 0) 88001 0) 88002 0) 88003 0) 88004 0) 88005 0) 88006 0) 88007 0) 88008 0) 88009 0) 88010 0) 132000 0) 132001 0) 132002 0) 132003 0) 132004 0) 132005 0) 132006 0) 132007 0) 132008 0) 132009 0) 132010 0), ia h21 k20 11 (fun _ => 0)] s.heap.size = A at hD1 ⊢
  have hA : ∀ q : Nat, s.heap.size ≤ q → A q := fun q h => by rw [← hAe]; exact Or.inr h
  have hD : dd A [h0, h8, h21] := dd_of hD1 rfl
  clear hAe hD0 hD1
  have hS : va_S A s.heap s.heap [] := va_S.rf
  replace hP : va_P (dC, dI) classes [oc h0 8 [.int p2, .int p3, .ref h1, .ref h2, .ref h3, .ref h4, .ref h5, .ref h6, .ref h7, .ref h8, .ref h9, .ref h10, .ref h11, .ref h12, .int p4, .ref h13, .ref h14, .ref h15, .ref h16, .int p5, .int p6, .ref h17, .ref h18, .ref h19, .int p7, .ref h20, .int p8, .int p9, .ref h21, .ref h22, .ref h23, .ref h24, .ref h25, .ref h26, .ref h27, .ref h28, .int p10, .int p11, .ref h29, .ref h30, .ref h31, .ref h32, .ref h33, .ref h34, .ref h35, .ref h36, .int p12, .ref h37], ia h8 k7 352000 (upd (upd (upd (upd (upd (upd (upd (upd (upd (upd (upd (upd (upd (upd (upd (upd (upd (upd (upd (upd (upd (upd (fun _ => 0) 88000 0) 88001 0) 88002 0) 88003 0) 88004 0) 88005 0) 88006 0) 88007 0) 88008 0) 88009 0) 88010 0) 132000 0) 132001 0) 132002 0) 132003 0) 132004 0) 132005 0) 132006 0) 132007 0) 132008 0) 132009 0) 132010 0), ia h21 k20 11 (fun _ => 0)] s.heap := hP
  have hl := lv_entry ([.ref h0, .int 3, .int 0]) (n := 5) (Nat.le_of_ble_eq_true rfl)
  rw [lg_entry_eq]
  generalize (lg_sl ([.ref h0, .int 3, .int 0]) ++ List.replicate (5 - (lg_sl ([.ref h0, .int 3, .int 0])).length) Slot.unset).toArray = ls at hl ⊢
  replace hl : lv_has ls 5 [(0, .ref h0), (1, .int 3), (2, .int 0)] := hl
  refine lv_iconst (v := 0) hx hb d_Ref_against_0 (by decide) ?_
  refine lv_istore_n (lv' := [(3, .int 0), (0, .ref h0), (1, .int 3), (2, .int 0)]) hx hb d_Ref_against_1 rfl hl (by decide) rfl ?_
  clear hl ls
  intro ls hl
  refine lv_iload_n hx hb d_Ref_against_2 rfl (lv_at hl 0 rfl) ?_
  refine lv_bipush (v := 11) hx hb d_Ref_against_3 (by decide) ?_
  refine lv_icmp_ge (tgt := 48) hx hb d_Ref_against_5 (by decide) (fun c_1 => absurd c_1 (by decide)) (fun c_1 => ?_)
  refine tp_pc (pc' := 8) (by rfl) ?_
  refine lv_aload_n hx hb d_Ref_against_8 rfl (lv_at hl 1 rfl) ?_
  refine va_get (D := (dC, dI)) (ci := 8) (v := .ref h21) (C := R_Ref) (T := F_Ref) (N := 48) hx hb hw i_Ref hown hK hP 0 rfl rfl 28 (by decide) (hw _ m_927) (fun _ h9 => h9) rfl d_Ref_against_9 ?_
  refine lv_iload_n hx hb d_Ref_against_12 rfl (lv_at hl 0 rfl) ?_
  refine va_iald (D := (dC, dI)) hx hb hK hP 2 1 rfl rfl (i := 0) (vp_c (by decide)) d_Ref_against_13 ?_
  refine tp_i (y := 0) (by first | rfl | decide) ?_
  refine lv_aload_n hx hb d_Ref_against_14 rfl (lv_at hl 1 rfl) ?_
  refine va_get (D := (dC, dI)) (ci := 8) (v := .ref h8) (C := R_Ref) (T := F_Ref) (N := 48) hx hb hw i_Ref hown hK hP 0 rfl rfl 9 (by decide) (hw _ m_908) (fun _ h9 => h9) rfl d_Ref_against_15 ?_
  refine lv_bipush (v := 11) hx hb d_Ref_against_18 (by decide) ?_
  refine lv_sipush (v := 4000) hx hb d_Ref_against_20 (by decide) ?_
  refine lv_iload_n hx hb d_Ref_against_23 rfl (lv_at hl 2 rfl) ?_
  refine lv_imul hx hb d_Ref_against_24 ?_
  refine tp_i (y := 12000) (by first | rfl | decide) ?_
  refine lv_iload_n hx hb d_Ref_against_25 rfl (lv_at hl 3 rfl) ?_
  refine lv_iadd hx hb d_Ref_against_26 ?_
  refine tp_i (y := 12000) (by first | rfl | decide) ?_
  refine lv_imul hx hb d_Ref_against_27 ?_
  refine tp_i (y := 132000) (by first | rfl | decide) ?_
  refine lv_iload_n hx hb d_Ref_against_28 rfl (lv_at hl 0 rfl) ?_
  refine lv_iadd hx hb d_Ref_against_29 ?_
  refine tp_i (y := 132000) (by first | rfl | decide) ?_
  refine va_sald (D := (dC, dI)) hx hb hK hP 1 0 rfl rfl (i := 132000) (vp_c (by decide)) d_Ref_against_30 ?_
  refine tp_i (y := 0) (by first | rfl | decide) ?_
  refine lv_isub hx hb d_Ref_against_31 ?_
  refine tp_i (y := 0) (by first | rfl | decide) ?_
  refine lv_istore (lv' := [(4, .int 0), (3, .int 0), (0, .ref h0), (1, .int 3), (2, .int 0)]) hx hb d_Ref_against_32 hl (by decide) rfl ?_
  clear hl ls
  intro ls hl
  refine lv_iload hx hb d_Ref_against_34 (lv_at hl 0 rfl) ?_
  refine lv_if_eq (tgt := 42) hx hb d_Ref_against_36 (by decide) (fun c_2 => ?_) (fun c_2 => absurd c_2 (by decide))
  refine tp_pc (pc' := 42) (by rfl) ?_
  refine lv_iinc (v := 1) (lv' := [(3, .int 1), (4, .int 0), (0, .ref h0), (1, .int 3), (2, .int 0)]) hx hb d_Ref_against_42 hl (k := 1) rfl (by first | rfl | decide) (by decide) rfl ?_
  clear hl ls
  intro ls hl
  refine lv_goto (tgt := 2) hx hb d_Ref_against_45 (by decide) ?_
  refine tp_pc (pc' := 2) (by rfl) ?_
  refine lv_iload_n hx hb d_Ref_against_2 rfl (lv_at hl 0 rfl) ?_
  refine lv_bipush (v := 11) hx hb d_Ref_against_3 (by decide) ?_
  refine lv_icmp_ge (tgt := 48) hx hb d_Ref_against_5 (by decide) (fun c_3 => absurd c_3 (by decide)) (fun c_3 => ?_)
  refine tp_pc (pc' := 8) (by rfl) ?_
  refine lv_aload_n hx hb d_Ref_against_8 rfl (lv_at hl 2 rfl) ?_
  refine va_get (D := (dC, dI)) (ci := 8) (v := .ref h21) (C := R_Ref) (T := F_Ref) (N := 48) hx hb hw i_Ref hown hK hP 0 rfl rfl 28 (by decide) (hw _ m_927) (fun _ h9 => h9) rfl d_Ref_against_9 ?_
  refine lv_iload_n hx hb d_Ref_against_12 rfl (lv_at hl 0 rfl) ?_
  refine va_iald (D := (dC, dI)) hx hb hK hP 2 1 rfl rfl (i := 1) (vp_c (by decide)) d_Ref_against_13 ?_
  refine tp_i (y := 0) (by first | rfl | decide) ?_
  refine lv_aload_n hx hb d_Ref_against_14 rfl (lv_at hl 2 rfl) ?_
  refine va_get (D := (dC, dI)) (ci := 8) (v := .ref h8) (C := R_Ref) (T := F_Ref) (N := 48) hx hb hw i_Ref hown hK hP 0 rfl rfl 9 (by decide) (hw _ m_908) (fun _ h9 => h9) rfl d_Ref_against_15 ?_
  refine lv_bipush (v := 11) hx hb d_Ref_against_18 (by decide) ?_
  refine lv_sipush (v := 4000) hx hb d_Ref_against_20 (by decide) ?_
  refine lv_iload_n hx hb d_Ref_against_23 rfl (lv_at hl 3 rfl) ?_
  refine lv_imul hx hb d_Ref_against_24 ?_
  refine tp_i (y := 12000) (by first | rfl | decide) ?_
  refine lv_iload_n hx hb d_Ref_against_25 rfl (lv_at hl 4 rfl) ?_
  refine lv_iadd hx hb d_Ref_against_26 ?_
  refine tp_i (y := 12000) (by first | rfl | decide) ?_
  refine lv_imul hx hb d_Ref_against_27 ?_
  refine tp_i (y := 132000) (by first | rfl | decide) ?_
  refine lv_iload_n hx hb d_Ref_against_28 rfl (lv_at hl 0 rfl) ?_
  refine lv_iadd hx hb d_Ref_against_29 ?_
  refine tp_i (y := 132001) (by first | rfl | decide) ?_
  refine va_sald (D := (dC, dI)) hx hb hK hP 1 0 rfl rfl (i := 132001) (vp_c (by decide)) d_Ref_against_30 ?_
  refine tp_i (y := 0) (by first | rfl | decide) ?_
  refine lv_isub hx hb d_Ref_against_31 ?_
  refine tp_i (y := 0) (by first | rfl | decide) ?_
  refine lv_istore (lv' := [(4, .int 0), (3, .int 1), (0, .ref h0), (1, .int 3), (2, .int 0)]) hx hb d_Ref_against_32 hl (by decide) rfl ?_
  clear hl ls
  intro ls hl
  refine lv_iload hx hb d_Ref_against_34 (lv_at hl 0 rfl) ?_
  refine lv_if_eq (tgt := 42) hx hb d_Ref_against_36 (by decide) (fun c_4 => ?_) (fun c_4 => absurd c_4 (by decide))
  refine tp_pc (pc' := 42) (by rfl) ?_
  refine lv_iinc (v := 2) (lv' := [(3, .int 2), (4, .int 0), (0, .ref h0), (1, .int 3), (2, .int 0)]) hx hb d_Ref_against_42 hl (k := 1) rfl (by first | rfl | decide) (by decide) rfl ?_
  clear hl ls
  intro ls hl
  refine lv_goto (tgt := 2) hx hb d_Ref_against_45 (by decide) ?_
  refine tp_pc (pc' := 2) (by rfl) ?_
  refine lv_iload_n hx hb d_Ref_against_2 rfl (lv_at hl 0 rfl) ?_
  refine lv_bipush (v := 11) hx hb d_Ref_against_3 (by decide) ?_
  refine lv_icmp_ge (tgt := 48) hx hb d_Ref_against_5 (by decide) (fun c_5 => absurd c_5 (by decide)) (fun c_5 => ?_)
  refine tp_pc (pc' := 8) (by rfl) ?_
  refine lv_aload_n hx hb d_Ref_against_8 rfl (lv_at hl 2 rfl) ?_
  refine va_get (D := (dC, dI)) (ci := 8) (v := .ref h21) (C := R_Ref) (T := F_Ref) (N := 48) hx hb hw i_Ref hown hK hP 0 rfl rfl 28 (by decide) (hw _ m_927) (fun _ h9 => h9) rfl d_Ref_against_9 ?_
  refine lv_iload_n hx hb d_Ref_against_12 rfl (lv_at hl 0 rfl) ?_
  refine va_iald (D := (dC, dI)) hx hb hK hP 2 1 rfl rfl (i := 2) (vp_c (by decide)) d_Ref_against_13 ?_
  refine tp_i (y := 0) (by first | rfl | decide) ?_
  refine lv_aload_n hx hb d_Ref_against_14 rfl (lv_at hl 2 rfl) ?_
  refine va_get (D := (dC, dI)) (ci := 8) (v := .ref h8) (C := R_Ref) (T := F_Ref) (N := 48) hx hb hw i_Ref hown hK hP 0 rfl rfl 9 (by decide) (hw _ m_908) (fun _ h9 => h9) rfl d_Ref_against_15 ?_
  refine lv_bipush (v := 11) hx hb d_Ref_against_18 (by decide) ?_
  refine lv_sipush (v := 4000) hx hb d_Ref_against_20 (by decide) ?_
  refine lv_iload_n hx hb d_Ref_against_23 rfl (lv_at hl 3 rfl) ?_
  refine lv_imul hx hb d_Ref_against_24 ?_
  refine tp_i (y := 12000) (by first | rfl | decide) ?_
  refine lv_iload_n hx hb d_Ref_against_25 rfl (lv_at hl 4 rfl) ?_
  refine lv_iadd hx hb d_Ref_against_26 ?_
  refine tp_i (y := 12000) (by first | rfl | decide) ?_
  refine lv_imul hx hb d_Ref_against_27 ?_
  refine tp_i (y := 132000) (by first | rfl | decide) ?_
  refine lv_iload_n hx hb d_Ref_against_28 rfl (lv_at hl 0 rfl) ?_
  refine lv_iadd hx hb d_Ref_against_29 ?_
  refine tp_i (y := 132002) (by first | rfl | decide) ?_
  refine va_sald (D := (dC, dI)) hx hb hK hP 1 0 rfl rfl (i := 132002) (vp_c (by decide)) d_Ref_against_30 ?_
  refine tp_i (y := 0) (by first | rfl | decide) ?_
  refine lv_isub hx hb d_Ref_against_31 ?_
  refine tp_i (y := 0) (by first | rfl | decide) ?_
  refine lv_istore (lv' := [(4, .int 0), (3, .int 2), (0, .ref h0), (1, .int 3), (2, .int 0)]) hx hb d_Ref_against_32 hl (by decide) rfl ?_
  clear hl ls
  intro ls hl
  refine lv_iload hx hb d_Ref_against_34 (lv_at hl 0 rfl) ?_
  refine lv_if_eq (tgt := 42) hx hb d_Ref_against_36 (by decide) (fun c_6 => ?_) (fun c_6 => absurd c_6 (by decide))
  refine tp_pc (pc' := 42) (by rfl) ?_
  refine lv_iinc (v := 3) (lv' := [(3, .int 3), (4, .int 0), (0, .ref h0), (1, .int 3), (2, .int 0)]) hx hb d_Ref_against_42 hl (k := 1) rfl (by first | rfl | decide) (by decide) rfl ?_
  clear hl ls
  intro ls hl
  refine lv_goto (tgt := 2) hx hb d_Ref_against_45 (by decide) ?_
  refine tp_pc (pc' := 2) (by rfl) ?_
  refine lv_iload_n hx hb d_Ref_against_2 rfl (lv_at hl 0 rfl) ?_
  refine lv_bipush (v := 11) hx hb d_Ref_against_3 (by decide) ?_
  refine lv_icmp_ge (tgt := 48) hx hb d_Ref_against_5 (by decide) (fun c_7 => absurd c_7 (by decide)) (fun c_7 => ?_)
  refine tp_pc (pc' := 8) (by rfl) ?_
  refine lv_aload_n hx hb d_Ref_against_8 rfl (lv_at hl 2 rfl) ?_
  refine va_get (D := (dC, dI)) (ci := 8) (v := .ref h21) (C := R_Ref) (T := F_Ref) (N := 48) hx hb hw i_Ref hown hK hP 0 rfl rfl 28 (by decide) (hw _ m_927) (fun _ h9 => h9) rfl d_Ref_against_9 ?_
  refine lv_iload_n hx hb d_Ref_against_12 rfl (lv_at hl 0 rfl) ?_
  refine va_iald (D := (dC, dI)) hx hb hK hP 2 1 rfl rfl (i := 3) (vp_c (by decide)) d_Ref_against_13 ?_
  refine tp_i (y := 0) (by first | rfl | decide) ?_
  refine lv_aload_n hx hb d_Ref_against_14 rfl (lv_at hl 2 rfl) ?_
  refine va_get (D := (dC, dI)) (ci := 8) (v := .ref h8) (C := R_Ref) (T := F_Ref) (N := 48) hx hb hw i_Ref hown hK hP 0 rfl rfl 9 (by decide) (hw _ m_908) (fun _ h9 => h9) rfl d_Ref_against_15 ?_
  refine lv_bipush (v := 11) hx hb d_Ref_against_18 (by decide) ?_
  refine lv_sipush (v := 4000) hx hb d_Ref_against_20 (by decide) ?_
  refine lv_iload_n hx hb d_Ref_against_23 rfl (lv_at hl 3 rfl) ?_
  refine lv_imul hx hb d_Ref_against_24 ?_
  refine tp_i (y := 12000) (by first | rfl | decide) ?_
  refine lv_iload_n hx hb d_Ref_against_25 rfl (lv_at hl 4 rfl) ?_
  refine lv_iadd hx hb d_Ref_against_26 ?_
  refine tp_i (y := 12000) (by first | rfl | decide) ?_
  refine lv_imul hx hb d_Ref_against_27 ?_
  refine tp_i (y := 132000) (by first | rfl | decide) ?_
  refine lv_iload_n hx hb d_Ref_against_28 rfl (lv_at hl 0 rfl) ?_
  refine lv_iadd hx hb d_Ref_against_29 ?_
  refine tp_i (y := 132003) (by first | rfl | decide) ?_
  refine va_sald (D := (dC, dI)) hx hb hK hP 1 0 rfl rfl (i := 132003) (vp_c (by decide)) d_Ref_against_30 ?_
  refine tp_i (y := 0) (by first | rfl | decide) ?_
  refine lv_isub hx hb d_Ref_against_31 ?_
  refine tp_i (y := 0) (by first | rfl | decide) ?_
  refine lv_istore (lv' := [(4, .int 0), (3, .int 3), (0, .ref h0), (1, .int 3), (2, .int 0)]) hx hb d_Ref_against_32 hl (by decide) rfl ?_
  clear hl ls
  intro ls hl
  refine lv_iload hx hb d_Ref_against_34 (lv_at hl 0 rfl) ?_
  refine lv_if_eq (tgt := 42) hx hb d_Ref_against_36 (by decide) (fun c_8 => ?_) (fun c_8 => absurd c_8 (by decide))
  refine tp_pc (pc' := 42) (by rfl) ?_
  refine lv_iinc (v := 4) (lv' := [(3, .int 4), (4, .int 0), (0, .ref h0), (1, .int 3), (2, .int 0)]) hx hb d_Ref_against_42 hl (k := 1) rfl (by first | rfl | decide) (by decide) rfl ?_
  clear hl ls
  intro ls hl
  refine lv_goto (tgt := 2) hx hb d_Ref_against_45 (by decide) ?_
  refine tp_pc (pc' := 2) (by rfl) ?_
  refine lv_iload_n hx hb d_Ref_against_2 rfl (lv_at hl 0 rfl) ?_
  refine lv_bipush (v := 11) hx hb d_Ref_against_3 (by decide) ?_
  refine lv_icmp_ge (tgt := 48) hx hb d_Ref_against_5 (by decide) (fun c_9 => absurd c_9 (by decide)) (fun c_9 => ?_)
  refine tp_pc (pc' := 8) (by rfl) ?_
  refine lv_aload_n hx hb d_Ref_against_8 rfl (lv_at hl 2 rfl) ?_
  refine va_get (D := (dC, dI)) (ci := 8) (v := .ref h21) (C := R_Ref) (T := F_Ref) (N := 48) hx hb hw i_Ref hown hK hP 0 rfl rfl 28 (by decide) (hw _ m_927) (fun _ h9 => h9) rfl d_Ref_against_9 ?_
  refine lv_iload_n hx hb d_Ref_against_12 rfl (lv_at hl 0 rfl) ?_
  refine va_iald (D := (dC, dI)) hx hb hK hP 2 1 rfl rfl (i := 4) (vp_c (by decide)) d_Ref_against_13 ?_
  refine tp_i (y := 0) (by first | rfl | decide) ?_
  refine lv_aload_n hx hb d_Ref_against_14 rfl (lv_at hl 2 rfl) ?_
  refine va_get (D := (dC, dI)) (ci := 8) (v := .ref h8) (C := R_Ref) (T := F_Ref) (N := 48) hx hb hw i_Ref hown hK hP 0 rfl rfl 9 (by decide) (hw _ m_908) (fun _ h9 => h9) rfl d_Ref_against_15 ?_
  refine lv_bipush (v := 11) hx hb d_Ref_against_18 (by decide) ?_
  refine lv_sipush (v := 4000) hx hb d_Ref_against_20 (by decide) ?_
  refine lv_iload_n hx hb d_Ref_against_23 rfl (lv_at hl 3 rfl) ?_
  refine lv_imul hx hb d_Ref_against_24 ?_
  refine tp_i (y := 12000) (by first | rfl | decide) ?_
  refine lv_iload_n hx hb d_Ref_against_25 rfl (lv_at hl 4 rfl) ?_
  refine lv_iadd hx hb d_Ref_against_26 ?_
  refine tp_i (y := 12000) (by first | rfl | decide) ?_
  refine lv_imul hx hb d_Ref_against_27 ?_
  refine tp_i (y := 132000) (by first | rfl | decide) ?_
  refine lv_iload_n hx hb d_Ref_against_28 rfl (lv_at hl 0 rfl) ?_
  refine lv_iadd hx hb d_Ref_against_29 ?_
  refine tp_i (y := 132004) (by first | rfl | decide) ?_
  refine va_sald (D := (dC, dI)) hx hb hK hP 1 0 rfl rfl (i := 132004) (vp_c (by decide)) d_Ref_against_30 ?_
  refine tp_i (y := 0) (by first | rfl | decide) ?_
  refine lv_isub hx hb d_Ref_against_31 ?_
  refine tp_i (y := 0) (by first | rfl | decide) ?_
  refine lv_istore (lv' := [(4, .int 0), (3, .int 4), (0, .ref h0), (1, .int 3), (2, .int 0)]) hx hb d_Ref_against_32 hl (by decide) rfl ?_
  clear hl ls
  intro ls hl
  refine lv_iload hx hb d_Ref_against_34 (lv_at hl 0 rfl) ?_
  refine lv_if_eq (tgt := 42) hx hb d_Ref_against_36 (by decide) (fun c_10 => ?_) (fun c_10 => absurd c_10 (by decide))
  refine tp_pc (pc' := 42) (by rfl) ?_
  refine lv_iinc (v := 5) (lv' := [(3, .int 5), (4, .int 0), (0, .ref h0), (1, .int 3), (2, .int 0)]) hx hb d_Ref_against_42 hl (k := 1) rfl (by first | rfl | decide) (by decide) rfl ?_
  clear hl ls
  intro ls hl
  refine lv_goto (tgt := 2) hx hb d_Ref_against_45 (by decide) ?_
  refine tp_pc (pc' := 2) (by rfl) ?_
  refine lv_iload_n hx hb d_Ref_against_2 rfl (lv_at hl 0 rfl) ?_
  refine lv_bipush (v := 11) hx hb d_Ref_against_3 (by decide) ?_
  refine lv_icmp_ge (tgt := 48) hx hb d_Ref_against_5 (by decide) (fun c_11 => absurd c_11 (by decide)) (fun c_11 => ?_)
  refine tp_pc (pc' := 8) (by rfl) ?_
  refine lv_aload_n hx hb d_Ref_against_8 rfl (lv_at hl 2 rfl) ?_
  refine va_get (D := (dC, dI)) (ci := 8) (v := .ref h21) (C := R_Ref) (T := F_Ref) (N := 48) hx hb hw i_Ref hown hK hP 0 rfl rfl 28 (by decide) (hw _ m_927) (fun _ h9 => h9) rfl d_Ref_against_9 ?_
  refine lv_iload_n hx hb d_Ref_against_12 rfl (lv_at hl 0 rfl) ?_
  refine va_iald (D := (dC, dI)) hx hb hK hP 2 1 rfl rfl (i := 5) (vp_c (by decide)) d_Ref_against_13 ?_
  refine tp_i (y := 0) (by first | rfl | decide) ?_
  refine lv_aload_n hx hb d_Ref_against_14 rfl (lv_at hl 2 rfl) ?_
  refine va_get (D := (dC, dI)) (ci := 8) (v := .ref h8) (C := R_Ref) (T := F_Ref) (N := 48) hx hb hw i_Ref hown hK hP 0 rfl rfl 9 (by decide) (hw _ m_908) (fun _ h9 => h9) rfl d_Ref_against_15 ?_
  refine lv_bipush (v := 11) hx hb d_Ref_against_18 (by decide) ?_
  refine lv_sipush (v := 4000) hx hb d_Ref_against_20 (by decide) ?_
  refine lv_iload_n hx hb d_Ref_against_23 rfl (lv_at hl 3 rfl) ?_
  refine lv_imul hx hb d_Ref_against_24 ?_
  refine tp_i (y := 12000) (by first | rfl | decide) ?_
  refine lv_iload_n hx hb d_Ref_against_25 rfl (lv_at hl 4 rfl) ?_
  refine lv_iadd hx hb d_Ref_against_26 ?_
  refine tp_i (y := 12000) (by first | rfl | decide) ?_
  refine lv_imul hx hb d_Ref_against_27 ?_
  refine tp_i (y := 132000) (by first | rfl | decide) ?_
  refine lv_iload_n hx hb d_Ref_against_28 rfl (lv_at hl 0 rfl) ?_
  refine lv_iadd hx hb d_Ref_against_29 ?_
  refine tp_i (y := 132005) (by first | rfl | decide) ?_
  refine va_sald (D := (dC, dI)) hx hb hK hP 1 0 rfl rfl (i := 132005) (vp_c (by decide)) d_Ref_against_30 ?_
  refine tp_i (y := 0) (by first | rfl | decide) ?_
  refine lv_isub hx hb d_Ref_against_31 ?_
  refine tp_i (y := 0) (by first | rfl | decide) ?_
  refine lv_istore (lv' := [(4, .int 0), (3, .int 5), (0, .ref h0), (1, .int 3), (2, .int 0)]) hx hb d_Ref_against_32 hl (by decide) rfl ?_
  clear hl ls
  intro ls hl
  refine lv_iload hx hb d_Ref_against_34 (lv_at hl 0 rfl) ?_
  refine lv_if_eq (tgt := 42) hx hb d_Ref_against_36 (by decide) (fun c_12 => ?_) (fun c_12 => absurd c_12 (by decide))
  refine tp_pc (pc' := 42) (by rfl) ?_
  refine lv_iinc (v := 6) (lv' := [(3, .int 6), (4, .int 0), (0, .ref h0), (1, .int 3), (2, .int 0)]) hx hb d_Ref_against_42 hl (k := 1) rfl (by first | rfl | decide) (by decide) rfl ?_
  clear hl ls
  intro ls hl
  refine lv_goto (tgt := 2) hx hb d_Ref_against_45 (by decide) ?_
  refine tp_pc (pc' := 2) (by rfl) ?_
  refine lv_iload_n hx hb d_Ref_against_2 rfl (lv_at hl 0 rfl) ?_
  refine lv_bipush (v := 11) hx hb d_Ref_against_3 (by decide) ?_
  refine lv_icmp_ge (tgt := 48) hx hb d_Ref_against_5 (by decide) (fun c_13 => absurd c_13 (by decide)) (fun c_13 => ?_)
  refine tp_pc (pc' := 8) (by rfl) ?_
  refine lv_aload_n hx hb d_Ref_against_8 rfl (lv_at hl 2 rfl) ?_
  refine va_get (D := (dC, dI)) (ci := 8) (v := .ref h21) (C := R_Ref) (T := F_Ref) (N := 48) hx hb hw i_Ref hown hK hP 0 rfl rfl 28 (by decide) (hw _ m_927) (fun _ h9 => h9) rfl d_Ref_against_9 ?_
  refine lv_iload_n hx hb d_Ref_against_12 rfl (lv_at hl 0 rfl) ?_
  refine va_iald (D := (dC, dI)) hx hb hK hP 2 1 rfl rfl (i := 6) (vp_c (by decide)) d_Ref_against_13 ?_
  refine tp_i (y := 0) (by first | rfl | decide) ?_
  refine lv_aload_n hx hb d_Ref_against_14 rfl (lv_at hl 2 rfl) ?_
  refine va_get (D := (dC, dI)) (ci := 8) (v := .ref h8) (C := R_Ref) (T := F_Ref) (N := 48) hx hb hw i_Ref hown hK hP 0 rfl rfl 9 (by decide) (hw _ m_908) (fun _ h9 => h9) rfl d_Ref_against_15 ?_
  refine lv_bipush (v := 11) hx hb d_Ref_against_18 (by decide) ?_
  refine lv_sipush (v := 4000) hx hb d_Ref_against_20 (by decide) ?_
  refine lv_iload_n hx hb d_Ref_against_23 rfl (lv_at hl 3 rfl) ?_
  refine lv_imul hx hb d_Ref_against_24 ?_
  refine tp_i (y := 12000) (by first | rfl | decide) ?_
  refine lv_iload_n hx hb d_Ref_against_25 rfl (lv_at hl 4 rfl) ?_
  refine lv_iadd hx hb d_Ref_against_26 ?_
  refine tp_i (y := 12000) (by first | rfl | decide) ?_
  refine lv_imul hx hb d_Ref_against_27 ?_
  refine tp_i (y := 132000) (by first | rfl | decide) ?_
  refine lv_iload_n hx hb d_Ref_against_28 rfl (lv_at hl 0 rfl) ?_
  refine lv_iadd hx hb d_Ref_against_29 ?_
  refine tp_i (y := 132006) (by first | rfl | decide) ?_
  refine va_sald (D := (dC, dI)) hx hb hK hP 1 0 rfl rfl (i := 132006) (vp_c (by decide)) d_Ref_against_30 ?_
  refine tp_i (y := 0) (by first | rfl | decide) ?_
  refine lv_isub hx hb d_Ref_against_31 ?_
  refine tp_i (y := 0) (by first | rfl | decide) ?_
  refine lv_istore (lv' := [(4, .int 0), (3, .int 6), (0, .ref h0), (1, .int 3), (2, .int 0)]) hx hb d_Ref_against_32 hl (by decide) rfl ?_
  clear hl ls
  intro ls hl
  refine lv_iload hx hb d_Ref_against_34 (lv_at hl 0 rfl) ?_
  refine lv_if_eq (tgt := 42) hx hb d_Ref_against_36 (by decide) (fun c_14 => ?_) (fun c_14 => absurd c_14 (by decide))
  refine tp_pc (pc' := 42) (by rfl) ?_
  refine lv_iinc (v := 7) (lv' := [(3, .int 7), (4, .int 0), (0, .ref h0), (1, .int 3), (2, .int 0)]) hx hb d_Ref_against_42 hl (k := 1) rfl (by first | rfl | decide) (by decide) rfl ?_
  clear hl ls
  intro ls hl
  refine lv_goto (tgt := 2) hx hb d_Ref_against_45 (by decide) ?_
  refine tp_pc (pc' := 2) (by rfl) ?_
  refine lv_iload_n hx hb d_Ref_against_2 rfl (lv_at hl 0 rfl) ?_
  refine lv_bipush (v := 11) hx hb d_Ref_against_3 (by decide) ?_
  refine lv_icmp_ge (tgt := 48) hx hb d_Ref_against_5 (by decide) (fun c_15 => absurd c_15 (by decide)) (fun c_15 => ?_)
  refine tp_pc (pc' := 8) (by rfl) ?_
  refine lv_aload_n hx hb d_Ref_against_8 rfl (lv_at hl 2 rfl) ?_
  refine va_get (D := (dC, dI)) (ci := 8) (v := .ref h21) (C := R_Ref) (T := F_Ref) (N := 48) hx hb hw i_Ref hown hK hP 0 rfl rfl 28 (by decide) (hw _ m_927) (fun _ h9 => h9) rfl d_Ref_against_9 ?_
  refine lv_iload_n hx hb d_Ref_against_12 rfl (lv_at hl 0 rfl) ?_
  refine va_iald (D := (dC, dI)) hx hb hK hP 2 1 rfl rfl (i := 7) (vp_c (by decide)) d_Ref_against_13 ?_
  refine tp_i (y := 0) (by first | rfl | decide) ?_
  refine lv_aload_n hx hb d_Ref_against_14 rfl (lv_at hl 2 rfl) ?_
  refine va_get (D := (dC, dI)) (ci := 8) (v := .ref h8) (C := R_Ref) (T := F_Ref) (N := 48) hx hb hw i_Ref hown hK hP 0 rfl rfl 9 (by decide) (hw _ m_908) (fun _ h9 => h9) rfl d_Ref_against_15 ?_
  refine lv_bipush (v := 11) hx hb d_Ref_against_18 (by decide) ?_
  refine lv_sipush (v := 4000) hx hb d_Ref_against_20 (by decide) ?_
  refine lv_iload_n hx hb d_Ref_against_23 rfl (lv_at hl 3 rfl) ?_
  refine lv_imul hx hb d_Ref_against_24 ?_
  refine tp_i (y := 12000) (by first | rfl | decide) ?_
  refine lv_iload_n hx hb d_Ref_against_25 rfl (lv_at hl 4 rfl) ?_
  refine lv_iadd hx hb d_Ref_against_26 ?_
  refine tp_i (y := 12000) (by first | rfl | decide) ?_
  refine lv_imul hx hb d_Ref_against_27 ?_
  refine tp_i (y := 132000) (by first | rfl | decide) ?_
  refine lv_iload_n hx hb d_Ref_against_28 rfl (lv_at hl 0 rfl) ?_
  refine lv_iadd hx hb d_Ref_against_29 ?_
  refine tp_i (y := 132007) (by first | rfl | decide) ?_
  refine va_sald (D := (dC, dI)) hx hb hK hP 1 0 rfl rfl (i := 132007) (vp_c (by decide)) d_Ref_against_30 ?_
  refine tp_i (y := 0) (by first | rfl | decide) ?_
  refine lv_isub hx hb d_Ref_against_31 ?_
  refine tp_i (y := 0) (by first | rfl | decide) ?_
  refine lv_istore (lv' := [(4, .int 0), (3, .int 7), (0, .ref h0), (1, .int 3), (2, .int 0)]) hx hb d_Ref_against_32 hl (by decide) rfl ?_
  clear hl ls
  intro ls hl
  refine lv_iload hx hb d_Ref_against_34 (lv_at hl 0 rfl) ?_
  refine lv_if_eq (tgt := 42) hx hb d_Ref_against_36 (by decide) (fun c_16 => ?_) (fun c_16 => absurd c_16 (by decide))
  refine tp_pc (pc' := 42) (by rfl) ?_
  refine lv_iinc (v := 8) (lv' := [(3, .int 8), (4, .int 0), (0, .ref h0), (1, .int 3), (2, .int 0)]) hx hb d_Ref_against_42 hl (k := 1) rfl (by first | rfl | decide) (by decide) rfl ?_
  clear hl ls
  intro ls hl
  refine lv_goto (tgt := 2) hx hb d_Ref_against_45 (by decide) ?_
  refine tp_pc (pc' := 2) (by rfl) ?_
  refine lv_iload_n hx hb d_Ref_against_2 rfl (lv_at hl 0 rfl) ?_
  refine lv_bipush (v := 11) hx hb d_Ref_against_3 (by decide) ?_
  refine lv_icmp_ge (tgt := 48) hx hb d_Ref_against_5 (by decide) (fun c_17 => absurd c_17 (by decide)) (fun c_17 => ?_)
  refine tp_pc (pc' := 8) (by rfl) ?_
  refine lv_aload_n hx hb d_Ref_against_8 rfl (lv_at hl 2 rfl) ?_
  refine va_get (D := (dC, dI)) (ci := 8) (v := .ref h21) (C := R_Ref) (T := F_Ref) (N := 48) hx hb hw i_Ref hown hK hP 0 rfl rfl 28 (by decide) (hw _ m_927) (fun _ h9 => h9) rfl d_Ref_against_9 ?_
  refine lv_iload_n hx hb d_Ref_against_12 rfl (lv_at hl 0 rfl) ?_
  refine va_iald (D := (dC, dI)) hx hb hK hP 2 1 rfl rfl (i := 8) (vp_c (by decide)) d_Ref_against_13 ?_
  refine tp_i (y := 0) (by first | rfl | decide) ?_
  refine lv_aload_n hx hb d_Ref_against_14 rfl (lv_at hl 2 rfl) ?_
  refine va_get (D := (dC, dI)) (ci := 8) (v := .ref h8) (C := R_Ref) (T := F_Ref) (N := 48) hx hb hw i_Ref hown hK hP 0 rfl rfl 9 (by decide) (hw _ m_908) (fun _ h9 => h9) rfl d_Ref_against_15 ?_
  refine lv_bipush (v := 11) hx hb d_Ref_against_18 (by decide) ?_
  refine lv_sipush (v := 4000) hx hb d_Ref_against_20 (by decide) ?_
  refine lv_iload_n hx hb d_Ref_against_23 rfl (lv_at hl 3 rfl) ?_
  refine lv_imul hx hb d_Ref_against_24 ?_
  refine tp_i (y := 12000) (by first | rfl | decide) ?_
  refine lv_iload_n hx hb d_Ref_against_25 rfl (lv_at hl 4 rfl) ?_
  refine lv_iadd hx hb d_Ref_against_26 ?_
  refine tp_i (y := 12000) (by first | rfl | decide) ?_
  refine lv_imul hx hb d_Ref_against_27 ?_
  refine tp_i (y := 132000) (by first | rfl | decide) ?_
  refine lv_iload_n hx hb d_Ref_against_28 rfl (lv_at hl 0 rfl) ?_
  refine lv_iadd hx hb d_Ref_against_29 ?_
  refine tp_i (y := 132008) (by first | rfl | decide) ?_
  refine va_sald (D := (dC, dI)) hx hb hK hP 1 0 rfl rfl (i := 132008) (vp_c (by decide)) d_Ref_against_30 ?_
  refine tp_i (y := 0) (by first | rfl | decide) ?_
  refine lv_isub hx hb d_Ref_against_31 ?_
  refine tp_i (y := 0) (by first | rfl | decide) ?_
  refine lv_istore (lv' := [(4, .int 0), (3, .int 8), (0, .ref h0), (1, .int 3), (2, .int 0)]) hx hb d_Ref_against_32 hl (by decide) rfl ?_
  clear hl ls
  intro ls hl
  refine lv_iload hx hb d_Ref_against_34 (lv_at hl 0 rfl) ?_
  refine lv_if_eq (tgt := 42) hx hb d_Ref_against_36 (by decide) (fun c_18 => ?_) (fun c_18 => absurd c_18 (by decide))
  refine tp_pc (pc' := 42) (by rfl) ?_
  refine lv_iinc (v := 9) (lv' := [(3, .int 9), (4, .int 0), (0, .ref h0), (1, .int 3), (2, .int 0)]) hx hb d_Ref_against_42 hl (k := 1) rfl (by first | rfl | decide) (by decide) rfl ?_
  clear hl ls
  intro ls hl
  refine lv_goto (tgt := 2) hx hb d_Ref_against_45 (by decide) ?_
  refine tp_pc (pc' := 2) (by rfl) ?_
  refine lv_iload_n hx hb d_Ref_against_2 rfl (lv_at hl 0 rfl) ?_
  refine lv_bipush (v := 11) hx hb d_Ref_against_3 (by decide) ?_
  refine lv_icmp_ge (tgt := 48) hx hb d_Ref_against_5 (by decide) (fun c_19 => absurd c_19 (by decide)) (fun c_19 => ?_)
  refine tp_pc (pc' := 8) (by rfl) ?_
  refine lv_aload_n hx hb d_Ref_against_8 rfl (lv_at hl 2 rfl) ?_
  refine va_get (D := (dC, dI)) (ci := 8) (v := .ref h21) (C := R_Ref) (T := F_Ref) (N := 48) hx hb hw i_Ref hown hK hP 0 rfl rfl 28 (by decide) (hw _ m_927) (fun _ h9 => h9) rfl d_Ref_against_9 ?_
  refine lv_iload_n hx hb d_Ref_against_12 rfl (lv_at hl 0 rfl) ?_
  refine va_iald (D := (dC, dI)) hx hb hK hP 2 1 rfl rfl (i := 9) (vp_c (by decide)) d_Ref_against_13 ?_
  refine tp_i (y := 0) (by first | rfl | decide) ?_
  refine lv_aload_n hx hb d_Ref_against_14 rfl (lv_at hl 2 rfl) ?_
  refine va_get (D := (dC, dI)) (ci := 8) (v := .ref h8) (C := R_Ref) (T := F_Ref) (N := 48) hx hb hw i_Ref hown hK hP 0 rfl rfl 9 (by decide) (hw _ m_908) (fun _ h9 => h9) rfl d_Ref_against_15 ?_
  refine lv_bipush (v := 11) hx hb d_Ref_against_18 (by decide) ?_
  refine lv_sipush (v := 4000) hx hb d_Ref_against_20 (by decide) ?_
  refine lv_iload_n hx hb d_Ref_against_23 rfl (lv_at hl 3 rfl) ?_
  refine lv_imul hx hb d_Ref_against_24 ?_
  refine tp_i (y := 12000) (by first | rfl | decide) ?_
  refine lv_iload_n hx hb d_Ref_against_25 rfl (lv_at hl 4 rfl) ?_
  refine lv_iadd hx hb d_Ref_against_26 ?_
  refine tp_i (y := 12000) (by first | rfl | decide) ?_
  refine lv_imul hx hb d_Ref_against_27 ?_
  refine tp_i (y := 132000) (by first | rfl | decide) ?_
  refine lv_iload_n hx hb d_Ref_against_28 rfl (lv_at hl 0 rfl) ?_
  refine lv_iadd hx hb d_Ref_against_29 ?_
  refine tp_i (y := 132009) (by first | rfl | decide) ?_
  refine va_sald (D := (dC, dI)) hx hb hK hP 1 0 rfl rfl (i := 132009) (vp_c (by decide)) d_Ref_against_30 ?_
  refine tp_i (y := 0) (by first | rfl | decide) ?_
  refine lv_isub hx hb d_Ref_against_31 ?_
  refine tp_i (y := 0) (by first | rfl | decide) ?_
  refine lv_istore (lv' := [(4, .int 0), (3, .int 9), (0, .ref h0), (1, .int 3), (2, .int 0)]) hx hb d_Ref_against_32 hl (by decide) rfl ?_
  clear hl ls
  intro ls hl
  refine lv_iload hx hb d_Ref_against_34 (lv_at hl 0 rfl) ?_
  refine lv_if_eq (tgt := 42) hx hb d_Ref_against_36 (by decide) (fun c_20 => ?_) (fun c_20 => absurd c_20 (by decide))
  refine tp_pc (pc' := 42) (by rfl) ?_
  refine lv_iinc (v := 10) (lv' := [(3, .int 10), (4, .int 0), (0, .ref h0), (1, .int 3), (2, .int 0)]) hx hb d_Ref_against_42 hl (k := 1) rfl (by first | rfl | decide) (by decide) rfl ?_
  clear hl ls
  intro ls hl
  refine lv_goto (tgt := 2) hx hb d_Ref_against_45 (by decide) ?_
  refine tp_pc (pc' := 2) (by rfl) ?_
  refine lv_iload_n hx hb d_Ref_against_2 rfl (lv_at hl 0 rfl) ?_
  refine lv_bipush (v := 11) hx hb d_Ref_against_3 (by decide) ?_
  refine lv_icmp_ge (tgt := 48) hx hb d_Ref_against_5 (by decide) (fun c_21 => absurd c_21 (by decide)) (fun c_21 => ?_)
  refine tp_pc (pc' := 8) (by rfl) ?_
  refine lv_aload_n hx hb d_Ref_against_8 rfl (lv_at hl 2 rfl) ?_
  refine va_get (D := (dC, dI)) (ci := 8) (v := .ref h21) (C := R_Ref) (T := F_Ref) (N := 48) hx hb hw i_Ref hown hK hP 0 rfl rfl 28 (by decide) (hw _ m_927) (fun _ h9 => h9) rfl d_Ref_against_9 ?_
  refine lv_iload_n hx hb d_Ref_against_12 rfl (lv_at hl 0 rfl) ?_
  refine va_iald (D := (dC, dI)) hx hb hK hP 2 1 rfl rfl (i := 10) (vp_c (by decide)) d_Ref_against_13 ?_
  refine tp_i (y := 0) (by first | rfl | decide) ?_
  refine lv_aload_n hx hb d_Ref_against_14 rfl (lv_at hl 2 rfl) ?_
  refine va_get (D := (dC, dI)) (ci := 8) (v := .ref h8) (C := R_Ref) (T := F_Ref) (N := 48) hx hb hw i_Ref hown hK hP 0 rfl rfl 9 (by decide) (hw _ m_908) (fun _ h9 => h9) rfl d_Ref_against_15 ?_
  refine lv_bipush (v := 11) hx hb d_Ref_against_18 (by decide) ?_
  refine lv_sipush (v := 4000) hx hb d_Ref_against_20 (by decide) ?_
  refine lv_iload_n hx hb d_Ref_against_23 rfl (lv_at hl 3 rfl) ?_
  refine lv_imul hx hb d_Ref_against_24 ?_
  refine tp_i (y := 12000) (by first | rfl | decide) ?_
  refine lv_iload_n hx hb d_Ref_against_25 rfl (lv_at hl 4 rfl) ?_
  refine lv_iadd hx hb d_Ref_against_26 ?_
  refine tp_i (y := 12000) (by first | rfl | decide) ?_
  refine lv_imul hx hb d_Ref_against_27 ?_
  refine tp_i (y := 132000) (by first | rfl | decide) ?_
  refine lv_iload_n hx hb d_Ref_against_28 rfl (lv_at hl 0 rfl) ?_
  refine lv_iadd hx hb d_Ref_against_29 ?_
  refine tp_i (y := 132010) (by first | rfl | decide) ?_
  refine va_sald (D := (dC, dI)) hx hb hK hP 1 0 rfl rfl (i := 132010) (vp_c (by decide)) d_Ref_against_30 ?_
  refine tp_i (y := 0) (by first | rfl | decide) ?_
  refine lv_isub hx hb d_Ref_against_31 ?_
  refine tp_i (y := 0) (by first | rfl | decide) ?_
  refine lv_istore (lv' := [(4, .int 0), (3, .int 10), (0, .ref h0), (1, .int 3), (2, .int 0)]) hx hb d_Ref_against_32 hl (by decide) rfl ?_
  clear hl ls
  intro ls hl
  refine lv_iload hx hb d_Ref_against_34 (lv_at hl 0 rfl) ?_
  refine lv_if_eq (tgt := 42) hx hb d_Ref_against_36 (by decide) (fun c_22 => ?_) (fun c_22 => absurd c_22 (by decide))
  refine tp_pc (pc' := 42) (by rfl) ?_
  refine lv_iinc (v := 11) (lv' := [(3, .int 11), (4, .int 0), (0, .ref h0), (1, .int 3), (2, .int 0)]) hx hb d_Ref_against_42 hl (k := 1) rfl (by first | rfl | decide) (by decide) rfl ?_
  clear hl ls
  intro ls hl
  refine lv_goto (tgt := 2) hx hb d_Ref_against_45 (by decide) ?_
  refine tp_pc (pc' := 2) (by rfl) ?_
  refine lv_iload_n hx hb d_Ref_against_2 rfl (lv_at hl 0 rfl) ?_
  refine lv_bipush (v := 11) hx hb d_Ref_against_3 (by decide) ?_
  refine lv_icmp_ge (tgt := 48) hx hb d_Ref_against_5 (by decide) (fun c_23 => ?_) (fun c_23 => absurd c_23 (by decide))
  refine tp_pc (pc' := 48) (by rfl) ?_
  refine lv_iconst (v := 0) hx hb d_Ref_against_48 (by decide) ?_
  obtain ⟨hP9, hD9, -⟩ := cut3 (wc := [oc h0 8 [.int p2, .int p3, .ref h1, .ref h2, .ref h3, .ref h4, .ref h5, .ref h6, .ref h7, .ref h8, .ref h9, .ref h10, .ref h11, .ref h12, .int p4, .ref h13, .ref h14, .ref h15, .ref h16, .int p5, .int p6, .ref h17, .ref h18, .ref h19, .int p7, .ref h20, .int p8, .int p9, .ref h21, .ref h22, .ref h23, .ref h24, .ref h25, .ref h26, .ref h27, .ref h28, .int p10, .int p11, .ref h29, .ref h30, .ref h31, .ref h32, .ref h33, .ref h34, .ref h35, .ref h36, .int p12, .ref h37], ia h8 k7 352000 (upd (upd (upd (upd (upd (upd (upd (upd (upd (upd (upd (upd (upd (upd (upd (upd (upd (upd (upd (upd (upd (upd (fun _ => 0) 88000 0) 88001 0) 88002 0) 88003 0) 88004 0) 88005 0) 88006 0) 88007 0) 88008 0) 88009 0) 88010 0) 132000 0) 132001 0) 132002 0) 132003 0) 132004 0) 132005 0) 132006 0) 132007 0) 132008 0) 132009 0) 132010 0), ia h21 k20 11 (fun _ => 0)]) hP hD rfl hS hA [0, 1, 2] (by decide +kernel) rfl
  have hK9 := hK.sub (tys' := []) [] rfl
  refine W.widen (k := 0) (n := 0) (by exact Nat.le_of_ble_eq_true rfl) (by exact Nat.le_of_ble_eq_true rfl) ?_
  exact W.iret (v := 0) hx hb hr (fun t ht hW => ⟨⟨0, (), rfl, rfl, by rw [ht]; exact hP9, va_K.moved hW.alike hK9, hD9⟩, hS.F ht⟩) hS.2.2 d_Ref_against_49
set_option maxHeartbeats 4000000 in
set_option maxRecDepth 100000 in
theorem c_Ref_addOutcome_v18 (l : Launch) (dC : Nat → ClassId) (dI : Nat → Nat → Nat) (h0 : Nat) (p1 : Int32) (p2 : Int32) (h1 : Nat) (h2 : Nat) (h3 : Nat) (h4 : Nat) (h5 : Nat) (h6 : Nat) (h7 : Nat) (h8 : Nat) (h9 : Nat) (h10 : Nat) (h11 : Nat) (h12 : Nat) (p3 : Int32) (h13 : Nat) (h14 : Nat) (h15 : Nat) (h16 : Nat) (p4 : Int32) (p5 : Int32) (h17 : Nat) (h18 : Nat) (h19 : Nat) (p6 : Int32) (h20 : Nat) (p7 : Int32) (p8 : Int32) (h21 : Nat) (h22 : Nat) (h23 : Nat) (h24 : Nat) (h25 : Nat) (h26 : Nat) (h27 : Nat) (h28 : Nat) (p9 : Int32) (p10 : Int32) (h29 : Nat) (h30 : Nat) (h31 : Nat) (h32 : Nat) (h33 : Nat) (h34 : Nat) (h35 : Nat) (h36 : Nat) (p11 : Int32) (h37 : Nat) (k6 : ClassId) (k7 : ClassId) (f7 : Nat → Int32) (k10 : ClassId) (f10 : Nat → Int32) (k20 : ClassId) (sz : Nat) : Met l y_Ref_addOutcome w_Ref_addOutcome ({ frames := 0, cells := 0, slots := 0, locals := 0 }) (va_Pc [.ref h0, .int 0] (fun U => U.heap.size = sz ∧ va_P (dC, dI) classes [oc h0 8 [.int p1, .int p2, .ref h1, .ref h2, .ref h3, .ref h4, .ref h5, .ref h6, .ref h7, .ref h8, .ref h9, .ref h10, .ref h11, .ref h12, .int p3, .ref h13, .ref h14, .ref h15, .ref h16, .int p4, .int p5, .ref h17, .ref h18, .ref h19, .int p6, .ref h20, .int p7, .int p8, .ref h21, .ref h22, .ref h23, .ref h24, .ref h25, .ref h26, .ref h27, .ref h28, .int p9, .int p10, .ref h29, .ref h30, .ref h31, .ref h32, .ref h33, .ref h34, .ref h35, .ref h36, .int p11, .ref h37], ia h7 k6 8 (upd (fun _ => 0) 3 1), ia h8 k7 352000 f7, ia h11 k10 32000 f10, ia h21 k20 11 (fun _ => 0)] U.heap ∧ va_K (dC, dI) classes [(k6, .int), (k7, .short), (k10, .int), (k20, .int)] U ∧ va_D (fun _ => True) [oc h0 8 [.int p1, .int p2, .ref h1, .ref h2, .ref h3, .ref h4, .ref h5, .ref h6, .ref h7, .ref h8, .ref h9, .ref h10, .ref h11, .ref h12, .int p3, .ref h13, .ref h14, .ref h15, .ref h16, .int p4, .int p5, .ref h17, .ref h18, .ref h19, .int p6, .ref h20, .int p7, .int p8, .ref h21, .ref h22, .ref h23, .ref h24, .ref h25, .ref h26, .ref h27, .ref h28, .int p9, .int p10, .ref h29, .ref h30, .ref h31, .ref h32, .ref h33, .ref h34, .ref h35, .ref h36, .int p11, .ref h37], ia h7 k6 8 (upd (fun _ => 0) 3 1), ia h8 k7 352000 f7, ia h11 k10 32000 f10, ia h21 k20 11 (fun _ => 0)] ∧ nw U)) (va_Qi (fun (r : Int32) (_ : Unit) => r = 0) (fun _ t => va_P (dC, dI) classes [oc h0 8 [.int p1, .int p2, .ref h1, .ref h2, .ref h3, .ref h4, .ref h5, .ref h6, .ref h7, .ref h8, .ref h9, .ref h10, .ref h11, .ref h12, .int p3, .ref h13, .ref h14, .ref h15, .ref h16, .int p4, .int p5, .ref h17, .ref h18, .ref h19, .int p6, .ref h20, .int p7, .int p8, .ref h21, .ref h22, .ref h23, .ref h24, .ref h25, .ref h26, .ref h27, .ref h28, .int p9, .int p10, .ref h29, .ref h30, .ref h31, .ref h32, .ref h33, .ref h34, .ref h35, .ref h36, .int p11, .ref h37], ia h7 k6 8 (upd (upd (fun _ => 0) 3 1) 0 1), ia h8 k7 352000 (upd (upd (upd (upd (upd (upd (upd (upd (upd (upd (upd f7 0 0) 1 0) 2 0) 3 0) 4 0) 5 0) 6 0) 7 0) 8 0) 9 0) 10 0), ia h11 k10 32000 (upd f10 0 0), ia h21 k20 11 (fun _ => 0)] t.heap ∧ va_K (dC, dI) classes [] t ∧ va_D (va_A [oc h0 8 [.int p1, .int p2, .ref h1, .ref h2, .ref h3, .ref h4, .ref h5, .ref h6, .ref h7, .ref h8, .ref h9, .ref h10, .ref h11, .ref h12, .int p3, .ref h13, .ref h14, .ref h15, .ref h16, .int p4, .int p5, .ref h17, .ref h18, .ref h19, .int p6, .ref h20, .int p7, .int p8, .ref h21, .ref h22, .ref h23, .ref h24, .ref h25, .ref h26, .ref h27, .ref h28, .int p9, .int p10, .ref h29, .ref h30, .ref h31, .ref h32, .ref h33, .ref h34, .ref h35, .ref h36, .int p11, .ref h37], ia h7 k6 8 (upd (fun _ => 0) 3 1), ia h8 k7 352000 f7, ia h11 k10 32000 f10, ia h21 k20 11 (fun _ => 0)] sz) [oc h0 8 [.int p1, .int p2, .ref h1, .ref h2, .ref h3, .ref h4, .ref h5, .ref h6, .ref h7, .ref h8, .ref h9, .ref h10, .ref h11, .ref h12, .int p3, .ref h13, .ref h14, .ref h15, .ref h16, .int p4, .int p5, .ref h17, .ref h18, .ref h19, .int p6, .ref h20, .int p7, .int p8, .ref h21, .ref h22, .ref h23, .ref h24, .ref h25, .ref h26, .ref h27, .ref h28, .int p9, .int p10, .ref h29, .ref h30, .ref h31, .ref h32, .ref h33, .ref h34, .ref h35, .ref h36, .int p11, .ref h37], ia h7 k6 8 (upd (upd (fun _ => 0) 3 1) 0 1), ia h8 k7 352000 (upd (upd (upd (upd (upd (upd (upd (upd (upd (upd (upd f7 0 0) 1 0) 2 0) 3 0) 4 0) 5 0) 6 0) 7 0) 8 0) 9 0) 10 0), ia h11 k10 32000 (upd f10 0 0), ia h21 k20 11 (fun _ => 0)]) (va_A [oc h0 8 [.int p1, .int p2, .ref h1, .ref h2, .ref h3, .ref h4, .ref h5, .ref h6, .ref h7, .ref h8, .ref h9, .ref h10, .ref h11, .ref h12, .int p3, .ref h13, .ref h14, .ref h15, .ref h16, .int p4, .int p5, .ref h17, .ref h18, .ref h19, .int p6, .ref h20, .int p7, .int p8, .ref h21, .ref h22, .ref h23, .ref h24, .ref h25, .ref h26, .ref h27, .ref h28, .int p9, .int p10, .ref h29, .ref h30, .ref h31, .ref h32, .ref h33, .ref h34, .ref h35, .ref h36, .int p11, .ref h37], ia h7 k6 8 (upd (fun _ => 0) 3 1), ia h8 k7 352000 f7, ia h11 k10 32000 f10, ia h21 k20 11 (fun _ => 0)] sz)) 0 0 (va_A [oc h0 8 [.int p1, .int p2, .ref h1, .ref h2, .ref h3, .ref h4, .ref h5, .ref h6, .ref h7, .ref h8, .ref h9, .ref h10, .ref h11, .ref h12, .int p3, .ref h13, .ref h14, .ref h15, .ref h16, .int p4, .int p5, .ref h17, .ref h18, .ref h19, .int p6, .ref h20, .int p7, .int p8, .ref h21, .ref h22, .ref h23, .ref h24, .ref h25, .ref h26, .ref h27, .ref h28, .int p9, .int p10, .ref h29, .ref h30, .ref h31, .ref h32, .ref h33, .ref h34, .ref h35, .ref h36, .int p11, .ref h37], ia h7 k6 8 (upd (fun _ => 0) 3 1), ia h8 k7 352000 f7, ia h11 k10 32000 f10, ia h21 k20 11 (fun _ => 0)] sz) := by
  refine Met.ofW (cc := b_Ref_addOutcome) (maxL := 7) (ret := (some .int)) (by decide) rfl ?_
  intro p e s m args below meth c s₁ B hml hv
  obtain ⟨rfl, hsz, hP, hK, hD0, hn⟩ := hv
  have hx := B.exec
  have hb := B.bytes
  have hr := B.returns
  have hw := fun w (h : w ∈ wt) => atoms_spec (ws := w_Ref_addOutcome) B.pre w (List.mem_cons_of_mem _ h)
  have hown : s.vm.findClass R_Ref = some m.cls := findClass_of_methodNamed B.named
  have hlocks := B.notSynchronized
  subst hsz
  have hD1 := hD0.self (sz := s.heap.size)
  generalize hAe : va_A [oc h0 8 [.int p1, .int p2, .ref h1, .ref h2, .ref h3, .ref h4, .ref h5, .ref h6, .ref h7, .ref h8, .ref h9, .ref h10, .ref h11, .ref h12, .int p3, .ref h13, .ref h14, .ref h15, .ref h16, .int p4, .int p5, .ref h17, .ref h18, .ref h19, .int p6, .ref h20, .int p7, .int p8, .ref h21, .ref h22, .ref h23, .ref h24, .ref h25, .ref h26, .ref h27, .ref h28, .int p9, .int p10, .ref h29, .ref h30, .ref h31, .ref h32, .ref h33, .ref h34, .ref h35, .ref h36, .int p11, .ref h37], ia h7 k6 8 (upd (fun _ => 0) 3 1), ia h8 k7 352000 f7, ia h11 k10 32000 f10, ia h21 k20 11 (fun _ => 0)] s.heap.size = A at hD1 ⊢
  have hA : ∀ q : Nat, s.heap.size ≤ q → A q := fun q h => by rw [← hAe]; exact Or.inr h
  have hD : dd A [h0, h7, h8, h11, h21] := dd_of hD1 rfl
  clear hAe hD0 hD1
  have hS : va_S A s.heap s.heap [] := va_S.rf
  replace hP : va_P (dC, dI) classes [oc h0 8 [.int p1, .int p2, .ref h1, .ref h2, .ref h3, .ref h4, .ref h5, .ref h6, .ref h7, .ref h8, .ref h9, .ref h10, .ref h11, .ref h12, .int p3, .ref h13, .ref h14, .ref h15, .ref h16, .int p4, .int p5, .ref h17, .ref h18, .ref h19, .int p6, .ref h20, .int p7, .int p8, .ref h21, .ref h22, .ref h23, .ref h24, .ref h25, .ref h26, .ref h27, .ref h28, .int p9, .int p10, .ref h29, .ref h30, .ref h31, .ref h32, .ref h33, .ref h34, .ref h35, .ref h36, .int p11, .ref h37], ia h7 k6 8 (upd (fun _ => 0) 3 1), ia h8 k7 352000 f7, ia h11 k10 32000 f10, ia h21 k20 11 (fun _ => 0)] s.heap := hP
  have hl := lv_entry ([.ref h0, .int 0]) (n := 7) (Nat.le_of_ble_eq_true rfl)
  rw [lg_entry_eq]
  generalize (lg_sl ([.ref h0, .int 0]) ++ List.replicate (7 - (lg_sl ([.ref h0, .int 0])).length) Slot.unset).toArray = ls at hl ⊢
  replace hl : lv_has ls 7 [(0, .ref h0), (1, .int 0)] := hl
  refine lv_sipush (v := 4000) hx hb d_Ref_addOutcome_0 (by decide) ?_
  refine lv_iload_n hx hb d_Ref_addOutcome_3 rfl (lv_at hl 1 rfl) ?_
  refine lv_imul hx hb d_Ref_addOutcome_4 ?_
  refine tp_i (y := 0) (by first | rfl | decide) ?_
  refine lv_istore_n (lv' := [(2, .int 0), (0, .ref h0), (1, .int 0)]) hx hb d_Ref_addOutcome_5 rfl hl (by decide) rfl ?_
  clear hl ls
  intro ls hl
  refine lv_iconst (v := 0) hx hb d_Ref_addOutcome_6 (by decide) ?_
  refine lv_istore_n (lv' := [(3, .int 0), (2, .int 0), (0, .ref h0), (1, .int 0)]) hx hb d_Ref_addOutcome_7 rfl hl (by decide) rfl ?_
  clear hl ls
  intro ls hl
  refine lv_aload_n hx hb d_Ref_addOutcome_8 rfl (lv_at hl 2 rfl) ?_
  refine va_get (D := (dC, dI)) (ci := 8) (v := .ref h7) (C := R_Ref) (T := F_Ref) (N := 48) hx hb hw i_Ref hown hK hP 0 rfl rfl 8 (by decide) (hw _ m_907) (fun _ h9 => h9) rfl d_Ref_addOutcome_9 ?_
  refine lv_iload_n hx hb d_Ref_addOutcome_12 rfl (lv_at hl 3 rfl) ?_
  refine va_iald (D := (dC, dI)) hx hb hK hP 1 0 rfl rfl (i := 0) (vp_c (by decide)) d_Ref_addOutcome_13 ?_
  refine tp_i (y := 0) (by first | rfl | decide) ?_
  refine lv_istore (lv' := [(4, .int 0), (3, .int 0), (2, .int 0), (0, .ref h0), (1, .int 0)]) hx hb d_Ref_addOutcome_14 hl (by decide) rfl ?_
  clear hl ls
  intro ls hl
  refine lv_iload_n hx hb d_Ref_addOutcome_16 rfl (lv_at hl 1 rfl) ?_
  refine lv_iload hx hb d_Ref_addOutcome_17 (lv_at hl 0 rfl) ?_
  refine lv_icmp_ge (tgt := 62) hx hb d_Ref_addOutcome_19 (by decide) (fun c_1 => ?_) (fun c_1 => absurd c_1 (by decide))
  refine tp_pc (pc' := 62) (by rfl) ?_
  refine lv_aload_n hx hb d_Ref_addOutcome_62 rfl (lv_at hl 3 rfl) ?_
  refine va_get (D := (dC, dI)) (ci := 8) (v := .ref h7) (C := R_Ref) (T := F_Ref) (N := 48) hx hb hw i_Ref hown hK hP 0 rfl rfl 8 (by decide) (hw _ m_907) (fun _ h9 => h9) rfl d_Ref_addOutcome_63 ?_
  refine lv_iload_n hx hb d_Ref_addOutcome_66 rfl (lv_at hl 4 rfl) ?_
  refine va_iald (D := (dC, dI)) hx hb hK hP 1 0 rfl rfl (i := 0) (vp_c (by decide)) d_Ref_addOutcome_67 ?_
  refine tp_i (y := 0) (by first | rfl | decide) ?_
  refine lv_istore (lv' := [(5, .int 0), (4, .int 0), (3, .int 0), (2, .int 0), (0, .ref h0), (1, .int 0)]) hx hb d_Ref_addOutcome_68 hl (by decide) rfl ?_
  clear hl ls
  intro ls hl
  refine lv_iload_n hx hb d_Ref_addOutcome_70 rfl (lv_at hl 2 rfl) ?_
  refine lv_iload hx hb d_Ref_addOutcome_71 (lv_at hl 0 rfl) ?_
  refine lv_icmp_ge (tgt := 92) hx hb d_Ref_addOutcome_73 (by decide) (fun c_2 => ?_) (fun c_2 => absurd c_2 (by decide))
  refine tp_pc (pc' := 92) (by rfl) ?_
  refine lv_iload hx hb d_Ref_addOutcome_92 (lv_at hl 0 rfl) ?_
  refine lv_sipush (v := 4000) hx hb d_Ref_addOutcome_94 (by decide) ?_
  refine lv_icmp_ne (tgt := 102) hx hb d_Ref_addOutcome_97 (by decide) (fun c_3 => ?_) (fun c_3 => absurd c_3 (by decide))
  refine tp_pc (pc' := 102) (by rfl) ?_
  refine lv_iload hx hb d_Ref_addOutcome_102 (lv_at hl 0 rfl) ?_
  refine lv_istore (lv' := [(6, .int 0), (5, .int 0), (4, .int 0), (3, .int 0), (2, .int 0), (0, .ref h0), (1, .int 0)]) hx hb d_Ref_addOutcome_104 hl (by decide) rfl ?_
  clear hl ls
  intro ls hl
  refine lv_iload hx hb d_Ref_addOutcome_106 (lv_at hl 0 rfl) ?_
  refine lv_iload_n hx hb d_Ref_addOutcome_108 rfl (lv_at hl 3 rfl) ?_
  refine lv_icmp_le (tgt := 138) hx hb d_Ref_addOutcome_109 (by decide) (fun c_4 => ?_) (fun c_4 => absurd c_4 (by decide))
  refine tp_pc (pc' := 138) (by rfl) ?_
  refine lv_aload_n hx hb d_Ref_addOutcome_138 rfl (lv_at hl 5 rfl) ?_
  refine va_get (D := (dC, dI)) (ci := 8) (v := .ref h11) (C := R_Ref) (T := F_Ref) (N := 48) hx hb hw i_Ref hown hK hP 0 rfl rfl 12 (by decide) (hw _ m_911) (fun _ h9 => h9) rfl d_Ref_addOutcome_139 ?_
  refine lv_iload_n hx hb d_Ref_addOutcome_142 rfl (lv_at hl 4 rfl) ?_
  refine lv_iload_n hx hb d_Ref_addOutcome_143 rfl (lv_at hl 3 rfl) ?_
  refine lv_iadd hx hb d_Ref_addOutcome_144 ?_
  refine tp_i (y := 0) (by first | rfl | decide) ?_
  refine lv_iload hx hb d_Ref_addOutcome_145 (lv_at hl 1 rfl) ?_
  refine va_iast (D := (dC, dI)) hx hb hK hP (dd_D hD rfl) hS 3 2 rfl rfl (i := 0) (x := 0) (vp_c (by decide)) d_Ref_addOutcome_147 ?_
  clear hP hS
  intro H locs (hP : va_P (dC, dI) classes [oc h0 8 [.int p1, .int p2, .ref h1, .ref h2, .ref h3, .ref h4, .ref h5, .ref h6, .ref h7, .ref h8, .ref h9, .ref h10, .ref h11, .ref h12, .int p3, .ref h13, .ref h14, .ref h15, .ref h16, .int p4, .int p5, .ref h17, .ref h18, .ref h19, .int p6, .ref h20, .int p7, .int p8, .ref h21, .ref h22, .ref h23, .ref h24, .ref h25, .ref h26, .ref h27, .ref h28, .int p9, .int p10, .ref h29, .ref h30, .ref h31, .ref h32, .ref h33, .ref h34, .ref h35, .ref h36, .int p11, .ref h37], ia h7 k6 8 (upd (fun _ => 0) 3 1), ia h8 k7 352000 f7, ia h11 k10 32000 (upd f10 0 0), ia h21 k20 11 (fun _ => 0)] H) _ hS
  refine tp_pc (pc' := 148) (by rfl) ?_
  refine lv_aload_n hx hb d_Ref_addOutcome_148 rfl (lv_at hl 5 rfl) ?_
  refine va_get (D := (dC, dI)) (ci := 8) (v := .ref h7) (C := R_Ref) (T := F_Ref) (N := 48) hx hb hw i_Ref hown hK hP 0 rfl rfl 8 (by decide) (hw _ m_907) (fun _ h9 => h9) rfl d_Ref_addOutcome_149 ?_
  refine lv_iload_n hx hb d_Ref_addOutcome_152 rfl (lv_at hl 6 rfl) ?_
  refine lv_dup2_11 hx hb d_Ref_addOutcome_153 rfl rfl ?_
  refine va_iald (D := (dC, dI)) hx hb hK hP 1 0 rfl rfl (i := 0) (vp_c (by decide)) d_Ref_addOutcome_154 ?_
  refine tp_i (y := 0) (by first | rfl | decide) ?_
  refine lv_iconst (v := 1) hx hb d_Ref_addOutcome_155 (by decide) ?_
  refine lv_iadd hx hb d_Ref_addOutcome_156 ?_
  refine tp_i (y := 1) (by first | rfl | decide) ?_
  refine va_iast (D := (dC, dI)) hx hb hK hP (dd_D hD rfl) hS 1 0 rfl rfl (i := 0) (x := 1) (vp_c (by decide)) d_Ref_addOutcome_157 ?_
  clear hP hS locs H
  intro H locs (hP : va_P (dC, dI) classes [oc h0 8 [.int p1, .int p2, .ref h1, .ref h2, .ref h3, .ref h4, .ref h5, .ref h6, .ref h7, .ref h8, .ref h9, .ref h10, .ref h11, .ref h12, .int p3, .ref h13, .ref h14, .ref h15, .ref h16, .int p4, .int p5, .ref h17, .ref h18, .ref h19, .int p6, .ref h20, .int p7, .int p8, .ref h21, .ref h22, .ref h23, .ref h24, .ref h25, .ref h26, .ref h27, .ref h28, .int p9, .int p10, .ref h29, .ref h30, .ref h31, .ref h32, .ref h33, .ref h34, .ref h35, .ref h36, .int p11, .ref h37], ia h7 k6 8 (upd (upd (fun _ => 0) 3 1) 0 1), ia h8 k7 352000 f7, ia h11 k10 32000 (upd f10 0 0), ia h21 k20 11 (fun _ => 0)] H) _ hS
  refine tp_pc (pc' := 158) (by rfl) ?_
  refine lv_iconst (v := 0) hx hb d_Ref_addOutcome_158 (by decide) ?_
  refine lv_istore (lv' := [(6, .int 0), (5, .int 0), (4, .int 0), (3, .int 0), (2, .int 0), (0, .ref h0), (1, .int 0)]) hx hb d_Ref_addOutcome_159 hl (by decide) rfl ?_
  clear hl ls
  intro ls hl
  refine lv_iload hx hb d_Ref_addOutcome_161 (lv_at hl 0 rfl) ?_
  refine lv_bipush (v := 11) hx hb d_Ref_addOutcome_163 (by decide) ?_
  refine lv_icmp_ge (tgt := 197) hx hb d_Ref_addOutcome_165 (by decide) (fun c_5 => absurd c_5 (by decide)) (fun c_5 => ?_)
  refine tp_pc (pc' := 168) (by rfl) ?_
  refine lv_aload_n hx hb d_Ref_addOutcome_168 rfl (lv_at hl 5 rfl) ?_
  refine va_get (D := (dC, dI)) (ci := 8) (v := .ref h8) (C := R_Ref) (T := F_Ref) (N := 48) hx hb hw i_Ref hown hK hP 0 rfl rfl 9 (by decide) (hw _ m_908) (fun _ h9 => h9) rfl d_Ref_addOutcome_169 ?_
  refine lv_bipush (v := 11) hx hb d_Ref_addOutcome_172 (by decide) ?_
  refine lv_iload_n hx hb d_Ref_addOutcome_174 rfl (lv_at hl 4 rfl) ?_
  refine lv_iload hx hb d_Ref_addOutcome_175 (lv_at hl 1 rfl) ?_
  refine lv_iadd hx hb d_Ref_addOutcome_177 ?_
  refine tp_i (y := 0) (by first | rfl | decide) ?_
  refine lv_imul hx hb d_Ref_addOutcome_178 ?_
  refine tp_i (y := 0) (by first | rfl | decide) ?_
  refine lv_iload hx hb d_Ref_addOutcome_179 (lv_at hl 0 rfl) ?_
  refine lv_iadd hx hb d_Ref_addOutcome_181 ?_
  refine tp_i (y := 0) (by first | rfl | decide) ?_
  refine lv_aload_n hx hb d_Ref_addOutcome_182 rfl (lv_at hl 5 rfl) ?_
  refine va_get (D := (dC, dI)) (ci := 8) (v := .ref h21) (C := R_Ref) (T := F_Ref) (N := 48) hx hb hw i_Ref hown hK hP 0 rfl rfl 28 (by decide) (hw _ m_927) (fun _ h9 => h9) rfl d_Ref_addOutcome_183 ?_
  refine lv_iload hx hb d_Ref_addOutcome_186 (lv_at hl 0 rfl) ?_
  refine va_iald (D := (dC, dI)) hx hb hK hP 4 3 rfl rfl (i := 0) (vp_c (by decide)) d_Ref_addOutcome_188 ?_
  refine tp_i (y := 0) (by first | rfl | decide) ?_
  refine lv_i2s (v := 0) hx hb d_Ref_addOutcome_189 (by decide) ?_
  refine va_sast (D := (dC, dI)) hx hb hK hP (dd_D hD rfl) hS 2 1 rfl rfl (i := 0) (x := 0) (vp_c (by decide)) d_Ref_addOutcome_190 ?_
  clear hP hS locs H
  intro H locs (hP : va_P (dC, dI) classes [oc h0 8 [.int p1, .int p2, .ref h1, .ref h2, .ref h3, .ref h4, .ref h5, .ref h6, .ref h7, .ref h8, .ref h9, .ref h10, .ref h11, .ref h12, .int p3, .ref h13, .ref h14, .ref h15, .ref h16, .int p4, .int p5, .ref h17, .ref h18, .ref h19, .int p6, .ref h20, .int p7, .int p8, .ref h21, .ref h22, .ref h23, .ref h24, .ref h25, .ref h26, .ref h27, .ref h28, .int p9, .int p10, .ref h29, .ref h30, .ref h31, .ref h32, .ref h33, .ref h34, .ref h35, .ref h36, .int p11, .ref h37], ia h7 k6 8 (upd (upd (fun _ => 0) 3 1) 0 1), ia h8 k7 352000 (upd f7 0 0), ia h11 k10 32000 (upd f10 0 0), ia h21 k20 11 (fun _ => 0)] H) _ hS
  refine tp_pc (pc' := 191) (by rfl) ?_
  refine lv_iinc (v := 1) (lv' := [(6, .int 1), (5, .int 0), (4, .int 0), (3, .int 0), (2, .int 0), (0, .ref h0), (1, .int 0)]) hx hb d_Ref_addOutcome_191 hl (k := 0) rfl (by first | rfl | decide) (by decide) rfl ?_
  clear hl ls
  intro ls hl
  refine lv_goto (tgt := 161) hx hb d_Ref_addOutcome_194 (by decide) ?_
  refine tp_pc (pc' := 161) (by rfl) ?_
  refine lv_iload hx hb d_Ref_addOutcome_161 (lv_at hl 0 rfl) ?_
  refine lv_bipush (v := 11) hx hb d_Ref_addOutcome_163 (by decide) ?_
  refine lv_icmp_ge (tgt := 197) hx hb d_Ref_addOutcome_165 (by decide) (fun c_6 => absurd c_6 (by decide)) (fun c_6 => ?_)
  refine tp_pc (pc' := 168) (by rfl) ?_
  refine lv_aload_n hx hb d_Ref_addOutcome_168 rfl (lv_at hl 5 rfl) ?_
  refine va_get (D := (dC, dI)) (ci := 8) (v := .ref h8) (C := R_Ref) (T := F_Ref) (N := 48) hx hb hw i_Ref hown hK hP 0 rfl rfl 9 (by decide) (hw _ m_908) (fun _ h9 => h9) rfl d_Ref_addOutcome_169 ?_
  refine lv_bipush (v := 11) hx hb d_Ref_addOutcome_172 (by decide) ?_
  refine lv_iload_n hx hb d_Ref_addOutcome_174 rfl (lv_at hl 4 rfl) ?_
  refine lv_iload hx hb d_Ref_addOutcome_175 (lv_at hl 1 rfl) ?_
  refine lv_iadd hx hb d_Ref_addOutcome_177 ?_
  refine tp_i (y := 0) (by first | rfl | decide) ?_
  refine lv_imul hx hb d_Ref_addOutcome_178 ?_
  refine tp_i (y := 0) (by first | rfl | decide) ?_
  refine lv_iload hx hb d_Ref_addOutcome_179 (lv_at hl 0 rfl) ?_
  refine lv_iadd hx hb d_Ref_addOutcome_181 ?_
  refine tp_i (y := 1) (by first | rfl | decide) ?_
  refine lv_aload_n hx hb d_Ref_addOutcome_182 rfl (lv_at hl 5 rfl) ?_
  refine va_get (D := (dC, dI)) (ci := 8) (v := .ref h21) (C := R_Ref) (T := F_Ref) (N := 48) hx hb hw i_Ref hown hK hP 0 rfl rfl 28 (by decide) (hw _ m_927) (fun _ h9 => h9) rfl d_Ref_addOutcome_183 ?_
  refine lv_iload hx hb d_Ref_addOutcome_186 (lv_at hl 0 rfl) ?_
  refine va_iald (D := (dC, dI)) hx hb hK hP 4 3 rfl rfl (i := 1) (vp_c (by decide)) d_Ref_addOutcome_188 ?_
  refine tp_i (y := 0) (by first | rfl | decide) ?_
  refine lv_i2s (v := 0) hx hb d_Ref_addOutcome_189 (by decide) ?_
  refine va_sast (D := (dC, dI)) hx hb hK hP (dd_D hD rfl) hS 2 1 rfl rfl (i := 1) (x := 0) (vp_c (by decide)) d_Ref_addOutcome_190 ?_
  clear hP hS locs H
  intro H locs (hP : va_P (dC, dI) classes [oc h0 8 [.int p1, .int p2, .ref h1, .ref h2, .ref h3, .ref h4, .ref h5, .ref h6, .ref h7, .ref h8, .ref h9, .ref h10, .ref h11, .ref h12, .int p3, .ref h13, .ref h14, .ref h15, .ref h16, .int p4, .int p5, .ref h17, .ref h18, .ref h19, .int p6, .ref h20, .int p7, .int p8, .ref h21, .ref h22, .ref h23, .ref h24, .ref h25, .ref h26, .ref h27, .ref h28, .int p9, .int p10, .ref h29, .ref h30, .ref h31, .ref h32, .ref h33, .ref h34, .ref h35, .ref h36, .int p11, .ref h37], ia h7 k6 8 (upd (upd (fun _ => 0) 3 1) 0 1), ia h8 k7 352000 (upd (upd f7 0 0) 1 0), ia h11 k10 32000 (upd f10 0 0), ia h21 k20 11 (fun _ => 0)] H) _ hS
  refine tp_pc (pc' := 191) (by rfl) ?_
  refine lv_iinc (v := 2) (lv' := [(6, .int 2), (5, .int 0), (4, .int 0), (3, .int 0), (2, .int 0), (0, .ref h0), (1, .int 0)]) hx hb d_Ref_addOutcome_191 hl (k := 0) rfl (by first | rfl | decide) (by decide) rfl ?_
  clear hl ls
  intro ls hl
  refine lv_goto (tgt := 161) hx hb d_Ref_addOutcome_194 (by decide) ?_
  refine tp_pc (pc' := 161) (by rfl) ?_
  refine lv_iload hx hb d_Ref_addOutcome_161 (lv_at hl 0 rfl) ?_
  refine lv_bipush (v := 11) hx hb d_Ref_addOutcome_163 (by decide) ?_
  refine lv_icmp_ge (tgt := 197) hx hb d_Ref_addOutcome_165 (by decide) (fun c_7 => absurd c_7 (by decide)) (fun c_7 => ?_)
  refine tp_pc (pc' := 168) (by rfl) ?_
  refine lv_aload_n hx hb d_Ref_addOutcome_168 rfl (lv_at hl 5 rfl) ?_
  refine va_get (D := (dC, dI)) (ci := 8) (v := .ref h8) (C := R_Ref) (T := F_Ref) (N := 48) hx hb hw i_Ref hown hK hP 0 rfl rfl 9 (by decide) (hw _ m_908) (fun _ h9 => h9) rfl d_Ref_addOutcome_169 ?_
  refine lv_bipush (v := 11) hx hb d_Ref_addOutcome_172 (by decide) ?_
  refine lv_iload_n hx hb d_Ref_addOutcome_174 rfl (lv_at hl 4 rfl) ?_
  refine lv_iload hx hb d_Ref_addOutcome_175 (lv_at hl 1 rfl) ?_
  refine lv_iadd hx hb d_Ref_addOutcome_177 ?_
  refine tp_i (y := 0) (by first | rfl | decide) ?_
  refine lv_imul hx hb d_Ref_addOutcome_178 ?_
  refine tp_i (y := 0) (by first | rfl | decide) ?_
  refine lv_iload hx hb d_Ref_addOutcome_179 (lv_at hl 0 rfl) ?_
  refine lv_iadd hx hb d_Ref_addOutcome_181 ?_
  refine tp_i (y := 2) (by first | rfl | decide) ?_
  refine lv_aload_n hx hb d_Ref_addOutcome_182 rfl (lv_at hl 5 rfl) ?_
  refine va_get (D := (dC, dI)) (ci := 8) (v := .ref h21) (C := R_Ref) (T := F_Ref) (N := 48) hx hb hw i_Ref hown hK hP 0 rfl rfl 28 (by decide) (hw _ m_927) (fun _ h9 => h9) rfl d_Ref_addOutcome_183 ?_
  refine lv_iload hx hb d_Ref_addOutcome_186 (lv_at hl 0 rfl) ?_
  refine va_iald (D := (dC, dI)) hx hb hK hP 4 3 rfl rfl (i := 2) (vp_c (by decide)) d_Ref_addOutcome_188 ?_
  refine tp_i (y := 0) (by first | rfl | decide) ?_
  refine lv_i2s (v := 0) hx hb d_Ref_addOutcome_189 (by decide) ?_
  refine va_sast (D := (dC, dI)) hx hb hK hP (dd_D hD rfl) hS 2 1 rfl rfl (i := 2) (x := 0) (vp_c (by decide)) d_Ref_addOutcome_190 ?_
  clear hP hS locs H
  intro H locs (hP : va_P (dC, dI) classes [oc h0 8 [.int p1, .int p2, .ref h1, .ref h2, .ref h3, .ref h4, .ref h5, .ref h6, .ref h7, .ref h8, .ref h9, .ref h10, .ref h11, .ref h12, .int p3, .ref h13, .ref h14, .ref h15, .ref h16, .int p4, .int p5, .ref h17, .ref h18, .ref h19, .int p6, .ref h20, .int p7, .int p8, .ref h21, .ref h22, .ref h23, .ref h24, .ref h25, .ref h26, .ref h27, .ref h28, .int p9, .int p10, .ref h29, .ref h30, .ref h31, .ref h32, .ref h33, .ref h34, .ref h35, .ref h36, .int p11, .ref h37], ia h7 k6 8 (upd (upd (fun _ => 0) 3 1) 0 1), ia h8 k7 352000 (upd (upd (upd f7 0 0) 1 0) 2 0), ia h11 k10 32000 (upd f10 0 0), ia h21 k20 11 (fun _ => 0)] H) _ hS
  refine tp_pc (pc' := 191) (by rfl) ?_
  refine lv_iinc (v := 3) (lv' := [(6, .int 3), (5, .int 0), (4, .int 0), (3, .int 0), (2, .int 0), (0, .ref h0), (1, .int 0)]) hx hb d_Ref_addOutcome_191 hl (k := 0) rfl (by first | rfl | decide) (by decide) rfl ?_
  clear hl ls
  intro ls hl
  refine lv_goto (tgt := 161) hx hb d_Ref_addOutcome_194 (by decide) ?_
  refine tp_pc (pc' := 161) (by rfl) ?_
  refine lv_iload hx hb d_Ref_addOutcome_161 (lv_at hl 0 rfl) ?_
  refine lv_bipush (v := 11) hx hb d_Ref_addOutcome_163 (by decide) ?_
  refine lv_icmp_ge (tgt := 197) hx hb d_Ref_addOutcome_165 (by decide) (fun c_8 => absurd c_8 (by decide)) (fun c_8 => ?_)
  refine tp_pc (pc' := 168) (by rfl) ?_
  refine lv_aload_n hx hb d_Ref_addOutcome_168 rfl (lv_at hl 5 rfl) ?_
  refine va_get (D := (dC, dI)) (ci := 8) (v := .ref h8) (C := R_Ref) (T := F_Ref) (N := 48) hx hb hw i_Ref hown hK hP 0 rfl rfl 9 (by decide) (hw _ m_908) (fun _ h9 => h9) rfl d_Ref_addOutcome_169 ?_
  refine lv_bipush (v := 11) hx hb d_Ref_addOutcome_172 (by decide) ?_
  refine lv_iload_n hx hb d_Ref_addOutcome_174 rfl (lv_at hl 4 rfl) ?_
  refine lv_iload hx hb d_Ref_addOutcome_175 (lv_at hl 1 rfl) ?_
  refine lv_iadd hx hb d_Ref_addOutcome_177 ?_
  refine tp_i (y := 0) (by first | rfl | decide) ?_
  refine lv_imul hx hb d_Ref_addOutcome_178 ?_
  refine tp_i (y := 0) (by first | rfl | decide) ?_
  refine lv_iload hx hb d_Ref_addOutcome_179 (lv_at hl 0 rfl) ?_
  refine lv_iadd hx hb d_Ref_addOutcome_181 ?_
  refine tp_i (y := 3) (by first | rfl | decide) ?_
  refine lv_aload_n hx hb d_Ref_addOutcome_182 rfl (lv_at hl 5 rfl) ?_
  refine va_get (D := (dC, dI)) (ci := 8) (v := .ref h21) (C := R_Ref) (T := F_Ref) (N := 48) hx hb hw i_Ref hown hK hP 0 rfl rfl 28 (by decide) (hw _ m_927) (fun _ h9 => h9) rfl d_Ref_addOutcome_183 ?_
  refine lv_iload hx hb d_Ref_addOutcome_186 (lv_at hl 0 rfl) ?_
  refine va_iald (D := (dC, dI)) hx hb hK hP 4 3 rfl rfl (i := 3) (vp_c (by decide)) d_Ref_addOutcome_188 ?_
  refine tp_i (y := 0) (by first | rfl | decide) ?_
  refine lv_i2s (v := 0) hx hb d_Ref_addOutcome_189 (by decide) ?_
  refine va_sast (D := (dC, dI)) hx hb hK hP (dd_D hD rfl) hS 2 1 rfl rfl (i := 3) (x := 0) (vp_c (by decide)) d_Ref_addOutcome_190 ?_
  clear hP hS locs H
  intro H locs (hP : va_P (dC, dI) classes [oc h0 8 [.int p1, .int p2, .ref h1, .ref h2, .ref h3, .ref h4, .ref h5, .ref h6, .ref h7, .ref h8, .ref h9, .ref h10, .ref h11, .ref h12, .int p3, .ref h13, .ref h14, .ref h15, .ref h16, .int p4, .int p5, .ref h17, .ref h18, .ref h19, .int p6, .ref h20, .int p7, .int p8, .ref h21, .ref h22, .ref h23, .ref h24, .ref h25, .ref h26, .ref h27, .ref h28, .int p9, .int p10, .ref h29, .ref h30, .ref h31, .ref h32, .ref h33, .ref h34, .ref h35, .ref h36, .int p11, .ref h37], ia h7 k6 8 (upd (upd (fun _ => 0) 3 1) 0 1), ia h8 k7 352000 (upd (upd (upd (upd f7 0 0) 1 0) 2 0) 3 0), ia h11 k10 32000 (upd f10 0 0), ia h21 k20 11 (fun _ => 0)] H) _ hS
  refine tp_pc (pc' := 191) (by rfl) ?_
  refine lv_iinc (v := 4) (lv' := [(6, .int 4), (5, .int 0), (4, .int 0), (3, .int 0), (2, .int 0), (0, .ref h0), (1, .int 0)]) hx hb d_Ref_addOutcome_191 hl (k := 0) rfl (by first | rfl | decide) (by decide) rfl ?_
  clear hl ls
  intro ls hl
  refine lv_goto (tgt := 161) hx hb d_Ref_addOutcome_194 (by decide) ?_
  refine tp_pc (pc' := 161) (by rfl) ?_
  refine lv_iload hx hb d_Ref_addOutcome_161 (lv_at hl 0 rfl) ?_
  refine lv_bipush (v := 11) hx hb d_Ref_addOutcome_163 (by decide) ?_
  refine lv_icmp_ge (tgt := 197) hx hb d_Ref_addOutcome_165 (by decide) (fun c_9 => absurd c_9 (by decide)) (fun c_9 => ?_)
  refine tp_pc (pc' := 168) (by rfl) ?_
  refine lv_aload_n hx hb d_Ref_addOutcome_168 rfl (lv_at hl 5 rfl) ?_
  refine va_get (D := (dC, dI)) (ci := 8) (v := .ref h8) (C := R_Ref) (T := F_Ref) (N := 48) hx hb hw i_Ref hown hK hP 0 rfl rfl 9 (by decide) (hw _ m_908) (fun _ h9 => h9) rfl d_Ref_addOutcome_169 ?_
  refine lv_bipush (v := 11) hx hb d_Ref_addOutcome_172 (by decide) ?_
  refine lv_iload_n hx hb d_Ref_addOutcome_174 rfl (lv_at hl 4 rfl) ?_
  refine lv_iload hx hb d_Ref_addOutcome_175 (lv_at hl 1 rfl) ?_
  refine lv_iadd hx hb d_Ref_addOutcome_177 ?_
  refine tp_i (y := 0) (by first | rfl | decide) ?_
  refine lv_imul hx hb d_Ref_addOutcome_178 ?_
  refine tp_i (y := 0) (by first | rfl | decide) ?_
  refine lv_iload hx hb d_Ref_addOutcome_179 (lv_at hl 0 rfl) ?_
  refine lv_iadd hx hb d_Ref_addOutcome_181 ?_
  refine tp_i (y := 4) (by first | rfl | decide) ?_
  refine lv_aload_n hx hb d_Ref_addOutcome_182 rfl (lv_at hl 5 rfl) ?_
  refine va_get (D := (dC, dI)) (ci := 8) (v := .ref h21) (C := R_Ref) (T := F_Ref) (N := 48) hx hb hw i_Ref hown hK hP 0 rfl rfl 28 (by decide) (hw _ m_927) (fun _ h9 => h9) rfl d_Ref_addOutcome_183 ?_
  refine lv_iload hx hb d_Ref_addOutcome_186 (lv_at hl 0 rfl) ?_
  refine va_iald (D := (dC, dI)) hx hb hK hP 4 3 rfl rfl (i := 4) (vp_c (by decide)) d_Ref_addOutcome_188 ?_
  refine tp_i (y := 0) (by first | rfl | decide) ?_
  refine lv_i2s (v := 0) hx hb d_Ref_addOutcome_189 (by decide) ?_
  refine va_sast (D := (dC, dI)) hx hb hK hP (dd_D hD rfl) hS 2 1 rfl rfl (i := 4) (x := 0) (vp_c (by decide)) d_Ref_addOutcome_190 ?_
  clear hP hS locs H
  intro H locs (hP : va_P (dC, dI) classes [oc h0 8 [.int p1, .int p2, .ref h1, .ref h2, .ref h3, .ref h4, .ref h5, .ref h6, .ref h7, .ref h8, .ref h9, .ref h10, .ref h11, .ref h12, .int p3, .ref h13, .ref h14, .ref h15, .ref h16, .int p4, .int p5, .ref h17, .ref h18, .ref h19, .int p6, .ref h20, .int p7, .int p8, .ref h21, .ref h22, .ref h23, .ref h24, .ref h25, .ref h26, .ref h27, .ref h28, .int p9, .int p10, .ref h29, .ref h30, .ref h31, .ref h32, .ref h33, .ref h34, .ref h35, .ref h36, .int p11, .ref h37], ia h7 k6 8 (upd (upd (fun _ => 0) 3 1) 0 1), ia h8 k7 352000 (upd (upd (upd (upd (upd f7 0 0) 1 0) 2 0) 3 0) 4 0), ia h11 k10 32000 (upd f10 0 0), ia h21 k20 11 (fun _ => 0)] H) _ hS
  refine tp_pc (pc' := 191) (by rfl) ?_
  refine lv_iinc (v := 5) (lv' := [(6, .int 5), (5, .int 0), (4, .int 0), (3, .int 0), (2, .int 0), (0, .ref h0), (1, .int 0)]) hx hb d_Ref_addOutcome_191 hl (k := 0) rfl (by first | rfl | decide) (by decide) rfl ?_
  clear hl ls
  intro ls hl
  refine lv_goto (tgt := 161) hx hb d_Ref_addOutcome_194 (by decide) ?_
  refine tp_pc (pc' := 161) (by rfl) ?_
  refine lv_iload hx hb d_Ref_addOutcome_161 (lv_at hl 0 rfl) ?_
  refine lv_bipush (v := 11) hx hb d_Ref_addOutcome_163 (by decide) ?_
  refine lv_icmp_ge (tgt := 197) hx hb d_Ref_addOutcome_165 (by decide) (fun c_10 => absurd c_10 (by decide)) (fun c_10 => ?_)
  refine tp_pc (pc' := 168) (by rfl) ?_
  refine lv_aload_n hx hb d_Ref_addOutcome_168 rfl (lv_at hl 5 rfl) ?_
  refine va_get (D := (dC, dI)) (ci := 8) (v := .ref h8) (C := R_Ref) (T := F_Ref) (N := 48) hx hb hw i_Ref hown hK hP 0 rfl rfl 9 (by decide) (hw _ m_908) (fun _ h9 => h9) rfl d_Ref_addOutcome_169 ?_
  refine lv_bipush (v := 11) hx hb d_Ref_addOutcome_172 (by decide) ?_
  refine lv_iload_n hx hb d_Ref_addOutcome_174 rfl (lv_at hl 4 rfl) ?_
  refine lv_iload hx hb d_Ref_addOutcome_175 (lv_at hl 1 rfl) ?_
  refine lv_iadd hx hb d_Ref_addOutcome_177 ?_
  refine tp_i (y := 0) (by first | rfl | decide) ?_
  refine lv_imul hx hb d_Ref_addOutcome_178 ?_
  refine tp_i (y := 0) (by first | rfl | decide) ?_
  refine lv_iload hx hb d_Ref_addOutcome_179 (lv_at hl 0 rfl) ?_
  refine lv_iadd hx hb d_Ref_addOutcome_181 ?_
  refine tp_i (y := 5) (by first | rfl | decide) ?_
  refine lv_aload_n hx hb d_Ref_addOutcome_182 rfl (lv_at hl 5 rfl) ?_
  refine va_get (D := (dC, dI)) (ci := 8) (v := .ref h21) (C := R_Ref) (T := F_Ref) (N := 48) hx hb hw i_Ref hown hK hP 0 rfl rfl 28 (by decide) (hw _ m_927) (fun _ h9 => h9) rfl d_Ref_addOutcome_183 ?_
  refine lv_iload hx hb d_Ref_addOutcome_186 (lv_at hl 0 rfl) ?_
  refine va_iald (D := (dC, dI)) hx hb hK hP 4 3 rfl rfl (i := 5) (vp_c (by decide)) d_Ref_addOutcome_188 ?_
  refine tp_i (y := 0) (by first | rfl | decide) ?_
  refine lv_i2s (v := 0) hx hb d_Ref_addOutcome_189 (by decide) ?_
  refine va_sast (D := (dC, dI)) hx hb hK hP (dd_D hD rfl) hS 2 1 rfl rfl (i := 5) (x := 0) (vp_c (by decide)) d_Ref_addOutcome_190 ?_
  clear hP hS locs H
  intro H locs (hP : va_P (dC, dI) classes [oc h0 8 [.int p1, .int p2, .ref h1, .ref h2, .ref h3, .ref h4, .ref h5, .ref h6, .ref h7, .ref h8, .ref h9, .ref h10, .ref h11, .ref h12, .int p3, .ref h13, .ref h14, .ref h15, .ref h16, .int p4, .int p5, .ref h17, .ref h18, .ref h19, .int p6, .ref h20, .int p7, .int p8, .ref h21, .ref h22, .ref h23, .ref h24, .ref h25, .ref h26, .ref h27, .ref h28, .int p9, .int p10, .ref h29, .ref h30, .ref h31, .ref h32, .ref h33, .ref h34, .ref h35, .ref h36, .int p11, .ref h37], ia h7 k6 8 (upd (upd (fun _ => 0) 3 1) 0 1), ia h8 k7 352000 (upd (upd (upd (upd (upd (upd f7 0 0) 1 0) 2 0) 3 0) 4 0) 5 0), ia h11 k10 32000 (upd f10 0 0), ia h21 k20 11 (fun _ => 0)] H) _ hS
  refine tp_pc (pc' := 191) (by rfl) ?_
  refine lv_iinc (v := 6) (lv' := [(6, .int 6), (5, .int 0), (4, .int 0), (3, .int 0), (2, .int 0), (0, .ref h0), (1, .int 0)]) hx hb d_Ref_addOutcome_191 hl (k := 0) rfl (by first | rfl | decide) (by decide) rfl ?_
  clear hl ls
  intro ls hl
  refine lv_goto (tgt := 161) hx hb d_Ref_addOutcome_194 (by decide) ?_
  refine tp_pc (pc' := 161) (by rfl) ?_
  refine lv_iload hx hb d_Ref_addOutcome_161 (lv_at hl 0 rfl) ?_
  refine lv_bipush (v := 11) hx hb d_Ref_addOutcome_163 (by decide) ?_
  refine lv_icmp_ge (tgt := 197) hx hb d_Ref_addOutcome_165 (by decide) (fun c_11 => absurd c_11 (by decide)) (fun c_11 => ?_)
  refine tp_pc (pc' := 168) (by rfl) ?_
  refine lv_aload_n hx hb d_Ref_addOutcome_168 rfl (lv_at hl 5 rfl) ?_
  refine va_get (D := (dC, dI)) (ci := 8) (v := .ref h8) (C := R_Ref) (T := F_Ref) (N := 48) hx hb hw i_Ref hown hK hP 0 rfl rfl 9 (by decide) (hw _ m_908) (fun _ h9 => h9) rfl d_Ref_addOutcome_169 ?_
  refine lv_bipush (v := 11) hx hb d_Ref_addOutcome_172 (by decide) ?_
  refine lv_iload_n hx hb d_Ref_addOutcome_174 rfl (lv_at hl 4 rfl) ?_
  refine lv_iload hx hb d_Ref_addOutcome_175 (lv_at hl 1 rfl) ?_
  refine lv_iadd hx hb d_Ref_addOutcome_177 ?_
  refine tp_i (y := 0) (by first | rfl | decide) ?_
  refine lv_imul hx hb d_Ref_addOutcome_178 ?_
  refine tp_i (y := 0) (by first | rfl | decide) ?_
  refine lv_iload hx hb d_Ref_addOutcome_179 (lv_at hl 0 rfl) ?_
  refine lv_iadd hx hb d_Ref_addOutcome_181 ?_
  refine tp_i (y := 6) (by first | rfl | decide) ?_
  refine lv_aload_n hx hb d_Ref_addOutcome_182 rfl (lv_at hl 5 rfl) ?_
  refine va_get (D := (dC, dI)) (ci := 8) (v := .ref h21) (C := R_Ref) (T := F_Ref) (N := 48) hx hb hw i_Ref hown hK hP 0 rfl rfl 28 (by decide) (hw _ m_927) (fun _ h9 => h9) rfl d_Ref_addOutcome_183 ?_
  refine lv_iload hx hb d_Ref_addOutcome_186 (lv_at hl 0 rfl) ?_
  refine va_iald (D := (dC, dI)) hx hb hK hP 4 3 rfl rfl (i := 6) (vp_c (by decide)) d_Ref_addOutcome_188 ?_
  refine tp_i (y := 0) (by first | rfl | decide) ?_
  refine lv_i2s (v := 0) hx hb d_Ref_addOutcome_189 (by decide) ?_
  refine va_sast (D := (dC, dI)) hx hb hK hP (dd_D hD rfl) hS 2 1 rfl rfl (i := 6) (x := 0) (vp_c (by decide)) d_Ref_addOutcome_190 ?_
  clear hP hS locs H
  intro H locs (hP : va_P (dC, dI) classes [oc h0 8 [.int p1, .int p2, .ref h1, .ref h2, .ref h3, .ref h4, .ref h5, .ref h6, .ref h7, .ref h8, .ref h9, .ref h10, .ref h11, .ref h12, .int p3, .ref h13, .ref h14, .ref h15, .ref h16, .int p4, .int p5, .ref h17, .ref h18, .ref h19, .int p6, .ref h20, .int p7, .int p8, .ref h21, .ref h22, .ref h23, .ref h24, .ref h25, .ref h26, .ref h27, .ref h28, .int p9, .int p10, .ref h29, .ref h30, .ref h31, .ref h32, .ref h33, .ref h34, .ref h35, .ref h36, .int p11, .ref h37], ia h7 k6 8 (upd (upd (fun _ => 0) 3 1) 0 1), ia h8 k7 352000 (upd (upd (upd (upd (upd (upd (upd f7 0 0) 1 0) 2 0) 3 0) 4 0) 5 0) 6 0), ia h11 k10 32000 (upd f10 0 0), ia h21 k20 11 (fun _ => 0)] H) _ hS
  refine tp_pc (pc' := 191) (by rfl) ?_
  refine lv_iinc (v := 7) (lv' := [(6, .int 7), (5, .int 0), (4, .int 0), (3, .int 0), (2, .int 0), (0, .ref h0), (1, .int 0)]) hx hb d_Ref_addOutcome_191 hl (k := 0) rfl (by first | rfl | decide) (by decide) rfl ?_
  clear hl ls
  intro ls hl
  refine lv_goto (tgt := 161) hx hb d_Ref_addOutcome_194 (by decide) ?_
  refine tp_pc (pc' := 161) (by rfl) ?_
  refine lv_iload hx hb d_Ref_addOutcome_161 (lv_at hl 0 rfl) ?_
  refine lv_bipush (v := 11) hx hb d_Ref_addOutcome_163 (by decide) ?_
  refine lv_icmp_ge (tgt := 197) hx hb d_Ref_addOutcome_165 (by decide) (fun c_12 => absurd c_12 (by decide)) (fun c_12 => ?_)
  refine tp_pc (pc' := 168) (by rfl) ?_
  refine lv_aload_n hx hb d_Ref_addOutcome_168 rfl (lv_at hl 5 rfl) ?_
  refine va_get (D := (dC, dI)) (ci := 8) (v := .ref h8) (C := R_Ref) (T := F_Ref) (N := 48) hx hb hw i_Ref hown hK hP 0 rfl rfl 9 (by decide) (hw _ m_908) (fun _ h9 => h9) rfl d_Ref_addOutcome_169 ?_
  refine lv_bipush (v := 11) hx hb d_Ref_addOutcome_172 (by decide) ?_
  refine lv_iload_n hx hb d_Ref_addOutcome_174 rfl (lv_at hl 4 rfl) ?_
  refine lv_iload hx hb d_Ref_addOutcome_175 (lv_at hl 1 rfl) ?_
  refine lv_iadd hx hb d_Ref_addOutcome_177 ?_
  refine tp_i (y := 0) (by first | rfl | decide) ?_
  refine lv_imul hx hb d_Ref_addOutcome_178 ?_
  refine tp_i (y := 0) (by first | rfl | decide) ?_
  refine lv_iload hx hb d_Ref_addOutcome_179 (lv_at hl 0 rfl) ?_
  refine lv_iadd hx hb d_Ref_addOutcome_181 ?_
  refine tp_i (y := 7) (by first | rfl | decide) ?_
  refine lv_aload_n hx hb d_Ref_addOutcome_182 rfl (lv_at hl 5 rfl) ?_
  refine va_get (D := (dC, dI)) (ci := 8) (v := .ref h21) (C := R_Ref) (T := F_Ref) (N := 48) hx hb hw i_Ref hown hK hP 0 rfl rfl 28 (by decide) (hw _ m_927) (fun _ h9 => h9) rfl d_Ref_addOutcome_183 ?_
  refine lv_iload hx hb d_Ref_addOutcome_186 (lv_at hl 0 rfl) ?_
  refine va_iald (D := (dC, dI)) hx hb hK hP 4 3 rfl rfl (i := 7) (vp_c (by decide)) d_Ref_addOutcome_188 ?_
  refine tp_i (y := 0) (by first | rfl | decide) ?_
  refine lv_i2s (v := 0) hx hb d_Ref_addOutcome_189 (by decide) ?_
  refine va_sast (D := (dC, dI)) hx hb hK hP (dd_D hD rfl) hS 2 1 rfl rfl (i := 7) (x := 0) (vp_c (by decide)) d_Ref_addOutcome_190 ?_
  clear hP hS locs H
  intro H locs (hP : va_P (dC, dI) classes [oc h0 8 [.int p1, .int p2, .ref h1, .ref h2, .ref h3, .ref h4, .ref h5, .ref h6, .ref h7, .ref h8, .ref h9, .ref h10, .ref h11, .ref h12, .int p3, .ref h13, .ref h14, .ref h15, .ref h16, .int p4, .int p5, .ref h17, .ref h18, .ref h19, .int p6, .ref h20, .int p7, .int p8, .ref h21, .ref h22, .ref h23, .ref h24, .ref h25, .ref h26, .ref h27, .ref h28, .int p9, .int p10, .ref h29, .ref h30, .ref h31, .ref h32, .ref h33, .ref h34, .ref h35, .ref h36, .int p11, .ref h37], ia h7 k6 8 (upd (upd (fun _ => 0) 3 1) 0 1), ia h8 k7 352000 (upd (upd (upd (upd (upd (upd (upd (upd f7 0 0) 1 0) 2 0) 3 0) 4 0) 5 0) 6 0) 7 0), ia h11 k10 32000 (upd f10 0 0), ia h21 k20 11 (fun _ => 0)] H) _ hS
  refine tp_pc (pc' := 191) (by rfl) ?_
  refine lv_iinc (v := 8) (lv' := [(6, .int 8), (5, .int 0), (4, .int 0), (3, .int 0), (2, .int 0), (0, .ref h0), (1, .int 0)]) hx hb d_Ref_addOutcome_191 hl (k := 0) rfl (by first | rfl | decide) (by decide) rfl ?_
  clear hl ls
  intro ls hl
  refine lv_goto (tgt := 161) hx hb d_Ref_addOutcome_194 (by decide) ?_
  refine tp_pc (pc' := 161) (by rfl) ?_
  refine lv_iload hx hb d_Ref_addOutcome_161 (lv_at hl 0 rfl) ?_
  refine lv_bipush (v := 11) hx hb d_Ref_addOutcome_163 (by decide) ?_
  refine lv_icmp_ge (tgt := 197) hx hb d_Ref_addOutcome_165 (by decide) (fun c_13 => absurd c_13 (by decide)) (fun c_13 => ?_)
  refine tp_pc (pc' := 168) (by rfl) ?_
  refine lv_aload_n hx hb d_Ref_addOutcome_168 rfl (lv_at hl 5 rfl) ?_
  refine va_get (D := (dC, dI)) (ci := 8) (v := .ref h8) (C := R_Ref) (T := F_Ref) (N := 48) hx hb hw i_Ref hown hK hP 0 rfl rfl 9 (by decide) (hw _ m_908) (fun _ h9 => h9) rfl d_Ref_addOutcome_169 ?_
  refine lv_bipush (v := 11) hx hb d_Ref_addOutcome_172 (by decide) ?_
  refine lv_iload_n hx hb d_Ref_addOutcome_174 rfl (lv_at hl 4 rfl) ?_
  refine lv_iload hx hb d_Ref_addOutcome_175 (lv_at hl 1 rfl) ?_
  refine lv_iadd hx hb d_Ref_addOutcome_177 ?_
  refine tp_i (y := 0) (by first | rfl | decide) ?_
  refine lv_imul hx hb d_Ref_addOutcome_178 ?_
  refine tp_i (y := 0) (by first | rfl | decide) ?_
  refine lv_iload hx hb d_Ref_addOutcome_179 (lv_at hl 0 rfl) ?_
  refine lv_iadd hx hb d_Ref_addOutcome_181 ?_
  refine tp_i (y := 8) (by first | rfl | decide) ?_
  refine lv_aload_n hx hb d_Ref_addOutcome_182 rfl (lv_at hl 5 rfl) ?_
  refine va_get (D := (dC, dI)) (ci := 8) (v := .ref h21) (C := R_Ref) (T := F_Ref) (N := 48) hx hb hw i_Ref hown hK hP 0 rfl rfl 28 (by decide) (hw _ m_927) (fun _ h9 => h9) rfl d_Ref_addOutcome_183 ?_
  refine lv_iload hx hb d_Ref_addOutcome_186 (lv_at hl 0 rfl) ?_
  refine va_iald (D := (dC, dI)) hx hb hK hP 4 3 rfl rfl (i := 8) (vp_c (by decide)) d_Ref_addOutcome_188 ?_
  refine tp_i (y := 0) (by first | rfl | decide) ?_
  refine lv_i2s (v := 0) hx hb d_Ref_addOutcome_189 (by decide) ?_
  refine va_sast (D := (dC, dI)) hx hb hK hP (dd_D hD rfl) hS 2 1 rfl rfl (i := 8) (x := 0) (vp_c (by decide)) d_Ref_addOutcome_190 ?_
  clear hP hS locs H
  intro H locs (hP : va_P (dC, dI) classes [oc h0 8 [.int p1, .int p2, .ref h1, .ref h2, .ref h3, .ref h4, .ref h5, .ref h6, .ref h7, .ref h8, .ref h9, .ref h10, .ref h11, .ref h12, .int p3, .ref h13, .ref h14, .ref h15, .ref h16, .int p4, .int p5, .ref h17, .ref h18, .ref h19, .int p6, .ref h20, .int p7, .int p8, .ref h21, .ref h22, .ref h23, .ref h24, .ref h25, .ref h26, .ref h27, .ref h28, .int p9, .int p10, .ref h29, .ref h30, .ref h31, .ref h32, .ref h33, .ref h34, .ref h35, .ref h36, .int p11, .ref h37], ia h7 k6 8 (upd (upd (fun _ => 0) 3 1) 0 1), ia h8 k7 352000 (upd (upd (upd (upd (upd (upd (upd (upd (upd f7 0 0) 1 0) 2 0) 3 0) 4 0) 5 0) 6 0) 7 0) 8 0), ia h11 k10 32000 (upd f10 0 0), ia h21 k20 11 (fun _ => 0)] H) _ hS
  refine tp_pc (pc' := 191) (by rfl) ?_
  refine lv_iinc (v := 9) (lv' := [(6, .int 9), (5, .int 0), (4, .int 0), (3, .int 0), (2, .int 0), (0, .ref h0), (1, .int 0)]) hx hb d_Ref_addOutcome_191 hl (k := 0) rfl (by first | rfl | decide) (by decide) rfl ?_
  clear hl ls
  intro ls hl
  refine lv_goto (tgt := 161) hx hb d_Ref_addOutcome_194 (by decide) ?_
  refine tp_pc (pc' := 161) (by rfl) ?_
  refine lv_iload hx hb d_Ref_addOutcome_161 (lv_at hl 0 rfl) ?_
  refine lv_bipush (v := 11) hx hb d_Ref_addOutcome_163 (by decide) ?_
  refine lv_icmp_ge (tgt := 197) hx hb d_Ref_addOutcome_165 (by decide) (fun c_14 => absurd c_14 (by decide)) (fun c_14 => ?_)
  refine tp_pc (pc' := 168) (by rfl) ?_
  refine lv_aload_n hx hb d_Ref_addOutcome_168 rfl (lv_at hl 5 rfl) ?_
  refine va_get (D := (dC, dI)) (ci := 8) (v := .ref h8) (C := R_Ref) (T := F_Ref) (N := 48) hx hb hw i_Ref hown hK hP 0 rfl rfl 9 (by decide) (hw _ m_908) (fun _ h9 => h9) rfl d_Ref_addOutcome_169 ?_
  refine lv_bipush (v := 11) hx hb d_Ref_addOutcome_172 (by decide) ?_
  refine lv_iload_n hx hb d_Ref_addOutcome_174 rfl (lv_at hl 4 rfl) ?_
  refine lv_iload hx hb d_Ref_addOutcome_175 (lv_at hl 1 rfl) ?_
  refine lv_iadd hx hb d_Ref_addOutcome_177 ?_
  refine tp_i (y := 0) (by first | rfl | decide) ?_
  refine lv_imul hx hb d_Ref_addOutcome_178 ?_
  refine tp_i (y := 0) (by first | rfl | decide) ?_
  refine lv_iload hx hb d_Ref_addOutcome_179 (lv_at hl 0 rfl) ?_
  refine lv_iadd hx hb d_Ref_addOutcome_181 ?_
  refine tp_i (y := 9) (by first | rfl | decide) ?_
  refine lv_aload_n hx hb d_Ref_addOutcome_182 rfl (lv_at hl 5 rfl) ?_
  refine va_get (D := (dC, dI)) (ci := 8) (v := .ref h21) (C := R_Ref) (T := F_Ref) (N := 48) hx hb hw i_Ref hown hK hP 0 rfl rfl 28 (by decide) (hw _ m_927) (fun _ h9 => h9) rfl d_Ref_addOutcome_183 ?_
  refine lv_iload hx hb d_Ref_addOutcome_186 (lv_at hl 0 rfl) ?_
  refine va_iald (D := (dC, dI)) hx hb hK hP 4 3 rfl rfl (i := 9) (vp_c (by decide)) d_Ref_addOutcome_188 ?_
  refine tp_i (y := 0) (by first | rfl | decide) ?_
  refine lv_i2s (v := 0) hx hb d_Ref_addOutcome_189 (by decide) ?_
  refine va_sast (D := (dC, dI)) hx hb hK hP (dd_D hD rfl) hS 2 1 rfl rfl (i := 9) (x := 0) (vp_c (by decide)) d_Ref_addOutcome_190 ?_
  clear hP hS locs H
  intro H locs (hP : va_P (dC, dI) classes [oc h0 8 [.int p1, .int p2, .ref h1, .ref h2, .ref h3, .ref h4, .ref h5, .ref h6, .ref h7, .ref h8, .ref h9, .ref h10, .ref h11, .ref h12, .int p3, .ref h13, .ref h14, .ref h15, .ref h16, .int p4, .int p5, .ref h17, .ref h18, .ref h19, .int p6, .ref h20, .int p7, .int p8, .ref h21, .ref h22, .ref h23, .ref h24, .ref h25, .ref h26, .ref h27, .ref h28, .int p9, .int p10, .ref h29, .ref h30, .ref h31, .ref h32, .ref h33, .ref h34, .ref h35, .ref h36, .int p11, .ref h37], ia h7 k6 8 (upd (upd (fun _ => 0) 3 1) 0 1), ia h8 k7 352000 (upd (upd (upd (upd (upd (upd (upd (upd (upd (upd f7 0 0) 1 0) 2 0) 3 0) 4 0) 5 0) 6 0) 7 0) 8 0) 9 0), ia h11 k10 32000 (upd f10 0 0), ia h21 k20 11 (fun _ => 0)] H) _ hS
  refine tp_pc (pc' := 191) (by rfl) ?_
  refine lv_iinc (v := 10) (lv' := [(6, .int 10), (5, .int 0), (4, .int 0), (3, .int 0), (2, .int 0), (0, .ref h0), (1, .int 0)]) hx hb d_Ref_addOutcome_191 hl (k := 0) rfl (by first | rfl | decide) (by decide) rfl ?_
  clear hl ls
  intro ls hl
  refine lv_goto (tgt := 161) hx hb d_Ref_addOutcome_194 (by decide) ?_
  refine tp_pc (pc' := 161) (by rfl) ?_
  refine lv_iload hx hb d_Ref_addOutcome_161 (lv_at hl 0 rfl) ?_
  refine lv_bipush (v := 11) hx hb d_Ref_addOutcome_163 (by decide) ?_
  refine lv_icmp_ge (tgt := 197) hx hb d_Ref_addOutcome_165 (by decide) (fun c_15 => absurd c_15 (by decide)) (fun c_15 => ?_)
  refine tp_pc (pc' := 168) (by rfl) ?_
  refine lv_aload_n hx hb d_Ref_addOutcome_168 rfl (lv_at hl 5 rfl) ?_
  refine va_get (D := (dC, dI)) (ci := 8) (v := .ref h8) (C := R_Ref) (T := F_Ref) (N := 48) hx hb hw i_Ref hown hK hP 0 rfl rfl 9 (by decide) (hw _ m_908) (fun _ h9 => h9) rfl d_Ref_addOutcome_169 ?_
  refine lv_bipush (v := 11) hx hb d_Ref_addOutcome_172 (by decide) ?_
  refine lv_iload_n hx hb d_Ref_addOutcome_174 rfl (lv_at hl 4 rfl) ?_
  refine lv_iload hx hb d_Ref_addOutcome_175 (lv_at hl 1 rfl) ?_
  refine lv_iadd hx hb d_Ref_addOutcome_177 ?_
  refine tp_i (y := 0) (by first | rfl | decide) ?_
  refine lv_imul hx hb d_Ref_addOutcome_178 ?_
  refine tp_i (y := 0) (by first | rfl | decide) ?_
  refine lv_iload hx hb d_Ref_addOutcome_179 (lv_at hl 0 rfl) ?_
  refine lv_iadd hx hb d_Ref_addOutcome_181 ?_
  refine tp_i (y := 10) (by first | rfl | decide) ?_
  refine lv_aload_n hx hb d_Ref_addOutcome_182 rfl (lv_at hl 5 rfl) ?_
  refine va_get (D := (dC, dI)) (ci := 8) (v := .ref h21) (C := R_Ref) (T := F_Ref) (N := 48) hx hb hw i_Ref hown hK hP 0 rfl rfl 28 (by decide) (hw _ m_927) (fun _ h9 => h9) rfl d_Ref_addOutcome_183 ?_
  refine lv_iload hx hb d_Ref_addOutcome_186 (lv_at hl 0 rfl) ?_
  refine va_iald (D := (dC, dI)) hx hb hK hP 4 3 rfl rfl (i := 10) (vp_c (by decide)) d_Ref_addOutcome_188 ?_
  refine tp_i (y := 0) (by first | rfl | decide) ?_
  refine lv_i2s (v := 0) hx hb d_Ref_addOutcome_189 (by decide) ?_
  refine va_sast (D := (dC, dI)) hx hb hK hP (dd_D hD rfl) hS 2 1 rfl rfl (i := 10) (x := 0) (vp_c (by decide)) d_Ref_addOutcome_190 ?_
  clear hP hS locs H
  intro H locs (hP : va_P (dC, dI) classes [oc h0 8 [.int p1, .int p2, .ref h1, .ref h2, .ref h3, .ref h4, .ref h5, .ref h6, .ref h7, .ref h8, .ref h9, .ref h10, .ref h11, .ref h12, .int p3, .ref h13, .ref h14, .ref h15, .ref h16, .int p4, .int p5, .ref h17, .ref h18, .ref h19, .int p6, .ref h20, .int p7, .int p8, .ref h21, .ref h22, .ref h23, .ref h24, .ref h25, .ref h26, .ref h27, .ref h28, .int p9, .int p10, .ref h29, .ref h30, .ref h31, .ref h32, .ref h33, .ref h34, .ref h35, .ref h36, .int p11, .ref h37], ia h7 k6 8 (upd (upd (fun _ => 0) 3 1) 0 1), ia h8 k7 352000 (upd (upd (upd (upd (upd (upd (upd (upd (upd (upd (upd f7 0 0) 1 0) 2 0) 3 0) 4 0) 5 0) 6 0) 7 0) 8 0) 9 0) 10 0), ia h11 k10 32000 (upd f10 0 0), ia h21 k20 11 (fun _ => 0)] H) _ hS
  refine tp_pc (pc' := 191) (by rfl) ?_
  refine lv_iinc (v := 11) (lv' := [(6, .int 11), (5, .int 0), (4, .int 0), (3, .int 0), (2, .int 0), (0, .ref h0), (1, .int 0)]) hx hb d_Ref_addOutcome_191 hl (k := 0) rfl (by first | rfl | decide) (by decide) rfl ?_
  clear hl ls
  intro ls hl
  refine lv_goto (tgt := 161) hx hb d_Ref_addOutcome_194 (by decide) ?_
  refine tp_pc (pc' := 161) (by rfl) ?_
  refine lv_iload hx hb d_Ref_addOutcome_161 (lv_at hl 0 rfl) ?_
  refine lv_bipush (v := 11) hx hb d_Ref_addOutcome_163 (by decide) ?_
  refine lv_icmp_ge (tgt := 197) hx hb d_Ref_addOutcome_165 (by decide) (fun c_16 => ?_) (fun c_16 => absurd c_16 (by decide))
  refine tp_pc (pc' := 197) (by rfl) ?_
  refine lv_iload hx hb d_Ref_addOutcome_197 (lv_at hl 1 rfl) ?_
  obtain ⟨hP9, hD9, -⟩ := cut3 (wc := [oc h0 8 [.int p1, .int p2, .ref h1, .ref h2, .ref h3, .ref h4, .ref h5, .ref h6, .ref h7, .ref h8, .ref h9, .ref h10, .ref h11, .ref h12, .int p3, .ref h13, .ref h14, .ref h15, .ref h16, .int p4, .int p5, .ref h17, .ref h18, .ref h19, .int p6, .ref h20, .int p7, .int p8, .ref h21, .ref h22, .ref h23, .ref h24, .ref h25, .ref h26, .ref h27, .ref h28, .int p9, .int p10, .ref h29, .ref h30, .ref h31, .ref h32, .ref h33, .ref h34, .ref h35, .ref h36, .int p11, .ref h37], ia h7 k6 8 (upd (upd (fun _ => 0) 3 1) 0 1), ia h8 k7 352000 (upd (upd (upd (upd (upd (upd (upd (upd (upd (upd (upd f7 0 0) 1 0) 2 0) 3 0) 4 0) 5 0) 6 0) 7 0) 8 0) 9 0) 10 0), ia h11 k10 32000 (upd f10 0 0), ia h21 k20 11 (fun _ => 0)]) hP hD rfl hS hA [0, 1, 2, 3, 4] (by decide +kernel) rfl
  have hK9 := hK.sub (tys' := []) [] rfl
  refine W.widen (k := 0) (n := 0) (by exact Nat.le_of_ble_eq_true rfl) (by exact Nat.le_of_ble_eq_true rfl) ?_
  exact W.iret (v := 0) hx hb hr (fun t ht hW => ⟨⟨0, (), rfl, rfl, by rw [ht]; exact hP9, va_K.moved hW.alike hK9, hD9⟩, hS.F ht⟩) hS.2.2 d_Ref_addOutcome_199
